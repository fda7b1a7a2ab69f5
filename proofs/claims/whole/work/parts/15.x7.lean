theorem cv_X7_thrown : sw_cV yX7_thrown RX7 cX7_thrown 1 (some .int) 0 := ⟨q_967, q_968, q_9, q_969, by decide +kernel⟩
def wX7_thrown  (M : sM) (Q : Int32 → Prop) : Prop :=
  Q (M 33 6)
set_option maxRecDepth 20000 in
theorem kX7_thrown (l : Launch) (g : sG) (o : Nat → Int64) (d : Nat → UInt64)  (M : sM) (Q : Int32 → Prop) (h : wX7_thrown  M Q) : Met l yX7_thrown (sw_ws yX7_thrown cX7_thrown 1 (some .int)) { frames := 0, cells := 0, slots := 0, locals := 0 } (va_Pc [.ref (sw_ad g 33)] (sw_Pr g o d M)) (va_Qi (fun r M1 => Q r ∧ M1 = M) (sw_Po g o d) (sw_A g)) 0 0 (sw_A g) := by
  refine sw_met (by decide) (Nat.le_of_ble_eq_true rfl) ?_
  intro p e s m args below meth c ls hx hb hr hts hown hml hlocks hW hl
  have hown : s.vm.findClass RX7 = some m.cls := hown
  have hl : lv_has ls 1 [(0, .ref (sw_ad g 33))] := hl
  unfold wX7_thrown at h
  refine lv_aload_n hx hb dX7_thrown_0 rfl (lv_at hl 0 rfl) ?_
  refine sw_gi (j := 6) hx hb hts hown hW rfl qf_7 (Nat.le_of_ble_eq_true rfl) sl_33 rfl (Nat.le_of_ble_eq_true rfl) q_950 dX7_thrown_1 ?_
  exact sw_ri hx hb hr hlocks hW rfl ⟨h, rfl⟩ dX7_thrown_4

theorem cs_X7_in : sw_cS yX7_in cX7_in 3 (some .boolean) 3 := ⟨q_987, q_9, q_988, by decide +kernel⟩
def wX7_in (a1 : Int32) (a2 : Int32) (a3 : Int32) (Q : Int32 → Prop) : Prop :=
  (a1 < a2 → (Q (0 : Int32))) ∧ (¬ a1 < a2 → ((a3 < a1 → (Q (0 : Int32))) ∧ (¬ a3 < a1 → (Q (1 : Int32)))))
set_option maxRecDepth 20000 in
theorem kX7_in (l : Launch) (g : sG) (o : Nat → Int64) (d : Nat → UInt64) (a1 : Int32) (a2 : Int32) (a3 : Int32) (M : sM) (Q : Int32 → Prop) (h : wX7_in a1 a2 a3 Q) : Met l yX7_in (sw_ws yX7_in cX7_in 3 (some .boolean)) { frames := 0, cells := 0, slots := 0, locals := 0 } (va_Pc [.int a1, .int a2, .int a3] (sw_Pr g o d M)) (va_Qi (fun r M1 => Q r ∧ M1 = M) (sw_Po g o d) (sw_A g)) 0 0 (sw_A g) := by
  refine sw_met (by decide) (Nat.le_of_ble_eq_true rfl) ?_
  intro p e s m args below meth c ls hx hb hr hts hown hml hlocks hW hl
  have hown : s.vm.findClass RX7 = some m.cls := hown
  have hl : lv_has ls 3 [(0, .int a1), (1, .int a2), (2, .int a3)] := hl
  unfold wX7_in at h
  refine lv_iload_n hx hb dX7_in_0 rfl (lv_at hl 0 rfl) ?_
  refine lv_iload_n hx hb dX7_in_1 rfl (lv_at hl 1 rfl) ?_
  refine lv_icmp_lt (tgt := 14) hx hb dX7_in_2 (by decide) (fun k1 => ?_) (fun k1 => ?_)
  · have h := h.1 k1
    refine lv_iconst (v := 0) hx hb dX7_in_14 (by decide) ?_
    exact sw_ri hx hb hr hlocks hW (by decide) ⟨h, rfl⟩ dX7_in_15
  · have h := h.2 k1
    refine lv_iload_n hx hb dX7_in_5 rfl (lv_at hl 0 rfl) ?_
    refine lv_iload_n hx hb dX7_in_6 rfl (lv_at hl 2 rfl) ?_
    refine lv_icmp_gt (tgt := 14) hx hb dX7_in_7 (by decide) (fun k2 => ?_) (fun k2 => ?_)
    · have h := h.1 k2
      refine lv_iconst (v := 0) hx hb dX7_in_14 (by decide) ?_
      exact sw_ri hx hb hr hlocks hW (by decide) ⟨h, rfl⟩ dX7_in_15
    · have h := h.2 k2
      refine lv_iconst (v := 1) hx hb dX7_in_10 (by decide) ?_
      refine lv_goto (tgt := 15) hx hb dX7_in_11 (by decide) ?_
      exact sw_ri hx hb hr hlocks hW (by decide) ⟨h, rfl⟩ dX7_in_15

theorem cv_X7_keep : sw_cV yX7_keep RX7 cX7_keep 1 none 0 := ⟨q_975, q_1367, q_9, q_976, by decide +kernel⟩
def wX7_keep  (M : sM) (Q : sM → Prop) : Prop :=
  ∀ M1 : sM, M1 = sw_ms M 33 6 (0 : Int32) → ((¬ (0 : Int32) < 0 ∧ ¬ (0 : Int32) < 0 ∧ ¬ (228 : Int32) < 0 ∧ ((0 : Int32)).toNatClampNeg + ((228 : Int32)).toNatClampNeg ≤ 228 ∧ ((0 : Int32)).toNatClampNeg + ((228 : Int32)).toNatClampNeg ≤ 228) ∧ (∀ M2 : sM, M2 = sw_ma M1 35 (va_cpy (M1 34) (M1 35) ((0 : Int32)).toNatClampNeg ((0 : Int32)).toNatClampNeg ((228 : Int32)).toNatClampNeg) → (Q M2)))
set_option maxRecDepth 20000 in
theorem kX7_keep (l : Launch) (g : sG) (o : Nat → Int64) (d : Nat → UInt64)  (M : sM) (Q : sM → Prop) (h : wX7_keep  M Q) : Met l yX7_keep (sw_ws yX7_keep cX7_keep 1 none) { frames := 1, cells := 0, slots := 0, locals := 40 } (va_Pc [.ref (sw_ad g 33)] (sw_Pr g o d M)) (va_Qv Q (sw_Po g o d) (sw_A g)) 0 0 (sw_A g) := by
  refine sw_met (by decide) (Nat.le_of_ble_eq_true rfl) ?_
  intro p e s m args below meth c ls hx hb hr hts hown hml hlocks hW hl
  have hown : s.vm.findClass RX7 = some m.cls := hown
  have hl : lv_has ls 1 [(0, .ref (sw_ad g 33))] := hl
  unfold wX7_keep at h
  refine lv_aload_n hx hb dX7_keep_0 rfl (lv_at hl 0 rfl) ?_
  refine lv_iconst (v := 0) hx hb dX7_keep_1 (by decide) ?_
  refine sw_pi (j := 6) hx hb hts hown hW rfl qf_7 tyX7 tyX7_ok nmX7 (Nat.le_of_ble_eq_true rfl) sl_33 rfl (Nat.le_of_ble_eq_true rfl) q_950 rfl rfl rfl dX7_keep_2 (fun H locs hW => ?_)
  obtain ⟨M1, eM1⟩ : ∃ z : sM, z = sw_ms M 33 6 (0 : Int32) := ⟨_, rfl⟩
  rw [← eM1] at hW
  have h := h M1 eM1
  refine lv_aload_n hx hb dX7_keep_5 rfl (lv_at hl 0 rfl) ?_
  refine sw_gr (j := 0) (r := 34) hx hb hts hown hW rfl qf_7 (Nat.le_of_ble_eq_true rfl) sl_33 rfl (Nat.le_of_ble_eq_true rfl) q_944 dX7_keep_6 ?_
  refine lv_iconst (v := 0) hx hb dX7_keep_9 (by decide) ?_
  refine lv_aload_n hx hb dX7_keep_10 rfl (lv_at hl 0 rfl) ?_
  refine sw_gr (j := 1) (r := 35) hx hb hts hown hW rfl qf_7 (Nat.le_of_ble_eq_true rfl) sl_33 rfl (Nat.le_of_ble_eq_true rfl) q_945 dX7_keep_11 ?_
  refine lv_iconst (v := 0) hx hb dX7_keep_14 (by decide) ?_
  refine lv_sipush (v := 228) hx hb dX7_keep_15 (by decide) ?_
  have z3 := h.1
  have h := h.2
  refine sw_acopy (n0 := 228) (n1 := 228) hx hb hml hl.1 hown hts q_977 q_979 q_978 q_19 hW (Nat.le_of_ble_eq_true rfl) sl_34 (Nat.le_of_ble_eq_true rfl) sl_35 z3 (Nat.le_of_ble_eq_true rfl) (Nat.le_of_ble_eq_true rfl) dX7_keep_18 (fun H locs hW => ?_)
  obtain ⟨M2, eM2⟩ : ∃ z : sM, z = sw_ma M1 35 (va_cpy (M1 34) (M1 35) ((0 : Int32)).toNatClampNeg ((0 : Int32)).toNatClampNeg ((228 : Int32)).toNatClampNeg) := ⟨_, rfl⟩
  rw [← eM2] at hW
  have h := h M2 eM2
  exact sw_rv hx hb hr hlocks hW h dX7_keep_21

def jX7_ends_62 (a1 : Int32) (Q : Int32 → sM → Prop) (M_62 : sM) : Prop :=
  (¬ (0 : Int32) < 0 ∧ ¬ ((228 : Int32) * (M_62 33 5)) < 0 ∧ ¬ (228 : Int32) < 0 ∧ ((0 : Int32)).toNatClampNeg + ((228 : Int32)).toNatClampNeg ≤ 228 ∧ (((228 : Int32) * (M_62 33 5))).toNatClampNeg + ((228 : Int32)).toNatClampNeg ≤ 1824) ∧ (∀ M2 : sM, M2 = sw_ma M_62 37 (va_cpy (M_62 35) (M_62 37) ((0 : Int32)).toNatClampNeg (((228 : Int32) * (M_62 33 5))).toNatClampNeg ((228 : Int32)).toNatClampNeg) → (∀ M3 : sM, M3 = sw_ms M2 33 5 ((M2 33 5) + (1 : Int32)) → (Q a1 M3)))
theorem cv_X7_ends : sw_cV yX7_ends RX7 cX7_ends 2 (some .int) 1 := ⟨q_993, q_1370, q_9, q_994, by decide +kernel⟩
def wX7_ends (a1 : Int32) (M : sM) (Q : Int32 → sM → Prop) : Prop :=
  ((M 33 6) ≤ 0 → (((M 33 5) = (8 : Int32) → ((¬ (228 : Int32) < 0 ∧ ¬ (0 : Int32) < 0 ∧ ¬ (1596 : Int32) < 0 ∧ ((228 : Int32)).toNatClampNeg + ((1596 : Int32)).toNatClampNeg ≤ 1824 ∧ ((0 : Int32)).toNatClampNeg + ((1596 : Int32)).toNatClampNeg ≤ 1824) ∧ (∀ M6 : sM, M6 = sw_ma M 37 (va_cpy (M 37) (M 37) ((228 : Int32)).toNatClampNeg ((0 : Int32)).toNatClampNeg ((1596 : Int32)).toNatClampNeg) → (∀ M7 : sM, M7 = sw_ms M6 33 5 ((M6 33 5) - (1 : Int32)) → (jX7_ends_62 a1 Q M7))))) ∧ (¬ (M 33 5) = (8 : Int32) → (jX7_ends_62 a1 Q M)))) ∧ (¬ (M 33 6) ≤ 0 → ((¬ (0 : Int32) < 0 ∧ ¬ (0 : Int32) < 0 ∧ ¬ (228 : Int32) < 0 ∧ ((0 : Int32)).toNatClampNeg + ((228 : Int32)).toNatClampNeg ≤ 228 ∧ ((0 : Int32)).toNatClampNeg + ((228 : Int32)).toNatClampNeg ≤ 228) ∧ (∀ M9 : sM, M9 = sw_ma M 34 (va_cpy (M 35) (M 34) ((0 : Int32)).toNatClampNeg ((0 : Int32)).toNatClampNeg ((228 : Int32)).toNatClampNeg) → (Q (0 : Int32) M9))))
set_option maxRecDepth 20000 in
theorem kX7_ends (l : Launch) (g : sG) (o : Nat → Int64) (d : Nat → UInt64) (a1 : Int32) (M : sM) (Q : Int32 → sM → Prop) (h : wX7_ends a1 M Q) : Met l yX7_ends (sw_ws yX7_ends cX7_ends 2 (some .int)) { frames := 1, cells := 0, slots := 0, locals := 40 } (va_Pc [.ref (sw_ad g 33), .int a1] (sw_Pr g o d M)) (va_Qi Q (sw_Po g o d) (sw_A g)) 0 0 (sw_A g) := by
  refine sw_met (by decide) (Nat.le_of_ble_eq_true rfl) ?_
  intro p e s m args below meth c ls hx hb hr hts hown hml hlocks hW hl
  have hown : s.vm.findClass RX7 = some m.cls := hown
  have hl : lv_has ls 2 [(0, .ref (sw_ad g 33)), (1, .int a1)] := hl
  unfold wX7_ends at h
  refine lv_aload_n hx hb dX7_ends_0 rfl (lv_at hl 0 rfl) ?_
  refine sw_gi (j := 6) hx hb hts hown hW rfl qf_7 (Nat.le_of_ble_eq_true rfl) sl_33 rfl (Nat.le_of_ble_eq_true rfl) q_950 dX7_ends_1 ?_
  refine lv_if_le (tgt := 25) hx hb dX7_ends_4 (by decide) (fun k1 => ?_) (fun k1 => ?_)
  · have h := h.1 k1
    refine lv_aload_n hx hb dX7_ends_25 rfl (lv_at hl 0 rfl) ?_
    refine sw_gi (j := 5) hx hb hts hown hW rfl qf_7 (Nat.le_of_ble_eq_true rfl) sl_33 rfl (Nat.le_of_ble_eq_true rfl) q_949 dX7_ends_26 ?_
    refine lv_bipush (v := 8) hx hb dX7_ends_29 (by decide) ?_
    refine sw_jn_M (g := g) (o := o) (d := d) (nL := 2) (jp := 62) (J := fun M_62 => jX7_ends_62 a1 Q M_62) (Lf := fun M_62 => [(0, .ref (sw_ad g 33)), (1, .int a1)]) (Sf := fun M_62 => []) (fun M_62 H locs ls h hW hl => ?_) (fun hJ62 => ?_)
    · unfold jX7_ends_62 at h
      refine lv_aload_n hx hb dX7_ends_62 rfl (lv_at hl 0 rfl) ?_
      refine sw_gr (j := 1) (r := 35) hx hb hts hown hW rfl qf_7 (Nat.le_of_ble_eq_true rfl) sl_33 rfl (Nat.le_of_ble_eq_true rfl) q_945 dX7_ends_63 ?_
      refine lv_iconst (v := 0) hx hb dX7_ends_66 (by decide) ?_
      refine lv_aload_n hx hb dX7_ends_67 rfl (lv_at hl 0 rfl) ?_
      refine sw_gr (j := 4) (r := 37) hx hb hts hown hW rfl qf_7 (Nat.le_of_ble_eq_true rfl) sl_33 rfl (Nat.le_of_ble_eq_true rfl) q_948 dX7_ends_68 ?_
      refine lv_sipush (v := 228) hx hb dX7_ends_71 (by decide) ?_
      refine lv_aload_n hx hb dX7_ends_74 rfl (lv_at hl 0 rfl) ?_
      refine sw_gi (j := 5) hx hb hts hown hW rfl qf_7 (Nat.le_of_ble_eq_true rfl) sl_33 rfl (Nat.le_of_ble_eq_true rfl) q_949 dX7_ends_75 ?_
      refine lv_imul hx hb dX7_ends_78 ?_
      refine lv_sipush (v := 228) hx hb dX7_ends_79 (by decide) ?_
      have z4 := h.1
      have h := h.2
      refine sw_acopy (n0 := 228) (n1 := 1824) hx hb hml hl.1 hown hts q_977 q_979 q_978 q_19 hW (Nat.le_of_ble_eq_true rfl) sl_35 (Nat.le_of_ble_eq_true rfl) sl_37 z4 (Nat.le_of_ble_eq_true rfl) (Nat.le_of_ble_eq_true rfl) dX7_ends_82 (fun H locs hW => ?_)
      obtain ⟨M2, eM2⟩ : ∃ z : sM, z = sw_ma M_62 37 (va_cpy (M_62 35) (M_62 37) ((0 : Int32)).toNatClampNeg (((228 : Int32) * (M_62 33 5))).toNatClampNeg ((228 : Int32)).toNatClampNeg) := ⟨_, rfl⟩
      rw [← eM2] at hW
      have h := h M2 eM2
      refine lv_aload_n hx hb dX7_ends_85 rfl (lv_at hl 0 rfl) ?_
      refine lv_dup hx hb dX7_ends_86 rfl ?_
      refine sw_gi (j := 5) hx hb hts hown hW rfl qf_7 (Nat.le_of_ble_eq_true rfl) sl_33 rfl (Nat.le_of_ble_eq_true rfl) q_949 dX7_ends_87 ?_
      refine lv_iconst (v := 1) hx hb dX7_ends_90 (by decide) ?_
      refine lv_iadd hx hb dX7_ends_91 ?_
      refine sw_pi (j := 5) hx hb hts hown hW rfl qf_7 tyX7 tyX7_ok nmX7 (Nat.le_of_ble_eq_true rfl) sl_33 rfl (Nat.le_of_ble_eq_true rfl) q_949 rfl rfl rfl dX7_ends_92 (fun H locs hW => ?_)
      obtain ⟨M3, eM3⟩ : ∃ z : sM, z = sw_ms M2 33 5 ((M2 33 5) + (1 : Int32)) := ⟨_, rfl⟩
      rw [← eM3] at hW
      have h := h M3 eM3
      refine lv_iload_n hx hb dX7_ends_95 rfl (lv_at hl 1 rfl) ?_
      exact sw_ri hx hb hr hlocks hW rfl h dX7_ends_96
    · refine lv_icmp_ne (tgt := 62) hx hb dX7_ends_31 (by decide) (fun k5 => ?_) (fun k5 => ?_)
      · have h := h.2 k5
        exact hJ62 _ _ _ _ h hW (lv_sub hl [0, 1] rfl)
      · have h := h.1 k5
        refine lv_aload_n hx hb dX7_ends_34 rfl (lv_at hl 0 rfl) ?_
        refine sw_gr (j := 4) (r := 37) hx hb hts hown hW rfl qf_7 (Nat.le_of_ble_eq_true rfl) sl_33 rfl (Nat.le_of_ble_eq_true rfl) q_948 dX7_ends_35 ?_
        refine lv_sipush (v := 228) hx hb dX7_ends_38 (by decide) ?_
        refine lv_aload_n hx hb dX7_ends_41 rfl (lv_at hl 0 rfl) ?_
        refine sw_gr (j := 4) (r := 37) hx hb hts hown hW rfl qf_7 (Nat.le_of_ble_eq_true rfl) sl_33 rfl (Nat.le_of_ble_eq_true rfl) q_948 dX7_ends_42 ?_
        refine lv_iconst (v := 0) hx hb dX7_ends_45 (by decide) ?_
        refine lv_sipush (v := 1596) hx hb dX7_ends_46 (by decide) ?_
        have z8 := h.1
        have h := h.2
        refine sw_acopy (n0 := 1824) (n1 := 1824) hx hb hml hl.1 hown hts q_977 q_979 q_978 q_19 hW (Nat.le_of_ble_eq_true rfl) sl_37 (Nat.le_of_ble_eq_true rfl) sl_37 z8 (Nat.le_of_ble_eq_true rfl) (Nat.le_of_ble_eq_true rfl) dX7_ends_49 (fun H locs hW => ?_)
        obtain ⟨M6, eM6⟩ : ∃ z : sM, z = sw_ma M 37 (va_cpy (M 37) (M 37) ((228 : Int32)).toNatClampNeg ((0 : Int32)).toNatClampNeg ((1596 : Int32)).toNatClampNeg) := ⟨_, rfl⟩
        rw [← eM6] at hW
        have h := h M6 eM6
        refine lv_aload_n hx hb dX7_ends_52 rfl (lv_at hl 0 rfl) ?_
        refine lv_dup hx hb dX7_ends_53 rfl ?_
        refine sw_gi (j := 5) hx hb hts hown hW rfl qf_7 (Nat.le_of_ble_eq_true rfl) sl_33 rfl (Nat.le_of_ble_eq_true rfl) q_949 dX7_ends_54 ?_
        refine lv_iconst (v := 1) hx hb dX7_ends_57 (by decide) ?_
        refine lv_isub hx hb dX7_ends_58 ?_
        refine sw_pi (j := 5) hx hb hts hown hW rfl qf_7 tyX7 tyX7_ok nmX7 (Nat.le_of_ble_eq_true rfl) sl_33 rfl (Nat.le_of_ble_eq_true rfl) q_949 rfl rfl rfl dX7_ends_59 (fun H locs hW => ?_)
        obtain ⟨M7, eM7⟩ : ∃ z : sM, z = sw_ms M6 33 5 ((M6 33 5) - (1 : Int32)) := ⟨_, rfl⟩
        rw [← eM7] at hW
        have h := h M7 eM7
        exact hJ62 _ _ _ _ h hW (lv_sub hl [0, 1] rfl)
  · have h := h.2 k1
    refine lv_aload_n hx hb dX7_ends_7 rfl (lv_at hl 0 rfl) ?_
    refine sw_gr (j := 1) (r := 35) hx hb hts hown hW rfl qf_7 (Nat.le_of_ble_eq_true rfl) sl_33 rfl (Nat.le_of_ble_eq_true rfl) q_945 dX7_ends_8 ?_
    refine lv_iconst (v := 0) hx hb dX7_ends_11 (by decide) ?_
    refine lv_aload_n hx hb dX7_ends_12 rfl (lv_at hl 0 rfl) ?_
    refine sw_gr (j := 0) (r := 34) hx hb hts hown hW rfl qf_7 (Nat.le_of_ble_eq_true rfl) sl_33 rfl (Nat.le_of_ble_eq_true rfl) q_944 dX7_ends_13 ?_
    refine lv_iconst (v := 0) hx hb dX7_ends_16 (by decide) ?_
    refine lv_sipush (v := 228) hx hb dX7_ends_17 (by decide) ?_
    have z10 := h.1
    have h := h.2
    refine sw_acopy (n0 := 228) (n1 := 228) hx hb hml hl.1 hown hts q_977 q_979 q_978 q_19 hW (Nat.le_of_ble_eq_true rfl) sl_35 (Nat.le_of_ble_eq_true rfl) sl_34 z10 (Nat.le_of_ble_eq_true rfl) (Nat.le_of_ble_eq_true rfl) dX7_ends_20 (fun H locs hW => ?_)
    obtain ⟨M9, eM9⟩ : ∃ z : sM, z = sw_ma M 34 (va_cpy (M 35) (M 34) ((0 : Int32)).toNatClampNeg ((0 : Int32)).toNatClampNeg ((228 : Int32)).toNatClampNeg) := ⟨_, rfl⟩
    rw [← eM9] at hW
    have h := h M9 eM9
    refine lv_iconst (v := 0) hx hb dX7_ends_23 (by decide) ?_
    exact sw_ri hx hb hr hlocks hW rfl h dX7_ends_24

theorem cv_X7_fails : sw_cV yX7_fails RX7 cX7_fails 2 (some .int) 1 := ⟨q_990, q_1369, q_9, q_991, by decide +kernel⟩
def wX7_fails (a1 : Int32) (M : sM) (Q : Int32 → sM → Prop) : Prop :=
  ∀ M1 : sM, M1 = sw_ms M 33 6 a1 → (Q (0 : Int32) M1)
set_option maxRecDepth 20000 in
theorem kX7_fails (l : Launch) (g : sG) (o : Nat → Int64) (d : Nat → UInt64) (a1 : Int32) (M : sM) (Q : Int32 → sM → Prop) (h : wX7_fails a1 M Q) : Met l yX7_fails (sw_ws yX7_fails cX7_fails 2 (some .int)) { frames := 0, cells := 0, slots := 0, locals := 0 } (va_Pc [.ref (sw_ad g 33), .int a1] (sw_Pr g o d M)) (va_Qi Q (sw_Po g o d) (sw_A g)) 0 0 (sw_A g) := by
  refine sw_met (by decide) (Nat.le_of_ble_eq_true rfl) ?_
  intro p e s m args below meth c ls hx hb hr hts hown hml hlocks hW hl
  have hown : s.vm.findClass RX7 = some m.cls := hown
  have hl : lv_has ls 2 [(0, .ref (sw_ad g 33)), (1, .int a1)] := hl
  unfold wX7_fails at h
  refine lv_aload_n hx hb dX7_fails_0 rfl (lv_at hl 0 rfl) ?_
  refine lv_iload_n hx hb dX7_fails_1 rfl (lv_at hl 1 rfl) ?_
  refine sw_pi (j := 6) hx hb hts hown hW rfl qf_7 tyX7 tyX7_ok nmX7 (Nat.le_of_ble_eq_true rfl) sl_33 rfl (Nat.le_of_ble_eq_true rfl) q_950 rfl rfl rfl dX7_fails_2 (fun H locs hW => ?_)
  obtain ⟨M1, eM1⟩ : ∃ z : sM, z = sw_ms M 33 6 a1 := ⟨_, rfl⟩
  rw [← eM1] at hW
  have h := h M1 eM1
  refine lv_iconst (v := 0) hx hb dX7_fails_5 (by decide) ?_
  exact sw_ri hx hb hr hlocks hW rfl h dX7_fails_6

theorem cv_X7_isThere : sw_cV yX7_isThere RX7 cX7_isThere 2 (some .boolean) 1 := ⟨q_1144, q_1405, q_9, q_1145, by decide +kernel⟩
def wX7_isThere (a1 : Int32) (M : sM) (Q : Int32 → sM → Prop) : Prop :=
  (a1 = 0 → (∀ M2 : sM, M2 = sw_ms M 33 6 (1 : Int32) → (narrow .boolean (.int a1) = .int a1 ∧ (Q a1 M2)))) ∧ (¬ a1 = 0 → (∀ M3 : sM, M3 = sw_ms M 33 6 (0 : Int32) → (narrow .boolean (.int a1) = .int a1 ∧ (Q a1 M3))))
set_option maxRecDepth 20000 in
theorem kX7_isThere (l : Launch) (g : sG) (o : Nat → Int64) (d : Nat → UInt64) (a1 : Int32) (M : sM) (Q : Int32 → sM → Prop) (h : wX7_isThere a1 M Q) : Met l yX7_isThere (sw_ws yX7_isThere cX7_isThere 2 (some .boolean)) { frames := 0, cells := 0, slots := 0, locals := 0 } (va_Pc [.ref (sw_ad g 33), .int a1] (sw_Pr g o d M)) (va_Qi Q (sw_Po g o d) (sw_A g)) 0 0 (sw_A g) := by
  refine sw_met (by decide) (Nat.le_of_ble_eq_true rfl) ?_
  intro p e s m args below meth c ls hx hb hr hts hown hml hlocks hW hl
  have hown : s.vm.findClass RX7 = some m.cls := hown
  have hl : lv_has ls 2 [(0, .ref (sw_ad g 33)), (1, .int a1)] := hl
  unfold wX7_isThere at h
  refine lv_aload_n hx hb dX7_isThere_0 rfl (lv_at hl 0 rfl) ?_
  refine lv_iload_n hx hb dX7_isThere_1 rfl (lv_at hl 1 rfl) ?_
  refine lv_if_eq (tgt := 9) hx hb dX7_isThere_2 (by decide) (fun k1 => ?_) (fun k1 => ?_)
  · have h := h.1 k1
    refine lv_iconst (v := 1) hx hb dX7_isThere_9 (by decide) ?_
    refine sw_pi (j := 6) hx hb hts hown hW rfl qf_7 tyX7 tyX7_ok nmX7 (Nat.le_of_ble_eq_true rfl) sl_33 rfl (Nat.le_of_ble_eq_true rfl) q_950 rfl rfl rfl dX7_isThere_10 (fun H locs hW => ?_)
    obtain ⟨M2, eM2⟩ : ∃ z : sM, z = sw_ms M 33 6 (1 : Int32) := ⟨_, rfl⟩
    rw [← eM2] at hW
    have h := h M2 eM2
    refine lv_iload_n hx hb dX7_isThere_13 rfl (lv_at hl 1 rfl) ?_
    exact sw_ri hx hb hr hlocks hW h.1 h.2 dX7_isThere_14
  · have h := h.2 k1
    refine lv_iconst (v := 0) hx hb dX7_isThere_5 (by decide) ?_
    refine lv_goto (tgt := 10) hx hb dX7_isThere_6 (by decide) ?_
    refine sw_pi (j := 6) hx hb hts hown hW rfl qf_7 tyX7 tyX7_ok nmX7 (Nat.le_of_ble_eq_true rfl) sl_33 rfl (Nat.le_of_ble_eq_true rfl) q_950 rfl rfl rfl dX7_isThere_10 (fun H locs hW => ?_)
    obtain ⟨M3, eM3⟩ : ∃ z : sM, z = sw_ms M 33 6 (0 : Int32) := ⟨_, rfl⟩
    rw [← eM3] at hW
    have h := h M3 eM3
    refine lv_iload_n hx hb dX7_isThere_13 rfl (lv_at hl 1 rfl) ?_
    exact sw_ri hx hb hr hlocks hW h.1 h.2 dX7_isThere_14

theorem cv_X7_isDoor : sw_cV yX7_isDoor RX7 cX7_isDoor 2 (some .boolean) 1 := ⟨q_1016, q_1375, q_9, q_1017, by decide +kernel⟩
def wX7_isDoor (a1 : Int32) (M : sM) (Q : Int32 → Prop) : Prop :=
  wX7_in a1 (0 : Int32) ((M 34 ((0 : Int32)).toNatClampNeg) - (1 : Int32)) (fun r1 => narrow .boolean (.int r1) = .int r1 ∧ (Q r1))
set_option maxRecDepth 20000 in
theorem kX7_isDoor (l : Launch) (g : sG) (o : Nat → Int64) (d : Nat → UInt64) (a1 : Int32) (M : sM) (Q : Int32 → Prop) (h : wX7_isDoor a1 M Q) : Met l yX7_isDoor (sw_ws yX7_isDoor cX7_isDoor 2 (some .boolean)) { frames := 1, cells := 0, slots := 0, locals := 22 } (va_Pc [.ref (sw_ad g 33), .int a1] (sw_Pr g o d M)) (va_Qi (fun r M1 => Q r ∧ M1 = M) (sw_Po g o d) (sw_A g)) 0 0 (sw_A g) := by
  refine sw_met (by decide) (Nat.le_of_ble_eq_true rfl) ?_
  intro p e s m args below meth c ls hx hb hr hts hown hml hlocks hW hl
  have hown : s.vm.findClass RX7 = some m.cls := hown
  have hl : lv_has ls 2 [(0, .ref (sw_ad g 33)), (1, .int a1)] := hl
  unfold wX7_isDoor at h
  refine lv_iload_n hx hb dX7_isDoor_0 rfl (lv_at hl 1 rfl) ?_
  refine lv_iconst (v := 0) hx hb dX7_isDoor_1 (by decide) ?_
  refine lv_aload_n hx hb dX7_isDoor_2 rfl (lv_at hl 0 rfl) ?_
  refine sw_gr (j := 0) (r := 34) hx hb hts hown hW rfl qf_7 (Nat.le_of_ble_eq_true rfl) sl_33 rfl (Nat.le_of_ble_eq_true rfl) q_944 dX7_isDoor_3 ?_
  refine lv_iconst (v := 0) hx hb dX7_isDoor_6 (by decide) ?_
  refine sw_ia (n := 228) hx hb hW (Nat.le_of_ble_eq_true rfl) sl_34 (vp_in_iff.mpr (by decide)) dX7_isDoor_7 ?_
  refine lv_iconst (v := 1) hx hb dX7_isDoor_8 (by decide) ?_
  refine lv_isub hx hb dX7_isDoor_9 ?_
  refine sw_ki (rest := []) (sw_runS (As := [.int a1, .int (0 : Int32), .int ((M 34 ((0 : Int32)).toNatClampNeg) - (1 : Int32))]) (rest := []) hx hb hml hown hts (kX7_in l g o d a1 (0 : Int32) ((M 34 ((0 : Int32)).toNatClampNeg) - (1 : Int32)) M _ h) cs_X7_in q_986 rfl rfl ⟨(Nat.le_of_ble_eq_true rfl), (Nat.le_of_ble_eq_true rfl)⟩ hW rfl hl.1 rfl (Nat.le_of_ble_eq_true rfl) dX7_isDoor_10 ⟨(Nat.le_of_ble_eq_true rfl), (Nat.le_of_ble_eq_true rfl)⟩) hW (fun r1 M2 H locs h hW => ?_)
  obtain ⟨h, eM2⟩ := h
  rw [eM2] at hW
  exact sw_ri hx hb hr hlocks hW h.1 ⟨h.2, rfl⟩ dX7_isDoor_13

theorem cv_X7_isExaminer : sw_cV yX7_isExaminer RX7 cX7_isExaminer 2 (some .boolean) 1 := ⟨q_1013, q_1374, q_9, q_1014, by decide +kernel⟩
def wX7_isExaminer (a1 : Int32) (M : sM) (Q : Int32 → Prop) : Prop :=
  wX7_in a1 (0 : Int32) ((M 34 ((1 : Int32)).toNatClampNeg) - (1 : Int32)) (fun r1 => narrow .boolean (.int r1) = .int r1 ∧ (Q r1))
set_option maxRecDepth 20000 in
theorem kX7_isExaminer (l : Launch) (g : sG) (o : Nat → Int64) (d : Nat → UInt64) (a1 : Int32) (M : sM) (Q : Int32 → Prop) (h : wX7_isExaminer a1 M Q) : Met l yX7_isExaminer (sw_ws yX7_isExaminer cX7_isExaminer 2 (some .boolean)) { frames := 1, cells := 0, slots := 0, locals := 22 } (va_Pc [.ref (sw_ad g 33), .int a1] (sw_Pr g o d M)) (va_Qi (fun r M1 => Q r ∧ M1 = M) (sw_Po g o d) (sw_A g)) 0 0 (sw_A g) := by
  refine sw_met (by decide) (Nat.le_of_ble_eq_true rfl) ?_
  intro p e s m args below meth c ls hx hb hr hts hown hml hlocks hW hl
  have hown : s.vm.findClass RX7 = some m.cls := hown
  have hl : lv_has ls 2 [(0, .ref (sw_ad g 33)), (1, .int a1)] := hl
  unfold wX7_isExaminer at h
  refine lv_iload_n hx hb dX7_isExaminer_0 rfl (lv_at hl 1 rfl) ?_
  refine lv_iconst (v := 0) hx hb dX7_isExaminer_1 (by decide) ?_
  refine lv_aload_n hx hb dX7_isExaminer_2 rfl (lv_at hl 0 rfl) ?_
  refine sw_gr (j := 0) (r := 34) hx hb hts hown hW rfl qf_7 (Nat.le_of_ble_eq_true rfl) sl_33 rfl (Nat.le_of_ble_eq_true rfl) q_944 dX7_isExaminer_3 ?_
  refine lv_iconst (v := 1) hx hb dX7_isExaminer_6 (by decide) ?_
  refine sw_ia (n := 228) hx hb hW (Nat.le_of_ble_eq_true rfl) sl_34 (vp_in_iff.mpr (by decide)) dX7_isExaminer_7 ?_
  refine lv_iconst (v := 1) hx hb dX7_isExaminer_8 (by decide) ?_
  refine lv_isub hx hb dX7_isExaminer_9 ?_
  refine sw_ki (rest := []) (sw_runS (As := [.int a1, .int (0 : Int32), .int ((M 34 ((1 : Int32)).toNatClampNeg) - (1 : Int32))]) (rest := []) hx hb hml hown hts (kX7_in l g o d a1 (0 : Int32) ((M 34 ((1 : Int32)).toNatClampNeg) - (1 : Int32)) M _ h) cs_X7_in q_986 rfl rfl ⟨(Nat.le_of_ble_eq_true rfl), (Nat.le_of_ble_eq_true rfl)⟩ hW rfl hl.1 rfl (Nat.le_of_ble_eq_true rfl) dX7_isExaminer_10 ⟨(Nat.le_of_ble_eq_true rfl), (Nat.le_of_ble_eq_true rfl)⟩) hW (fun r1 M2 H locs h hW => ?_)
  obtain ⟨h, eM2⟩ := h
  rw [eM2] at hW
  exact sw_ri hx hb hr hlocks hW h.1 ⟨h.2, rfl⟩ dX7_isExaminer_13

theorem cv_X7_arePair : sw_cV yX7_arePair RX7 cX7_arePair 3 (some .boolean) 2 := ⟨q_1010, q_1373, q_9, q_1011, by decide +kernel⟩
def wX7_arePair (a1 : Int32) (a2 : Int32) (M : sM) (Q : Int32 → Prop) : Prop :=
  wX7_isExaminer a1 M (fun r1 => (r1 = 0 → (Q (0 : Int32))) ∧ (¬ r1 = 0 → (wX7_isDoor a2 M (fun r3 => (r3 = 0 → (Q (0 : Int32))) ∧ (¬ r3 = 0 → (Q (1 : Int32)))))))
set_option maxRecDepth 20000 in
theorem kX7_arePair (l : Launch) (g : sG) (o : Nat → Int64) (d : Nat → UInt64) (a1 : Int32) (a2 : Int32) (M : sM) (Q : Int32 → Prop) (h : wX7_arePair a1 a2 M Q) : Met l yX7_arePair (sw_ws yX7_arePair cX7_arePair 3 (some .boolean)) { frames := 2, cells := 0, slots := 0, locals := 43 } (va_Pc [.ref (sw_ad g 33), .int a1, .int a2] (sw_Pr g o d M)) (va_Qi (fun r M1 => Q r ∧ M1 = M) (sw_Po g o d) (sw_A g)) 0 0 (sw_A g) := by
  refine sw_met (by decide) (Nat.le_of_ble_eq_true rfl) ?_
  intro p e s m args below meth c ls hx hb hr hts hown hml hlocks hW hl
  have hown : s.vm.findClass RX7 = some m.cls := hown
  have hl : lv_has ls 3 [(0, .ref (sw_ad g 33)), (1, .int a1), (2, .int a2)] := hl
  unfold wX7_arePair at h
  refine lv_aload_n hx hb dX7_arePair_0 rfl (lv_at hl 0 rfl) ?_
  refine lv_iload_n hx hb dX7_arePair_1 rfl (lv_at hl 1 rfl) ?_
  refine sw_ki (rest := []) (sw_runV (As := [.int a1]) (rest := []) hx hb hml hown hts (kX7_isExaminer l g o d a1 M _ h) cv_X7_isExaminer q_1012 rfl rfl ⟨(Nat.le_of_ble_eq_true rfl), (Nat.le_of_ble_eq_true rfl)⟩ hW (Nat.le_of_ble_eq_true rfl) sl_33 rfl rfl hl.1 rfl (Nat.le_of_ble_eq_true rfl) dX7_arePair_2 ⟨(Nat.le_of_ble_eq_true rfl), (Nat.le_of_ble_eq_true rfl)⟩) hW (fun r1 M6 H locs h hW => ?_)
  obtain ⟨h, eM6⟩ := h
  rw [eM6] at hW
  refine lv_if_eq (tgt := 20) hx hb dX7_arePair_5 (by decide) (fun k2 => ?_) (fun k2 => ?_)
  · have h := h.1 k2
    refine lv_iconst (v := 0) hx hb dX7_arePair_20 (by decide) ?_
    exact sw_ri hx hb hr hlocks hW (by decide) ⟨h, rfl⟩ dX7_arePair_21
  · have h := h.2 k2
    refine lv_aload_n hx hb dX7_arePair_8 rfl (lv_at hl 0 rfl) ?_
    refine lv_iload_n hx hb dX7_arePair_9 rfl (lv_at hl 2 rfl) ?_
    refine sw_ki (rest := []) (sw_runV (As := [.int a2]) (rest := []) hx hb hml hown hts (kX7_isDoor l g o d a2 M _ h) cv_X7_isDoor q_1015 rfl rfl ⟨(Nat.le_of_ble_eq_true rfl), (Nat.le_of_ble_eq_true rfl)⟩ hW (Nat.le_of_ble_eq_true rfl) sl_33 rfl rfl hl.1 rfl (Nat.le_of_ble_eq_true rfl) dX7_arePair_10 ⟨(Nat.le_of_ble_eq_true rfl), (Nat.le_of_ble_eq_true rfl)⟩) hW (fun r3 M5 H locs h hW => ?_)
    obtain ⟨h, eM5⟩ := h
    rw [eM5] at hW
    refine lv_if_eq (tgt := 20) hx hb dX7_arePair_13 (by decide) (fun k4 => ?_) (fun k4 => ?_)
    · have h := h.1 k4
      refine lv_iconst (v := 0) hx hb dX7_arePair_20 (by decide) ?_
      exact sw_ri hx hb hr hlocks hW (by decide) ⟨h, rfl⟩ dX7_arePair_21
    · have h := h.2 k4
      refine lv_iconst (v := 1) hx hb dX7_arePair_16 (by decide) ?_
      refine lv_goto (tgt := 21) hx hb dX7_arePair_17 (by decide) ?_
      exact sw_ri hx hb hr hlocks hW (by decide) ⟨h, rfl⟩ dX7_arePair_21

theorem cv_X7_door : sw_cV yX7_door RX7 cX7_door 3 (some .int) 2 := ⟨q_1034, q_1381, q_9, q_1035, by decide +kernel⟩
def wX7_door (a1 : Int32) (a2 : Int32) (M : sM) (Q : Int32 → Prop) : Prop :=
  vp_in (((4 : Int32) + ((5 : Int32) * a1)) + a2) 228 ∧ (Q (M 34 ((((4 : Int32) + ((5 : Int32) * a1)) + a2)).toNatClampNeg))
set_option maxRecDepth 20000 in
theorem kX7_door (l : Launch) (g : sG) (o : Nat → Int64) (d : Nat → UInt64) (a1 : Int32) (a2 : Int32) (M : sM) (Q : Int32 → Prop) (h : wX7_door a1 a2 M Q) : Met l yX7_door (sw_ws yX7_door cX7_door 3 (some .int)) { frames := 0, cells := 0, slots := 0, locals := 0 } (va_Pc [.ref (sw_ad g 33), .int a1, .int a2] (sw_Pr g o d M)) (va_Qi (fun r M1 => Q r ∧ M1 = M) (sw_Po g o d) (sw_A g)) 0 0 (sw_A g) := by
  refine sw_met (by decide) (Nat.le_of_ble_eq_true rfl) ?_
  intro p e s m args below meth c ls hx hb hr hts hown hml hlocks hW hl
  have hown : s.vm.findClass RX7 = some m.cls := hown
  have hl : lv_has ls 3 [(0, .ref (sw_ad g 33)), (1, .int a1), (2, .int a2)] := hl
  unfold wX7_door at h
  refine lv_aload_n hx hb dX7_door_0 rfl (lv_at hl 0 rfl) ?_
  refine sw_gr (j := 0) (r := 34) hx hb hts hown hW rfl qf_7 (Nat.le_of_ble_eq_true rfl) sl_33 rfl (Nat.le_of_ble_eq_true rfl) q_944 dX7_door_1 ?_
  refine lv_iconst (v := 4) hx hb dX7_door_4 (by decide) ?_
  refine lv_iconst (v := 5) hx hb dX7_door_5 (by decide) ?_
  refine lv_iload_n hx hb dX7_door_6 rfl (lv_at hl 1 rfl) ?_
  refine lv_imul hx hb dX7_door_7 ?_
  refine lv_iadd hx hb dX7_door_8 ?_
  refine lv_iload_n hx hb dX7_door_9 rfl (lv_at hl 2 rfl) ?_
  refine lv_iadd hx hb dX7_door_10 ?_
  have b1 := h.1
  have h := h.2
  refine sw_ia (n := 228) hx hb hW (Nat.le_of_ble_eq_true rfl) sl_34 b1 dX7_door_11 ?_
  exact sw_ri hx hb hr hlocks hW rfl ⟨h, rfl⟩ dX7_door_12

theorem cv_X7_examiner : sw_cV yX7_examiner RX7 cX7_examiner 3 (some .int) 2 := ⟨q_1031, q_1380, q_9, q_1032, by decide +kernel⟩
def wX7_examiner (a1 : Int32) (a2 : Int32) (M : sM) (Q : Int32 → Prop) : Prop :=
  vp_in (((44 : Int32) + ((4 : Int32) * a1)) + a2) 228 ∧ (Q (M 34 ((((44 : Int32) + ((4 : Int32) * a1)) + a2)).toNatClampNeg))
set_option maxRecDepth 20000 in
theorem kX7_examiner (l : Launch) (g : sG) (o : Nat → Int64) (d : Nat → UInt64) (a1 : Int32) (a2 : Int32) (M : sM) (Q : Int32 → Prop) (h : wX7_examiner a1 a2 M Q) : Met l yX7_examiner (sw_ws yX7_examiner cX7_examiner 3 (some .int)) { frames := 0, cells := 0, slots := 0, locals := 0 } (va_Pc [.ref (sw_ad g 33), .int a1, .int a2] (sw_Pr g o d M)) (va_Qi (fun r M1 => Q r ∧ M1 = M) (sw_Po g o d) (sw_A g)) 0 0 (sw_A g) := by
  refine sw_met (by decide) (Nat.le_of_ble_eq_true rfl) ?_
  intro p e s m args below meth c ls hx hb hr hts hown hml hlocks hW hl
  have hown : s.vm.findClass RX7 = some m.cls := hown
  have hl : lv_has ls 3 [(0, .ref (sw_ad g 33)), (1, .int a1), (2, .int a2)] := hl
  unfold wX7_examiner at h
  refine lv_aload_n hx hb dX7_examiner_0 rfl (lv_at hl 0 rfl) ?_
  refine sw_gr (j := 0) (r := 34) hx hb hts hown hW rfl qf_7 (Nat.le_of_ble_eq_true rfl) sl_33 rfl (Nat.le_of_ble_eq_true rfl) q_944 dX7_examiner_1 ?_
  refine lv_bipush (v := 44) hx hb dX7_examiner_4 (by decide) ?_
  refine lv_iconst (v := 4) hx hb dX7_examiner_6 (by decide) ?_
  refine lv_iload_n hx hb dX7_examiner_7 rfl (lv_at hl 1 rfl) ?_
  refine lv_imul hx hb dX7_examiner_8 ?_
  refine lv_iadd hx hb dX7_examiner_9 ?_
  refine lv_iload_n hx hb dX7_examiner_10 rfl (lv_at hl 2 rfl) ?_
  refine lv_iadd hx hb dX7_examiner_11 ?_
  have b1 := h.1
  have h := h.2
  refine sw_ia (n := 228) hx hb hW (Nat.le_of_ble_eq_true rfl) sl_34 b1 dX7_examiner_12 ?_
  exact sw_ri hx hb hr hlocks hW rfl ⟨h, rfl⟩ dX7_examiner_13

theorem cv_X7_pair : sw_cV yX7_pair RX7 cX7_pair 4 (some .int) 3 := ⟨q_1019, q_1376, q_9, q_1020, by decide +kernel⟩
def wX7_pair (a1 : Int32) (a2 : Int32) (a3 : Int32) (M : sM) (Q : Int32 → Prop) : Prop :=
  vp_in (((68 : Int32) + ((3 : Int32) * (((8 : Int32) * a1) + a2))) + a3) 228 ∧ (Q (M 34 ((((68 : Int32) + ((3 : Int32) * (((8 : Int32) * a1) + a2))) + a3)).toNatClampNeg))
set_option maxRecDepth 20000 in
theorem kX7_pair (l : Launch) (g : sG) (o : Nat → Int64) (d : Nat → UInt64) (a1 : Int32) (a2 : Int32) (a3 : Int32) (M : sM) (Q : Int32 → Prop) (h : wX7_pair a1 a2 a3 M Q) : Met l yX7_pair (sw_ws yX7_pair cX7_pair 4 (some .int)) { frames := 0, cells := 0, slots := 0, locals := 0 } (va_Pc [.ref (sw_ad g 33), .int a1, .int a2, .int a3] (sw_Pr g o d M)) (va_Qi (fun r M1 => Q r ∧ M1 = M) (sw_Po g o d) (sw_A g)) 0 0 (sw_A g) := by
  refine sw_met (by decide) (Nat.le_of_ble_eq_true rfl) ?_
  intro p e s m args below meth c ls hx hb hr hts hown hml hlocks hW hl
  have hown : s.vm.findClass RX7 = some m.cls := hown
  have hl : lv_has ls 4 [(0, .ref (sw_ad g 33)), (1, .int a1), (2, .int a2), (3, .int a3)] := hl
  unfold wX7_pair at h
  refine lv_aload_n hx hb dX7_pair_0 rfl (lv_at hl 0 rfl) ?_
  refine sw_gr (j := 0) (r := 34) hx hb hts hown hW rfl qf_7 (Nat.le_of_ble_eq_true rfl) sl_33 rfl (Nat.le_of_ble_eq_true rfl) q_944 dX7_pair_1 ?_
  refine lv_bipush (v := 68) hx hb dX7_pair_4 (by decide) ?_
  refine lv_iconst (v := 3) hx hb dX7_pair_6 (by decide) ?_
  refine lv_bipush (v := 8) hx hb dX7_pair_7 (by decide) ?_
  refine lv_iload_n hx hb dX7_pair_9 rfl (lv_at hl 1 rfl) ?_
  refine lv_imul hx hb dX7_pair_10 ?_
  refine lv_iload_n hx hb dX7_pair_11 rfl (lv_at hl 2 rfl) ?_
  refine lv_iadd hx hb dX7_pair_12 ?_
  refine lv_imul hx hb dX7_pair_13 ?_
  refine lv_iadd hx hb dX7_pair_14 ?_
  refine lv_iload_n hx hb dX7_pair_15 rfl (lv_at hl 3 rfl) ?_
  refine lv_iadd hx hb dX7_pair_16 ?_
  have b1 := h.1
  have h := h.2
  refine sw_ia (n := 228) hx hb hW (Nat.le_of_ble_eq_true rfl) sl_34 b1 dX7_pair_17 ?_
  exact sw_ri hx hb hr hlocks hW rfl ⟨h, rfl⟩ dX7_pair_18

theorem cv_X7_setsPair : sw_cV yX7_setsPair RX7 cX7_setsPair 5 none 4 := ⟨q_1025, q_1378, q_9, q_1026, by decide +kernel⟩
def wX7_setsPair (a1 : Int32) (a2 : Int32) (a3 : Int32) (a4 : Int32) (M : sM) (Q : sM → Prop) : Prop :=
  vp_in (((68 : Int32) + ((3 : Int32) * (((8 : Int32) * a1) + a2))) + a3) 228 ∧ (∀ M2 : sM, M2 = sw_ms M 34 ((((68 : Int32) + ((3 : Int32) * (((8 : Int32) * a1) + a2))) + a3)).toNatClampNeg a4 → (Q M2))
set_option maxRecDepth 20000 in
theorem kX7_setsPair (l : Launch) (g : sG) (o : Nat → Int64) (d : Nat → UInt64) (a1 : Int32) (a2 : Int32) (a3 : Int32) (a4 : Int32) (M : sM) (Q : sM → Prop) (h : wX7_setsPair a1 a2 a3 a4 M Q) : Met l yX7_setsPair (sw_ws yX7_setsPair cX7_setsPair 5 none) { frames := 0, cells := 0, slots := 0, locals := 0 } (va_Pc [.ref (sw_ad g 33), .int a1, .int a2, .int a3, .int a4] (sw_Pr g o d M)) (va_Qv Q (sw_Po g o d) (sw_A g)) 0 0 (sw_A g) := by
  refine sw_met (by decide) (Nat.le_of_ble_eq_true rfl) ?_
  intro p e s m args below meth c ls hx hb hr hts hown hml hlocks hW hl
  have hown : s.vm.findClass RX7 = some m.cls := hown
  have hl : lv_has ls 5 [(0, .ref (sw_ad g 33)), (1, .int a1), (2, .int a2), (3, .int a3), (4, .int a4)] := hl
  unfold wX7_setsPair at h
  refine lv_aload_n hx hb dX7_setsPair_0 rfl (lv_at hl 0 rfl) ?_
  refine sw_gr (j := 0) (r := 34) hx hb hts hown hW rfl qf_7 (Nat.le_of_ble_eq_true rfl) sl_33 rfl (Nat.le_of_ble_eq_true rfl) q_944 dX7_setsPair_1 ?_
  refine lv_bipush (v := 68) hx hb dX7_setsPair_4 (by decide) ?_
  refine lv_iconst (v := 3) hx hb dX7_setsPair_6 (by decide) ?_
  refine lv_bipush (v := 8) hx hb dX7_setsPair_7 (by decide) ?_
  refine lv_iload_n hx hb dX7_setsPair_9 rfl (lv_at hl 1 rfl) ?_
  refine lv_imul hx hb dX7_setsPair_10 ?_
  refine lv_iload_n hx hb dX7_setsPair_11 rfl (lv_at hl 2 rfl) ?_
  refine lv_iadd hx hb dX7_setsPair_12 ?_
  refine lv_imul hx hb dX7_setsPair_13 ?_
  refine lv_iadd hx hb dX7_setsPair_14 ?_
  refine lv_iload_n hx hb dX7_setsPair_15 rfl (lv_at hl 3 rfl) ?_
  refine lv_iadd hx hb dX7_setsPair_16 ?_
  refine lv_iload hx hb dX7_setsPair_17 (lv_at hl 4 rfl) ?_
  have b1 := h.1
  have h := h.2
  refine sw_is (n := 228) hx hb hW (Nat.le_of_ble_eq_true rfl) sl_34 b1 dX7_setsPair_19 (fun H locs hW => ?_)
  obtain ⟨M2, eM2⟩ : ∃ z : sM, z = sw_ms M 34 ((((68 : Int32) + ((3 : Int32) * (((8 : Int32) * a1) + a2))) + a3)).toNatClampNeg a4 := ⟨_, rfl⟩
  rw [← eM2] at hW
  have h := h M2 eM2
  exact sw_rv hx hb hr hlocks hW h dX7_setsPair_20

theorem cv_X7_neutral : sw_cV yX7_neutral RX7 cX7_neutral 3 (some .boolean) 2 := ⟨q_1028, q_1379, q_9, q_1029, by decide +kernel⟩
def wX7_neutral (a1 : Int32) (a2 : Int32) (M : sM) (Q : Int32 → Prop) : Prop :=
  wX7_examiner a1 (0 : Int32) M (fun r1 => wX7_door a2 (0 : Int32) M (fun r2 => (r1 = r2 → (Q (0 : Int32))) ∧ (¬ r1 = r2 → (wX7_pair a1 a2 (0 : Int32) M (fun r4 => (r4 = 0 → (Q (1 : Int32))) ∧ (¬ r4 = 0 → (Q (0 : Int32))))))))
set_option maxRecDepth 20000 in
theorem kX7_neutral (l : Launch) (g : sG) (o : Nat → Int64) (d : Nat → UInt64) (a1 : Int32) (a2 : Int32) (M : sM) (Q : Int32 → Prop) (h : wX7_neutral a1 a2 M Q) : Met l yX7_neutral (sw_ws yX7_neutral cX7_neutral 3 (some .boolean)) { frames := 1, cells := 0, slots := 0, locals := 23 } (va_Pc [.ref (sw_ad g 33), .int a1, .int a2] (sw_Pr g o d M)) (va_Qi (fun r M1 => Q r ∧ M1 = M) (sw_Po g o d) (sw_A g)) 0 0 (sw_A g) := by
  refine sw_met (by decide) (Nat.le_of_ble_eq_true rfl) ?_
  intro p e s m args below meth c ls hx hb hr hts hown hml hlocks hW hl
  have hown : s.vm.findClass RX7 = some m.cls := hown
  have hl : lv_has ls 3 [(0, .ref (sw_ad g 33)), (1, .int a1), (2, .int a2)] := hl
  unfold wX7_neutral at h
  refine lv_aload_n hx hb dX7_neutral_0 rfl (lv_at hl 0 rfl) ?_
  refine lv_iload_n hx hb dX7_neutral_1 rfl (lv_at hl 1 rfl) ?_
  refine lv_iconst (v := 0) hx hb dX7_neutral_2 (by decide) ?_
  refine sw_ki (rest := []) (sw_runV (As := [.int a1, .int (0 : Int32)]) (rest := []) hx hb hml hown hts (kX7_examiner l g o d a1 (0 : Int32) M _ h) cv_X7_examiner q_1030 rfl rfl ⟨(Nat.le_of_ble_eq_true rfl), (Nat.le_of_ble_eq_true rfl)⟩ hW (Nat.le_of_ble_eq_true rfl) sl_33 rfl rfl hl.1 rfl (Nat.le_of_ble_eq_true rfl) dX7_neutral_3 ⟨(Nat.le_of_ble_eq_true rfl), (Nat.le_of_ble_eq_true rfl)⟩) hW (fun r1 M8 H locs h hW => ?_)
  obtain ⟨h, eM8⟩ := h
  rw [eM8] at hW
  refine lv_aload_n hx hb dX7_neutral_6 rfl (lv_at hl 0 rfl) ?_
  refine lv_iload_n hx hb dX7_neutral_7 rfl (lv_at hl 2 rfl) ?_
  refine lv_iconst (v := 0) hx hb dX7_neutral_8 (by decide) ?_
  refine sw_ki (rest := [.int r1]) (sw_runV (As := [.int a2, .int (0 : Int32)]) (rest := [.int r1]) hx hb hml hown hts (kX7_door l g o d a2 (0 : Int32) M _ h) cv_X7_door q_1033 rfl rfl ⟨(Nat.le_of_ble_eq_true rfl), (Nat.le_of_ble_eq_true rfl)⟩ hW (Nat.le_of_ble_eq_true rfl) sl_33 rfl rfl hl.1 rfl (Nat.le_of_ble_eq_true rfl) dX7_neutral_9 ⟨(Nat.le_of_ble_eq_true rfl), (Nat.le_of_ble_eq_true rfl)⟩) hW (fun r2 M7 H locs h hW => ?_)
  obtain ⟨h, eM7⟩ := h
  rw [eM7] at hW
  refine lv_icmp_eq (tgt := 29) hx hb dX7_neutral_12 (by decide) (fun k3 => ?_) (fun k3 => ?_)
  · have h := h.1 k3
    refine lv_iconst (v := 0) hx hb dX7_neutral_29 (by decide) ?_
    exact sw_ri hx hb hr hlocks hW (by decide) ⟨h, rfl⟩ dX7_neutral_30
  · have h := h.2 k3
    refine lv_aload_n hx hb dX7_neutral_15 rfl (lv_at hl 0 rfl) ?_
    refine lv_iload_n hx hb dX7_neutral_16 rfl (lv_at hl 1 rfl) ?_
    refine lv_iload_n hx hb dX7_neutral_17 rfl (lv_at hl 2 rfl) ?_
    refine lv_iconst (v := 0) hx hb dX7_neutral_18 (by decide) ?_
    refine sw_ki (rest := []) (sw_runV (As := [.int a1, .int a2, .int (0 : Int32)]) (rest := []) hx hb hml hown hts (kX7_pair l g o d a1 a2 (0 : Int32) M _ h) cv_X7_pair q_1018 rfl rfl ⟨(Nat.le_of_ble_eq_true rfl), (Nat.le_of_ble_eq_true rfl)⟩ hW (Nat.le_of_ble_eq_true rfl) sl_33 rfl rfl hl.1 rfl (Nat.le_of_ble_eq_true rfl) dX7_neutral_19 ⟨(Nat.le_of_ble_eq_true rfl), (Nat.le_of_ble_eq_true rfl)⟩) hW (fun r4 M6 H locs h hW => ?_)
    obtain ⟨h, eM6⟩ := h
    rw [eM6] at hW
    refine lv_if_ne (tgt := 29) hx hb dX7_neutral_22 (by decide) (fun k5 => ?_) (fun k5 => ?_)
    · have h := h.2 k5
      refine lv_iconst (v := 0) hx hb dX7_neutral_29 (by decide) ?_
      exact sw_ri hx hb hr hlocks hW (by decide) ⟨h, rfl⟩ dX7_neutral_30
    · have h := h.1 k5
      refine lv_iconst (v := 1) hx hb dX7_neutral_25 (by decide) ?_
      refine lv_goto (tgt := 30) hx hb dX7_neutral_26 (by decide) ?_
      exact sw_ri hx hb hr hlocks hW (by decide) ⟨h, rfl⟩ dX7_neutral_30

theorem cv_X7_judges : sw_cV yX7_judges RX7 cX7_judges 3 (some .boolean) 2 := ⟨q_1050, q_1385, q_9, q_1051, by decide +kernel⟩
def wX7_judges (a1 : Int32) (a2 : Int32) (M : sM) (Q : Int32 → Prop) : Prop :=
  wX7_neutral a1 a2 M (fun r1 => (r1 = 0 → (Q (0 : Int32))) ∧ (¬ r1 = 0 → (wX7_examiner a1 (1 : Int32) M (fun r3 => wX7_door a2 (1 : Int32) M (fun r4 => (((r3 >>> (r4 &&& 31)) &&& (1 : Int32)) = (1 : Int32) → (Q (1 : Int32))) ∧ (¬ ((r3 >>> (r4 &&& 31)) &&& (1 : Int32)) = (1 : Int32) → (Q (0 : Int32))))))))
set_option maxRecDepth 20000 in
theorem kX7_judges (l : Launch) (g : sG) (o : Nat → Int64) (d : Nat → UInt64) (a1 : Int32) (a2 : Int32) (M : sM) (Q : Int32 → Prop) (h : wX7_judges a1 a2 M Q) : Met l yX7_judges (sw_ws yX7_judges cX7_judges 3 (some .boolean)) { frames := 2, cells := 0, slots := 0, locals := 45 } (va_Pc [.ref (sw_ad g 33), .int a1, .int a2] (sw_Pr g o d M)) (va_Qi (fun r M1 => Q r ∧ M1 = M) (sw_Po g o d) (sw_A g)) 0 0 (sw_A g) := by
  refine sw_met (by decide) (Nat.le_of_ble_eq_true rfl) ?_
  intro p e s m args below meth c ls hx hb hr hts hown hml hlocks hW hl
  have hown : s.vm.findClass RX7 = some m.cls := hown
  have hl : lv_has ls 3 [(0, .ref (sw_ad g 33)), (1, .int a1), (2, .int a2)] := hl
  unfold wX7_judges at h
  refine lv_aload_n hx hb dX7_judges_0 rfl (lv_at hl 0 rfl) ?_
  refine lv_iload_n hx hb dX7_judges_1 rfl (lv_at hl 1 rfl) ?_
  refine lv_iload_n hx hb dX7_judges_2 rfl (lv_at hl 2 rfl) ?_
  refine sw_ki (rest := []) (sw_runV (As := [.int a1, .int a2]) (rest := []) hx hb hml hown hts (kX7_neutral l g o d a1 a2 M _ h) cv_X7_neutral q_1027 rfl rfl ⟨(Nat.le_of_ble_eq_true rfl), (Nat.le_of_ble_eq_true rfl)⟩ hW (Nat.le_of_ble_eq_true rfl) sl_33 rfl rfl hl.1 rfl (Nat.le_of_ble_eq_true rfl) dX7_judges_3 ⟨(Nat.le_of_ble_eq_true rfl), (Nat.le_of_ble_eq_true rfl)⟩) hW (fun r1 M8 H locs h hW => ?_)
  obtain ⟨h, eM8⟩ := h
  rw [eM8] at hW
  refine lv_if_eq (tgt := 32) hx hb dX7_judges_6 (by decide) (fun k2 => ?_) (fun k2 => ?_)
  · have h := h.1 k2
    refine lv_iconst (v := 0) hx hb dX7_judges_32 (by decide) ?_
    exact sw_ri hx hb hr hlocks hW (by decide) ⟨h, rfl⟩ dX7_judges_33
  · have h := h.2 k2
    refine lv_aload_n hx hb dX7_judges_9 rfl (lv_at hl 0 rfl) ?_
    refine lv_iload_n hx hb dX7_judges_10 rfl (lv_at hl 1 rfl) ?_
    refine lv_iconst (v := 1) hx hb dX7_judges_11 (by decide) ?_
    refine sw_ki (rest := []) (sw_runV (As := [.int a1, .int (1 : Int32)]) (rest := []) hx hb hml hown hts (kX7_examiner l g o d a1 (1 : Int32) M _ h) cv_X7_examiner q_1030 rfl rfl ⟨(Nat.le_of_ble_eq_true rfl), (Nat.le_of_ble_eq_true rfl)⟩ hW (Nat.le_of_ble_eq_true rfl) sl_33 rfl rfl hl.1 rfl (Nat.le_of_ble_eq_true rfl) dX7_judges_12 ⟨(Nat.le_of_ble_eq_true rfl), (Nat.le_of_ble_eq_true rfl)⟩) hW (fun r3 M7 H locs h hW => ?_)
    obtain ⟨h, eM7⟩ := h
    rw [eM7] at hW
    refine lv_aload_n hx hb dX7_judges_15 rfl (lv_at hl 0 rfl) ?_
    refine lv_iload_n hx hb dX7_judges_16 rfl (lv_at hl 2 rfl) ?_
    refine lv_iconst (v := 1) hx hb dX7_judges_17 (by decide) ?_
    refine sw_ki (rest := [.int r3]) (sw_runV (As := [.int a2, .int (1 : Int32)]) (rest := [.int r3]) hx hb hml hown hts (kX7_door l g o d a2 (1 : Int32) M _ h) cv_X7_door q_1033 rfl rfl ⟨(Nat.le_of_ble_eq_true rfl), (Nat.le_of_ble_eq_true rfl)⟩ hW (Nat.le_of_ble_eq_true rfl) sl_33 rfl rfl hl.1 rfl (Nat.le_of_ble_eq_true rfl) dX7_judges_18 ⟨(Nat.le_of_ble_eq_true rfl), (Nat.le_of_ble_eq_true rfl)⟩) hW (fun r4 M6 H locs h hW => ?_)
    obtain ⟨h, eM6⟩ := h
    rw [eM6] at hW
    refine lv_ishr hx hb dX7_judges_21 ?_
    refine lv_iconst (v := 1) hx hb dX7_judges_22 (by decide) ?_
    refine lv_iand hx hb dX7_judges_23 ?_
    refine lv_iconst (v := 1) hx hb dX7_judges_24 (by decide) ?_
    refine lv_icmp_ne (tgt := 32) hx hb dX7_judges_25 (by decide) (fun k5 => ?_) (fun k5 => ?_)
    · have h := h.2 k5
      refine lv_iconst (v := 0) hx hb dX7_judges_32 (by decide) ?_
      exact sw_ri hx hb hr hlocks hW (by decide) ⟨h, rfl⟩ dX7_judges_33
    · have h := h.1 k5
      refine lv_iconst (v := 1) hx hb dX7_judges_28 (by decide) ?_
      refine lv_goto (tgt := 33) hx hb dX7_judges_29 (by decide) ?_
      exact sw_ri hx hb hr hlocks hW (by decide) ⟨h, rfl⟩ dX7_judges_33

theorem cv_X7_assigned : sw_cV yX7_assigned RX7 cX7_assigned 3 (some .boolean) 2 := ⟨q_1022, q_1377, q_9, q_1023, by decide +kernel⟩
def wX7_assigned (a1 : Int32) (a2 : Int32) (M : sM) (Q : Int32 → Prop) : Prop :=
  wX7_pair a1 a2 (1 : Int32) M (fun r1 => (r1 = (1 : Int32) → (Q (1 : Int32))) ∧ (¬ r1 = (1 : Int32) → (Q (0 : Int32))))
set_option maxRecDepth 20000 in
theorem kX7_assigned (l : Launch) (g : sG) (o : Nat → Int64) (d : Nat → UInt64) (a1 : Int32) (a2 : Int32) (M : sM) (Q : Int32 → Prop) (h : wX7_assigned a1 a2 M Q) : Met l yX7_assigned (sw_ws yX7_assigned cX7_assigned 3 (some .boolean)) { frames := 1, cells := 0, slots := 0, locals := 23 } (va_Pc [.ref (sw_ad g 33), .int a1, .int a2] (sw_Pr g o d M)) (va_Qi (fun r M1 => Q r ∧ M1 = M) (sw_Po g o d) (sw_A g)) 0 0 (sw_A g) := by
  refine sw_met (by decide) (Nat.le_of_ble_eq_true rfl) ?_
  intro p e s m args below meth c ls hx hb hr hts hown hml hlocks hW hl
  have hown : s.vm.findClass RX7 = some m.cls := hown
  have hl : lv_has ls 3 [(0, .ref (sw_ad g 33)), (1, .int a1), (2, .int a2)] := hl
  unfold wX7_assigned at h
  refine lv_aload_n hx hb dX7_assigned_0 rfl (lv_at hl 0 rfl) ?_
  refine lv_iload_n hx hb dX7_assigned_1 rfl (lv_at hl 1 rfl) ?_
  refine lv_iload_n hx hb dX7_assigned_2 rfl (lv_at hl 2 rfl) ?_
  refine lv_iconst (v := 1) hx hb dX7_assigned_3 (by decide) ?_
  refine sw_ki (rest := []) (sw_runV (As := [.int a1, .int a2, .int (1 : Int32)]) (rest := []) hx hb hml hown hts (kX7_pair l g o d a1 a2 (1 : Int32) M _ h) cv_X7_pair q_1018 rfl rfl ⟨(Nat.le_of_ble_eq_true rfl), (Nat.le_of_ble_eq_true rfl)⟩ hW (Nat.le_of_ble_eq_true rfl) sl_33 rfl rfl hl.1 rfl (Nat.le_of_ble_eq_true rfl) dX7_assigned_4 ⟨(Nat.le_of_ble_eq_true rfl), (Nat.le_of_ble_eq_true rfl)⟩) hW (fun r1 M3 H locs h hW => ?_)
  obtain ⟨h, eM3⟩ := h
  rw [eM3] at hW
  refine lv_iconst (v := 1) hx hb dX7_assigned_7 (by decide) ?_
  refine lv_icmp_ne (tgt := 15) hx hb dX7_assigned_8 (by decide) (fun k2 => ?_) (fun k2 => ?_)
  · have h := h.2 k2
    refine lv_iconst (v := 0) hx hb dX7_assigned_15 (by decide) ?_
    exact sw_ri hx hb hr hlocks hW (by decide) ⟨h, rfl⟩ dX7_assigned_16
  · have h := h.1 k2
    refine lv_iconst (v := 1) hx hb dX7_assigned_11 (by decide) ?_
    refine lv_goto (tgt := 16) hx hb dX7_assigned_12 (by decide) ?_
    exact sw_ri hx hb hr hlocks hW (by decide) ⟨h, rfl⟩ dX7_assigned_16

def lX7_loadOf_4 (a1 : Int32) (M : sM) (K4 : Int32 → Prop) : Nat → Int32 → Int32 → Prop
  | 0, _, _ => False
  | n4 + 1, x2_4, x3_4 => ((M 34 ((0 : Int32)).toNatClampNeg) ≤ x3_4 → (K4 x2_4)) ∧ (¬ (M 34 ((0 : Int32)).toNatClampNeg) ≤ x3_4 → (wX7_pair a1 x3_4 (1 : Int32) M (fun r2 => ∀ v3 : Int32, v3 = (x2_4 + r2) → (∀ v4 : Int32, v4 = x3_4 + (1 : Int32) → ((fun x2_4 x3_4 => lX7_loadOf_4 a1 M K4 n4 x2_4 x3_4) v3 v4)))))
theorem cv_X7_loadOf : sw_cV yX7_loadOf RX7 cX7_loadOf 4 (some .int) 1 := ⟨q_1047, q_1384, q_9, q_1048, by decide +kernel⟩
def wX7_loadOf (a1 : Int32) (M : sM) (Q : Int32 → Prop) : Prop :=
  ∃ n4, lX7_loadOf_4 a1 M (fun x2_4k => Q x2_4k) n4 (0 : Int32) (0 : Int32)
set_option maxRecDepth 20000 in
theorem kX7_loadOf (l : Launch) (g : sG) (o : Nat → Int64) (d : Nat → UInt64) (a1 : Int32) (M : sM) (Q : Int32 → Prop) (h : wX7_loadOf a1 M Q) : Met l yX7_loadOf (sw_ws yX7_loadOf cX7_loadOf 4 (some .int)) { frames := 1, cells := 0, slots := 0, locals := 23 } (va_Pc [.ref (sw_ad g 33), .int a1] (sw_Pr g o d M)) (va_Qi (fun r M1 => Q r ∧ M1 = M) (sw_Po g o d) (sw_A g)) 0 0 (sw_A g) := by
  refine sw_met (by decide) (Nat.le_of_ble_eq_true rfl) ?_
  intro p e s m args below meth c ls hx hb hr hts hown hml hlocks hW hl
  have hown : s.vm.findClass RX7 = some m.cls := hown
  have hl : lv_has ls 4 [(0, .ref (sw_ad g 33)), (1, .int a1)] := hl
  unfold wX7_loadOf at h
  refine lv_iconst (v := 0) hx hb dX7_loadOf_0 (by decide) ?_
  refine lv_istore_n (lv' := [(2, .int (0 : Int32)), (0, .ref (sw_ad g 33)), (1, .int a1)]) hx hb dX7_loadOf_1 rfl hl (Nat.le_of_ble_eq_true rfl) rfl (fun ls hl => ?_)
  refine lv_iconst (v := 0) hx hb dX7_loadOf_2 (by decide) ?_
  refine lv_istore_n (lv' := [(3, .int (0 : Int32)), (2, .int (0 : Int32)), (0, .ref (sw_ad g 33)), (1, .int a1)]) hx hb dX7_loadOf_3 rfl hl (Nat.le_of_ble_eq_true rfl) rfl (fun ls hl => ?_)
  obtain ⟨n4, h⟩ := h
  refine sw_lp_ii (hd := 4) (Lf := fun x2_4 x3_4 => [(0, .ref (sw_ad g 33)), (1, .int a1), (2, .int x2_4), (3, .int x3_4)]) h hW (lv_sub hl [2, 3, 1, 0] rfl) (fun _ _ h => h) (fun n4 ih4 x2_4 x3_4 H locs ls h hW hl => ?_)
  rw [lX7_loadOf_4.eq_2] at h
  refine lv_iload_n hx hb dX7_loadOf_4 rfl (lv_at hl 3 rfl) ?_
  refine lv_aload_n hx hb dX7_loadOf_5 rfl (lv_at hl 0 rfl) ?_
  refine sw_gr (j := 0) (r := 34) hx hb hts hown hW rfl qf_7 (Nat.le_of_ble_eq_true rfl) sl_33 rfl (Nat.le_of_ble_eq_true rfl) q_944 dX7_loadOf_6 ?_
  refine lv_iconst (v := 0) hx hb dX7_loadOf_9 (by decide) ?_
  refine sw_ia (n := 228) hx hb hW (Nat.le_of_ble_eq_true rfl) sl_34 (vp_in_iff.mpr (by decide)) dX7_loadOf_10 ?_
  refine lv_icmp_ge (tgt := 30) hx hb dX7_loadOf_11 (by decide) (fun k1 => ?_) (fun k1 => ?_)
  · have h := h.1 k1
    refine lv_iload_n hx hb dX7_loadOf_30 rfl (lv_at hl 2 rfl) ?_
    exact sw_ri hx hb hr hlocks hW rfl ⟨h, rfl⟩ dX7_loadOf_31
  · have h := h.2 k1
    refine lv_iload_n hx hb dX7_loadOf_14 rfl (lv_at hl 2 rfl) ?_
    refine lv_aload_n hx hb dX7_loadOf_15 rfl (lv_at hl 0 rfl) ?_
    refine lv_iload_n hx hb dX7_loadOf_16 rfl (lv_at hl 1 rfl) ?_
    refine lv_iload_n hx hb dX7_loadOf_17 rfl (lv_at hl 3 rfl) ?_
    refine lv_iconst (v := 1) hx hb dX7_loadOf_18 (by decide) ?_
    refine sw_ki (rest := [.int x2_4]) (sw_runV (As := [.int a1, .int x3_4, .int (1 : Int32)]) (rest := [.int x2_4]) hx hb hml hown hts (kX7_pair l g o d a1 x3_4 (1 : Int32) M _ h) cv_X7_pair q_1018 rfl rfl ⟨(Nat.le_of_ble_eq_true rfl), (Nat.le_of_ble_eq_true rfl)⟩ hW (Nat.le_of_ble_eq_true rfl) sl_33 rfl rfl hl.1 rfl (Nat.le_of_ble_eq_true rfl) dX7_loadOf_19 ⟨(Nat.le_of_ble_eq_true rfl), (Nat.le_of_ble_eq_true rfl)⟩) hW (fun r2 M5 H locs h hW => ?_)
    obtain ⟨h, eM5⟩ := h
    rw [eM5] at hW
    refine lv_iadd hx hb dX7_loadOf_22 ?_
    refine lv_topi (fun v3 ev3 => ?_)
    have h := h v3 ev3
    refine lv_istore_n (lv' := [(2, .int v3), (0, .ref (sw_ad g 33)), (1, .int a1), (3, .int x3_4)]) hx hb dX7_loadOf_23 rfl hl (Nat.le_of_ble_eq_true rfl) rfl (fun ls hl => ?_)
    obtain ⟨v4, ev4⟩ : ∃ z : Int32, z = x3_4 + (1 : Int32) := ⟨_, rfl⟩
    have h := h v4 ev4
    refine lv_iinc (v := v4) (lv' := [(3, .int v4), (2, .int v3), (0, .ref (sw_ad g 33)), (1, .int a1)]) hx hb dX7_loadOf_24 hl (k := 3) rfl (by rw [ev4]; rfl) (Nat.le_of_ble_eq_true rfl) rfl (fun ls hl => ?_)
    refine lv_goto (tgt := 4) hx hb dX7_loadOf_27 (by decide) ?_
    exact ih4 _ _ _ _ _ h hW (lv_sub hl [2, 3, 1, 0] rfl)

def lX7_examinersAt_4 (a1 : Int32) (M : sM) (K4 : Int32 → Prop) : Nat → Int32 → Int32 → Prop
  | 0, _, _ => False
  | n4 + 1, x2_4, x3_4 => ((M 34 ((1 : Int32)).toNatClampNeg) ≤ x3_4 → (K4 x2_4)) ∧ (¬ (M 34 ((1 : Int32)).toNatClampNeg) ≤ x3_4 → (wX7_pair x3_4 a1 (1 : Int32) M (fun r2 => ∀ v3 : Int32, v3 = (x2_4 + r2) → (∀ v4 : Int32, v4 = x3_4 + (1 : Int32) → ((fun x2_4 x3_4 => lX7_examinersAt_4 a1 M K4 n4 x2_4 x3_4) v3 v4)))))
theorem cv_X7_examinersAt : sw_cV yX7_examinersAt RX7 cX7_examinersAt 4 (some .int) 1 := ⟨q_1044, q_1383, q_9, q_1045, by decide +kernel⟩
def wX7_examinersAt (a1 : Int32) (M : sM) (Q : Int32 → Prop) : Prop :=
  ∃ n4, lX7_examinersAt_4 a1 M (fun x2_4k => Q x2_4k) n4 (0 : Int32) (0 : Int32)
set_option maxRecDepth 20000 in
theorem kX7_examinersAt (l : Launch) (g : sG) (o : Nat → Int64) (d : Nat → UInt64) (a1 : Int32) (M : sM) (Q : Int32 → Prop) (h : wX7_examinersAt a1 M Q) : Met l yX7_examinersAt (sw_ws yX7_examinersAt cX7_examinersAt 4 (some .int)) { frames := 1, cells := 0, slots := 0, locals := 23 } (va_Pc [.ref (sw_ad g 33), .int a1] (sw_Pr g o d M)) (va_Qi (fun r M1 => Q r ∧ M1 = M) (sw_Po g o d) (sw_A g)) 0 0 (sw_A g) := by
  refine sw_met (by decide) (Nat.le_of_ble_eq_true rfl) ?_
  intro p e s m args below meth c ls hx hb hr hts hown hml hlocks hW hl
  have hown : s.vm.findClass RX7 = some m.cls := hown
  have hl : lv_has ls 4 [(0, .ref (sw_ad g 33)), (1, .int a1)] := hl
  unfold wX7_examinersAt at h
  refine lv_iconst (v := 0) hx hb dX7_examinersAt_0 (by decide) ?_
  refine lv_istore_n (lv' := [(2, .int (0 : Int32)), (0, .ref (sw_ad g 33)), (1, .int a1)]) hx hb dX7_examinersAt_1 rfl hl (Nat.le_of_ble_eq_true rfl) rfl (fun ls hl => ?_)
  refine lv_iconst (v := 0) hx hb dX7_examinersAt_2 (by decide) ?_
  refine lv_istore_n (lv' := [(3, .int (0 : Int32)), (2, .int (0 : Int32)), (0, .ref (sw_ad g 33)), (1, .int a1)]) hx hb dX7_examinersAt_3 rfl hl (Nat.le_of_ble_eq_true rfl) rfl (fun ls hl => ?_)
  obtain ⟨n4, h⟩ := h
  refine sw_lp_ii (hd := 4) (Lf := fun x2_4 x3_4 => [(0, .ref (sw_ad g 33)), (1, .int a1), (2, .int x2_4), (3, .int x3_4)]) h hW (lv_sub hl [2, 3, 1, 0] rfl) (fun _ _ h => h) (fun n4 ih4 x2_4 x3_4 H locs ls h hW hl => ?_)
  rw [lX7_examinersAt_4.eq_2] at h
  refine lv_iload_n hx hb dX7_examinersAt_4 rfl (lv_at hl 3 rfl) ?_
  refine lv_aload_n hx hb dX7_examinersAt_5 rfl (lv_at hl 0 rfl) ?_
  refine sw_gr (j := 0) (r := 34) hx hb hts hown hW rfl qf_7 (Nat.le_of_ble_eq_true rfl) sl_33 rfl (Nat.le_of_ble_eq_true rfl) q_944 dX7_examinersAt_6 ?_
  refine lv_iconst (v := 1) hx hb dX7_examinersAt_9 (by decide) ?_
  refine sw_ia (n := 228) hx hb hW (Nat.le_of_ble_eq_true rfl) sl_34 (vp_in_iff.mpr (by decide)) dX7_examinersAt_10 ?_
  refine lv_icmp_ge (tgt := 30) hx hb dX7_examinersAt_11 (by decide) (fun k1 => ?_) (fun k1 => ?_)
  · have h := h.1 k1
    refine lv_iload_n hx hb dX7_examinersAt_30 rfl (lv_at hl 2 rfl) ?_
    exact sw_ri hx hb hr hlocks hW rfl ⟨h, rfl⟩ dX7_examinersAt_31
  · have h := h.2 k1
    refine lv_iload_n hx hb dX7_examinersAt_14 rfl (lv_at hl 2 rfl) ?_
    refine lv_aload_n hx hb dX7_examinersAt_15 rfl (lv_at hl 0 rfl) ?_
    refine lv_iload_n hx hb dX7_examinersAt_16 rfl (lv_at hl 3 rfl) ?_
    refine lv_iload_n hx hb dX7_examinersAt_17 rfl (lv_at hl 1 rfl) ?_
    refine lv_iconst (v := 1) hx hb dX7_examinersAt_18 (by decide) ?_
    refine sw_ki (rest := [.int x2_4]) (sw_runV (As := [.int x3_4, .int a1, .int (1 : Int32)]) (rest := [.int x2_4]) hx hb hml hown hts (kX7_pair l g o d x3_4 a1 (1 : Int32) M _ h) cv_X7_pair q_1018 rfl rfl ⟨(Nat.le_of_ble_eq_true rfl), (Nat.le_of_ble_eq_true rfl)⟩ hW (Nat.le_of_ble_eq_true rfl) sl_33 rfl rfl hl.1 rfl (Nat.le_of_ble_eq_true rfl) dX7_examinersAt_19 ⟨(Nat.le_of_ble_eq_true rfl), (Nat.le_of_ble_eq_true rfl)⟩) hW (fun r2 M5 H locs h hW => ?_)
    obtain ⟨h, eM5⟩ := h
    rw [eM5] at hW
    refine lv_iadd hx hb dX7_examinersAt_22 ?_
    refine lv_topi (fun v3 ev3 => ?_)
    have h := h v3 ev3
    refine lv_istore_n (lv' := [(2, .int v3), (0, .ref (sw_ad g 33)), (1, .int a1), (3, .int x3_4)]) hx hb dX7_examinersAt_23 rfl hl (Nat.le_of_ble_eq_true rfl) rfl (fun ls hl => ?_)
    obtain ⟨v4, ev4⟩ : ∃ z : Int32, z = x3_4 + (1 : Int32) := ⟨_, rfl⟩
    have h := h v4 ev4
    refine lv_iinc (v := v4) (lv' := [(3, .int v4), (2, .int v3), (0, .ref (sw_ad g 33)), (1, .int a1)]) hx hb dX7_examinersAt_24 hl (k := 3) rfl (by rw [ev4]; rfl) (Nat.le_of_ble_eq_true rfl) rfl (fun ls hl => ?_)
    refine lv_goto (tgt := 4) hx hb dX7_examinersAt_27 (by decide) ?_
    exact ih4 _ _ _ _ _ h hW (lv_sub hl [2, 3, 1, 0] rfl)

def lX7_gradesAt_4 (a1 : Int32) (M : sM) (K4 : Int32 → Prop) : Nat → Int32 → Int32 → Prop
  | 0, _, _ => False
  | n4 + 1, x2_4, x3_4 => ((M 34 ((1 : Int32)).toNatClampNeg) ≤ x3_4 → (K4 x2_4)) ∧ (¬ (M 34 ((1 : Int32)).toNatClampNeg) ≤ x3_4 → (wX7_pair x3_4 a1 (2 : Int32) M (fun r2 => (r2 ≤ 0 → (∀ v4 : Int32, v4 = (x2_4 + (0 : Int32)) → (∀ v5 : Int32, v5 = x3_4 + (1 : Int32) → ((fun x2_4 x3_4 => lX7_gradesAt_4 a1 M K4 n4 x2_4 x3_4) v4 v5)))) ∧ (¬ r2 ≤ 0 → (∀ v6 : Int32, v6 = (x2_4 + (1 : Int32)) → (∀ v7 : Int32, v7 = x3_4 + (1 : Int32) → ((fun x2_4 x3_4 => lX7_gradesAt_4 a1 M K4 n4 x2_4 x3_4) v6 v7)))))))
theorem cv_X7_gradesAt : sw_cV yX7_gradesAt RX7 cX7_gradesAt 4 (some .int) 1 := ⟨q_1082, q_1393, q_9, q_1083, by decide +kernel⟩
def wX7_gradesAt (a1 : Int32) (M : sM) (Q : Int32 → Prop) : Prop :=
  ∃ n4, lX7_gradesAt_4 a1 M (fun x2_4k => Q x2_4k) n4 (0 : Int32) (0 : Int32)
set_option maxRecDepth 20000 in
theorem kX7_gradesAt (l : Launch) (g : sG) (o : Nat → Int64) (d : Nat → UInt64) (a1 : Int32) (M : sM) (Q : Int32 → Prop) (h : wX7_gradesAt a1 M Q) : Met l yX7_gradesAt (sw_ws yX7_gradesAt cX7_gradesAt 4 (some .int)) { frames := 1, cells := 0, slots := 0, locals := 23 } (va_Pc [.ref (sw_ad g 33), .int a1] (sw_Pr g o d M)) (va_Qi (fun r M1 => Q r ∧ M1 = M) (sw_Po g o d) (sw_A g)) 0 0 (sw_A g) := by
  refine sw_met (by decide) (Nat.le_of_ble_eq_true rfl) ?_
  intro p e s m args below meth c ls hx hb hr hts hown hml hlocks hW hl
  have hown : s.vm.findClass RX7 = some m.cls := hown
  have hl : lv_has ls 4 [(0, .ref (sw_ad g 33)), (1, .int a1)] := hl
  unfold wX7_gradesAt at h
  refine lv_iconst (v := 0) hx hb dX7_gradesAt_0 (by decide) ?_
  refine lv_istore_n (lv' := [(2, .int (0 : Int32)), (0, .ref (sw_ad g 33)), (1, .int a1)]) hx hb dX7_gradesAt_1 rfl hl (Nat.le_of_ble_eq_true rfl) rfl (fun ls hl => ?_)
  refine lv_iconst (v := 0) hx hb dX7_gradesAt_2 (by decide) ?_
  refine lv_istore_n (lv' := [(3, .int (0 : Int32)), (2, .int (0 : Int32)), (0, .ref (sw_ad g 33)), (1, .int a1)]) hx hb dX7_gradesAt_3 rfl hl (Nat.le_of_ble_eq_true rfl) rfl (fun ls hl => ?_)
  obtain ⟨n4, h⟩ := h
  refine sw_lp_ii (hd := 4) (Lf := fun x2_4 x3_4 => [(0, .ref (sw_ad g 33)), (1, .int a1), (2, .int x2_4), (3, .int x3_4)]) h hW (lv_sub hl [2, 3, 1, 0] rfl) (fun _ _ h => h) (fun n4 ih4 x2_4 x3_4 H locs ls h hW hl => ?_)
  rw [lX7_gradesAt_4.eq_2] at h
  refine lv_iload_n hx hb dX7_gradesAt_4 rfl (lv_at hl 3 rfl) ?_
  refine lv_aload_n hx hb dX7_gradesAt_5 rfl (lv_at hl 0 rfl) ?_
  refine sw_gr (j := 0) (r := 34) hx hb hts hown hW rfl qf_7 (Nat.le_of_ble_eq_true rfl) sl_33 rfl (Nat.le_of_ble_eq_true rfl) q_944 dX7_gradesAt_6 ?_
  refine lv_iconst (v := 1) hx hb dX7_gradesAt_9 (by decide) ?_
  refine sw_ia (n := 228) hx hb hW (Nat.le_of_ble_eq_true rfl) sl_34 (vp_in_iff.mpr (by decide)) dX7_gradesAt_10 ?_
  refine lv_icmp_ge (tgt := 38) hx hb dX7_gradesAt_11 (by decide) (fun k1 => ?_) (fun k1 => ?_)
  · have h := h.1 k1
    refine lv_iload_n hx hb dX7_gradesAt_38 rfl (lv_at hl 2 rfl) ?_
    exact sw_ri hx hb hr hlocks hW rfl ⟨h, rfl⟩ dX7_gradesAt_39
  · have h := h.2 k1
    refine lv_iload_n hx hb dX7_gradesAt_14 rfl (lv_at hl 2 rfl) ?_
    refine lv_aload_n hx hb dX7_gradesAt_15 rfl (lv_at hl 0 rfl) ?_
    refine lv_iload_n hx hb dX7_gradesAt_16 rfl (lv_at hl 3 rfl) ?_
    refine lv_iload_n hx hb dX7_gradesAt_17 rfl (lv_at hl 1 rfl) ?_
    refine lv_iconst (v := 2) hx hb dX7_gradesAt_18 (by decide) ?_
    refine sw_ki (rest := [.int x2_4]) (sw_runV (As := [.int x3_4, .int a1, .int (2 : Int32)]) (rest := [.int x2_4]) hx hb hml hown hts (kX7_pair l g o d x3_4 a1 (2 : Int32) M _ h) cv_X7_pair q_1018 rfl rfl ⟨(Nat.le_of_ble_eq_true rfl), (Nat.le_of_ble_eq_true rfl)⟩ hW (Nat.le_of_ble_eq_true rfl) sl_33 rfl rfl hl.1 rfl (Nat.le_of_ble_eq_true rfl) dX7_gradesAt_19 ⟨(Nat.le_of_ble_eq_true rfl), (Nat.le_of_ble_eq_true rfl)⟩) hW (fun r2 M8 H locs h hW => ?_)
    obtain ⟨h, eM8⟩ := h
    rw [eM8] at hW
    refine lv_if_le (tgt := 29) hx hb dX7_gradesAt_22 (by decide) (fun k3 => ?_) (fun k3 => ?_)
    · have h := h.1 k3
      refine lv_iconst (v := 0) hx hb dX7_gradesAt_29 (by decide) ?_
      refine lv_iadd hx hb dX7_gradesAt_30 ?_
      refine lv_topi (fun v4 ev4 => ?_)
      have h := h v4 ev4
      refine lv_istore_n (lv' := [(2, .int v4), (0, .ref (sw_ad g 33)), (1, .int a1), (3, .int x3_4)]) hx hb dX7_gradesAt_31 rfl hl (Nat.le_of_ble_eq_true rfl) rfl (fun ls hl => ?_)
      obtain ⟨v5, ev5⟩ : ∃ z : Int32, z = x3_4 + (1 : Int32) := ⟨_, rfl⟩
      have h := h v5 ev5
      refine lv_iinc (v := v5) (lv' := [(3, .int v5), (2, .int v4), (0, .ref (sw_ad g 33)), (1, .int a1)]) hx hb dX7_gradesAt_32 hl (k := 3) rfl (by rw [ev5]; rfl) (Nat.le_of_ble_eq_true rfl) rfl (fun ls hl => ?_)
      refine lv_goto (tgt := 4) hx hb dX7_gradesAt_35 (by decide) ?_
      exact ih4 _ _ _ _ _ h hW (lv_sub hl [2, 3, 1, 0] rfl)
    · have h := h.2 k3
      refine lv_iconst (v := 1) hx hb dX7_gradesAt_25 (by decide) ?_
      refine lv_goto (tgt := 30) hx hb dX7_gradesAt_26 (by decide) ?_
      refine lv_iadd hx hb dX7_gradesAt_30 ?_
      refine lv_topi (fun v6 ev6 => ?_)
      have h := h v6 ev6
      refine lv_istore_n (lv' := [(2, .int v6), (0, .ref (sw_ad g 33)), (1, .int a1), (3, .int x3_4)]) hx hb dX7_gradesAt_31 rfl hl (Nat.le_of_ble_eq_true rfl) rfl (fun ls hl => ?_)
      obtain ⟨v7, ev7⟩ : ∃ z : Int32, z = x3_4 + (1 : Int32) := ⟨_, rfl⟩
      have h := h v7 ev7
      refine lv_iinc (v := v7) (lv' := [(3, .int v7), (2, .int v6), (0, .ref (sw_ad g 33)), (1, .int a1)]) hx hb dX7_gradesAt_32 hl (k := 3) rfl (by rw [ev7]; rfl) (Nat.le_of_ble_eq_true rfl) rfl (fun ls hl => ?_)
      refine lv_goto (tgt := 4) hx hb dX7_gradesAt_35 (by decide) ?_
      exact ih4 _ _ _ _ _ h hW (lv_sub hl [2, 3, 1, 0] rfl)

def jX7_resultOf_58 (x4_11 : Int32) (x5_11 : Int32) (v11 : Int32) (v13 : Int32) (N11 : Int32 → Int32 → Int32 → Int32 → Prop) (t0_58 : Int32) : Prop :=
  ∀ v14 : Int32, v14 = (if x4_11 < v11 then v11 else x4_11) → (∀ v15 : Int32, v15 = x5_11 + (1 : Int32) → (N11 v13 t0_58 v14 v15))
def lX7_resultOf_11 (a1 : Int32) (M : sM) (K11 : Int32 → Int32 → Int32 → Prop) : Nat → Int32 → Int32 → Int32 → Int32 → Prop
  | 0, _, _, _, _ => False
  | n11 + 1, x2_11, x3_11, x4_11, x5_11 => ((M 34 ((1 : Int32)).toNatClampNeg) ≤ x5_11 → (K11 x2_11 x3_11 x4_11)) ∧ (¬ (M 34 ((1 : Int32)).toNatClampNeg) ≤ x5_11 → (wX7_pair x5_11 a1 (2 : Int32) M (fun r10 => ∀ v11 : Int32, v11 = (r10 - (1 : Int32)) → (∀ v12 : Int32, v12 = (if (0 : Int32) < v11 then v11 else (0 : Int32)) → (∀ v13 : Int32, v13 = (x2_11 + v12) → ((v11 < 0 → (jX7_resultOf_58 x4_11 x5_11 v11 v13 (fun x2_11 x3_11 x4_11 x5_11 => lX7_resultOf_11 a1 M K11 n11 x2_11 x3_11 x4_11 x5_11) x3_11)) ∧ (¬ v11 < 0 → (∀ v17 : Int32, v17 = (if v11 < x3_11 then v11 else x3_11) → (jX7_resultOf_58 x4_11 x5_11 v11 v13 (fun x2_11 x3_11 x4_11 x5_11 => lX7_resultOf_11 a1 M K11 n11 x2_11 x3_11 x4_11 x5_11) v17)))))))))
theorem cv_X7_resultOf : sw_cV yX7_resultOf RX7 cX7_resultOf 7 (some .int) 1 := ⟨q_1099, q_1396, q_9, q_1100, by decide +kernel⟩
def wX7_resultOf (a1 : Int32) (M : sM) (Q : Int32 → Prop) : Prop :=
  ∃ n11, lX7_resultOf_11 a1 M (fun x2_11k x3_11k x4_11k => wX7_gradesAt a1 M (fun r1 => ((2 : Int32) ≤ r1 → ((r1 = (2 : Int32) → (Q (x2_11k / (2 : Int32)))) ∧ (¬ r1 = (2 : Int32) → (Q ((x2_11k - x3_11k) - x4_11k))))) ∧ (¬ (2 : Int32) ≤ r1 → (Q (-1 : Int32))))) n11 (0 : Int32) (20 : Int32) (0 : Int32) (0 : Int32)
set_option maxRecDepth 20000 in
theorem kX7_resultOf (l : Launch) (g : sG) (o : Nat → Int64) (d : Nat → UInt64) (a1 : Int32) (M : sM) (Q : Int32 → Prop) (h : wX7_resultOf a1 M Q) : Met l yX7_resultOf (sw_ws yX7_resultOf cX7_resultOf 7 (some .int)) { frames := 2, cells := 0, slots := 0, locals := 46 } (va_Pc [.ref (sw_ad g 33), .int a1] (sw_Pr g o d M)) (va_Qi (fun r M1 => Q r ∧ M1 = M) (sw_Po g o d) (sw_A g)) 0 0 (sw_A g) := by
  refine sw_met (by decide) (Nat.le_of_ble_eq_true rfl) ?_
  intro p e s m args below meth c ls hx hb hr hts hown hml hlocks hW hl
  have hown : s.vm.findClass RX7 = some m.cls := hown
  have hl : lv_has ls 7 [(0, .ref (sw_ad g 33)), (1, .int a1)] := hl
  unfold wX7_resultOf at h
  refine lv_iconst (v := 0) hx hb dX7_resultOf_0 (by decide) ?_
  refine lv_istore_n (lv' := [(2, .int (0 : Int32)), (0, .ref (sw_ad g 33)), (1, .int a1)]) hx hb dX7_resultOf_1 rfl hl (Nat.le_of_ble_eq_true rfl) rfl (fun ls hl => ?_)
  refine lv_bipush (v := 20) hx hb dX7_resultOf_2 (by decide) ?_
  refine lv_istore_n (lv' := [(3, .int (20 : Int32)), (2, .int (0 : Int32)), (0, .ref (sw_ad g 33)), (1, .int a1)]) hx hb dX7_resultOf_4 rfl hl (Nat.le_of_ble_eq_true rfl) rfl (fun ls hl => ?_)
  refine lv_iconst (v := 0) hx hb dX7_resultOf_5 (by decide) ?_
  refine lv_istore (lv' := [(4, .int (0 : Int32)), (3, .int (20 : Int32)), (2, .int (0 : Int32)), (0, .ref (sw_ad g 33)), (1, .int a1)]) hx hb dX7_resultOf_6 hl (Nat.le_of_ble_eq_true rfl) rfl (fun ls hl => ?_)
  refine lv_iconst (v := 0) hx hb dX7_resultOf_8 (by decide) ?_
  refine lv_istore (lv' := [(5, .int (0 : Int32)), (4, .int (0 : Int32)), (3, .int (20 : Int32)), (2, .int (0 : Int32)), (0, .ref (sw_ad g 33)), (1, .int a1)]) hx hb dX7_resultOf_9 hl (Nat.le_of_ble_eq_true rfl) rfl (fun ls hl => ?_)
  obtain ⟨n11, h⟩ := h
  refine sw_lp_iiii (hd := 11) (Lf := fun x2_11 x3_11 x4_11 x5_11 => [(0, .ref (sw_ad g 33)), (1, .int a1), (2, .int x2_11), (3, .int x3_11), (4, .int x4_11), (5, .int x5_11)]) h hW (lv_sub hl [4, 5, 3, 2, 1, 0] rfl) (fun _ _ _ _ h => h) (fun n11 ih11 x2_11 x3_11 x4_11 x5_11 H locs ls h hW hl => ?_)
  rw [lX7_resultOf_11.eq_2] at h
  refine lv_iload hx hb dX7_resultOf_11 (lv_at hl 5 rfl) ?_
  refine lv_aload_n hx hb dX7_resultOf_13 rfl (lv_at hl 0 rfl) ?_
  refine sw_gr (j := 0) (r := 34) hx hb hts hown hW rfl qf_7 (Nat.le_of_ble_eq_true rfl) sl_33 rfl (Nat.le_of_ble_eq_true rfl) q_944 dX7_resultOf_14 ?_
  refine lv_iconst (v := 1) hx hb dX7_resultOf_17 (by decide) ?_
  refine sw_ia (n := 228) hx hb hW (Nat.le_of_ble_eq_true rfl) sl_34 (vp_in_iff.mpr (by decide)) dX7_resultOf_18 ?_
  refine lv_icmp_ge (tgt := 74) hx hb dX7_resultOf_19 (by decide) (fun k5 => ?_) (fun k5 => ?_)
  · have h := h.1 k5
    refine lv_aload_n hx hb dX7_resultOf_74 rfl (lv_at hl 0 rfl) ?_
    refine lv_iload_n hx hb dX7_resultOf_75 rfl (lv_at hl 1 rfl) ?_
    refine sw_ki (rest := []) (sw_runV (As := [.int a1]) (rest := []) hx hb hml hown hts (kX7_gradesAt l g o d a1 M _ h) cv_X7_gradesAt q_1081 rfl rfl ⟨(Nat.le_of_ble_eq_true rfl), (Nat.le_of_ble_eq_true rfl)⟩ hW (Nat.le_of_ble_eq_true rfl) sl_33 rfl rfl hl.1 rfl (Nat.le_of_ble_eq_true rfl) dX7_resultOf_76 ⟨(Nat.le_of_ble_eq_true rfl), (Nat.le_of_ble_eq_true rfl)⟩) hW (fun r6 M9 H locs h hW => ?_)
    obtain ⟨h, eM9⟩ := h
    rw [eM9] at hW
    refine lv_istore (lv' := [(5, .int r6), (0, .ref (sw_ad g 33)), (1, .int a1), (2, .int x2_11), (3, .int x3_11), (4, .int x4_11)]) hx hb dX7_resultOf_79 hl (Nat.le_of_ble_eq_true rfl) rfl (fun ls hl => ?_)
    refine lv_iload hx hb dX7_resultOf_81 (lv_at hl 0 rfl) ?_
    refine lv_iconst (v := 2) hx hb dX7_resultOf_83 (by decide) ?_
    refine lv_icmp_ge (tgt := 91) hx hb dX7_resultOf_84 (by decide) (fun k7 => ?_) (fun k7 => ?_)
    · have h := h.1 k7
      refine lv_iload hx hb dX7_resultOf_91 (lv_at hl 0 rfl) ?_
      refine lv_iconst (v := 2) hx hb dX7_resultOf_93 (by decide) ?_
      refine lv_icmp_ne (tgt := 103) hx hb dX7_resultOf_94 (by decide) (fun k8 => ?_) (fun k8 => ?_)
      · have h := h.2 k8
        refine lv_iload_n hx hb dX7_resultOf_103 rfl (lv_at hl 3 rfl) ?_
        refine lv_iload_n hx hb dX7_resultOf_104 rfl (lv_at hl 4 rfl) ?_
        refine lv_isub hx hb dX7_resultOf_105 ?_
        refine lv_iload hx hb dX7_resultOf_106 (lv_at hl 5 rfl) ?_
        refine lv_isub hx hb dX7_resultOf_108 ?_
        exact sw_ri hx hb hr hlocks hW rfl ⟨h, rfl⟩ dX7_resultOf_109
      · have h := h.1 k8
        refine lv_iload_n hx hb dX7_resultOf_97 rfl (lv_at hl 3 rfl) ?_
        refine lv_iconst (v := 2) hx hb dX7_resultOf_98 (by decide) ?_
        refine lv_idiv hx hb dX7_resultOf_99 (by decide) ?_
        refine lv_goto (tgt := 109) hx hb dX7_resultOf_100 (by decide) ?_
        exact sw_ri hx hb hr hlocks hW rfl ⟨h, rfl⟩ dX7_resultOf_109
    · have h := h.2 k7
      refine lv_iconst (v := -1) hx hb dX7_resultOf_87 (by decide) ?_
      refine lv_goto (tgt := 109) hx hb dX7_resultOf_88 (by decide) ?_
      exact sw_ri hx hb hr hlocks hW rfl ⟨h, rfl⟩ dX7_resultOf_109
  · have h := h.2 k5
    refine lv_aload_n hx hb dX7_resultOf_22 rfl (lv_at hl 0 rfl) ?_
    refine lv_iload hx hb dX7_resultOf_23 (lv_at hl 5 rfl) ?_
    refine lv_iload_n hx hb dX7_resultOf_25 rfl (lv_at hl 1 rfl) ?_
    refine lv_iconst (v := 2) hx hb dX7_resultOf_26 (by decide) ?_
    refine sw_ki (rest := []) (sw_runV (As := [.int x5_11, .int a1, .int (2 : Int32)]) (rest := []) hx hb hml hown hts (kX7_pair l g o d x5_11 a1 (2 : Int32) M _ h) cv_X7_pair q_1018 rfl rfl ⟨(Nat.le_of_ble_eq_true rfl), (Nat.le_of_ble_eq_true rfl)⟩ hW (Nat.le_of_ble_eq_true rfl) sl_33 rfl rfl hl.1 rfl (Nat.le_of_ble_eq_true rfl) dX7_resultOf_27 ⟨(Nat.le_of_ble_eq_true rfl), (Nat.le_of_ble_eq_true rfl)⟩) hW (fun r10 M18 H locs h hW => ?_)
    obtain ⟨h, eM18⟩ := h
    rw [eM18] at hW
    refine lv_iconst (v := 1) hx hb dX7_resultOf_30 (by decide) ?_
    refine lv_isub hx hb dX7_resultOf_31 ?_
    refine lv_topi (fun v11 ev11 => ?_)
    have h := h v11 ev11
    refine lv_istore (lv' := [(6, .int v11), (0, .ref (sw_ad g 33)), (1, .int a1), (2, .int x2_11), (3, .int x3_11), (4, .int x4_11), (5, .int x5_11)]) hx hb dX7_resultOf_32 hl (Nat.le_of_ble_eq_true rfl) rfl (fun ls hl => ?_)
    refine lv_iload_n hx hb dX7_resultOf_34 rfl (lv_at hl 3 rfl) ?_
    refine lv_iconst (v := 0) hx hb dX7_resultOf_35 (by decide) ?_
    refine lv_iload hx hb dX7_resultOf_36 (lv_at hl 0 rfl) ?_
    refine va_mmax hx hb (hml.trans hl.1.symm) hown (sw_w hts q_1101) (sw_w hts q_337) (sw_w hts q_18) (sw_w hts q_338) (Nat.le_of_ble_eq_true rfl) (Nat.le_of_ble_eq_true rfl) (Nat.le_of_ble_eq_true rfl) (Nat.le_of_ble_eq_true rfl) dX7_resultOf_38 ?_
    refine lv_topi (fun v12 ev12 => ?_)
    have h := h v12 ev12
    refine lv_iadd hx hb dX7_resultOf_41 ?_
    refine lv_topi (fun v13 ev13 => ?_)
    have h := h v13 ev13
    refine lv_istore_n (lv' := [(2, .int v13), (6, .int v11), (0, .ref (sw_ad g 33)), (1, .int a1), (3, .int x3_11), (4, .int x4_11), (5, .int x5_11)]) hx hb dX7_resultOf_42 rfl hl (Nat.le_of_ble_eq_true rfl) rfl (fun ls hl => ?_)
    refine lv_iload hx hb dX7_resultOf_43 (lv_at hl 1 rfl) ?_
    refine sw_jn_i (g := g) (o := o) (d := d) (nL := 7) (M := M) (jp := 58) (J := fun t0_58 => jX7_resultOf_58 x4_11 x5_11 v11 v13 (fun x2_11 x3_11 x4_11 x5_11 => lX7_resultOf_11 a1 M (fun x2_11k x3_11k x4_11k => wX7_gradesAt a1 M (fun r1 => ((2 : Int32) ≤ r1 → ((r1 = (2 : Int32) → (Q (x2_11k / (2 : Int32)))) ∧ (¬ r1 = (2 : Int32) → (Q ((x2_11k - x3_11k) - x4_11k))))) ∧ (¬ (2 : Int32) ≤ r1 → (Q (-1 : Int32))))) n11 x2_11 x3_11 x4_11 x5_11) t0_58) (Lf := fun t0_58 => [(0, .ref (sw_ad g 33)), (1, .int a1), (2, .int v13), (4, .int x4_11), (5, .int x5_11), (6, .int v11)]) (Sf := fun t0_58 => [.int t0_58]) (fun t0_58 H locs ls h hW hl => ?_) (fun hJ58 => ?_)
    · unfold jX7_resultOf_58 at h
      refine lv_istore_n (lv' := [(3, .int t0_58), (0, .ref (sw_ad g 33)), (1, .int a1), (2, .int v13), (4, .int x4_11), (5, .int x5_11), (6, .int v11)]) hx hb dX7_resultOf_58 rfl hl (Nat.le_of_ble_eq_true rfl) rfl (fun ls hl => ?_)
      refine lv_iload hx hb dX7_resultOf_59 (lv_at hl 4 rfl) ?_
      refine lv_iload hx hb dX7_resultOf_61 (lv_at hl 6 rfl) ?_
      refine va_mmax hx hb (hml.trans hl.1.symm) hown (sw_w hts q_1101) (sw_w hts q_337) (sw_w hts q_18) (sw_w hts q_338) (Nat.le_of_ble_eq_true rfl) (Nat.le_of_ble_eq_true rfl) (Nat.le_of_ble_eq_true rfl) (Nat.le_of_ble_eq_true rfl) dX7_resultOf_63 ?_
      refine lv_topi (fun v14 ev14 => ?_)
      have h := h v14 ev14
      refine lv_istore (lv' := [(4, .int v14), (3, .int t0_58), (0, .ref (sw_ad g 33)), (1, .int a1), (2, .int v13), (5, .int x5_11), (6, .int v11)]) hx hb dX7_resultOf_66 hl (Nat.le_of_ble_eq_true rfl) rfl (fun ls hl => ?_)
      obtain ⟨v15, ev15⟩ : ∃ z : Int32, z = x5_11 + (1 : Int32) := ⟨_, rfl⟩
      have h := h v15 ev15
      refine lv_iinc (v := v15) (lv' := [(5, .int v15), (4, .int v14), (3, .int t0_58), (0, .ref (sw_ad g 33)), (1, .int a1), (2, .int v13), (6, .int v11)]) hx hb dX7_resultOf_68 hl (k := 5) rfl (by rw [ev15]; rfl) (Nat.le_of_ble_eq_true rfl) rfl (fun ls hl => ?_)
      refine lv_goto (tgt := 11) hx hb dX7_resultOf_71 (by decide) ?_
      exact ih11 _ _ _ _ _ _ _ h hW (lv_sub hl [3, 4, 5, 2, 1, 0] rfl)
    · refine lv_if_lt (tgt := 57) hx hb dX7_resultOf_45 (by decide) (fun k16 => ?_) (fun k16 => ?_)
      · have h := h.1 k16
        refine lv_iload_n hx hb dX7_resultOf_57 rfl (lv_at hl 4 rfl) ?_
        exact hJ58 _ _ _ _ h hW (lv_sub hl [2, 3, 0, 5, 6, 1] rfl)
      · have h := h.2 k16
        refine lv_iload_n hx hb dX7_resultOf_48 rfl (lv_at hl 4 rfl) ?_
        refine lv_iload hx hb dX7_resultOf_49 (lv_at hl 1 rfl) ?_
        refine va_mmin hx hb (hml.trans hl.1.symm) hown (sw_w hts q_1102) (sw_w hts q_306) (sw_w hts q_18) (sw_w hts q_307) (Nat.le_of_ble_eq_true rfl) (Nat.le_of_ble_eq_true rfl) (Nat.le_of_ble_eq_true rfl) (Nat.le_of_ble_eq_true rfl) dX7_resultOf_51 ?_
        refine lv_topi (fun v17 ev17 => ?_)
        have h := h v17 ev17
        refine lv_goto (tgt := 58) hx hb dX7_resultOf_54 (by decide) ?_
        exact hJ58 _ _ _ _ h hW (lv_sub hl [2, 3, 0, 5, 6, 1] rfl)

theorem cv_X7_hasPassed : sw_cV yX7_hasPassed RX7 cX7_hasPassed 3 (some .boolean) 1 := ⟨q_1104, q_1397, q_9, q_1105, by decide +kernel⟩
def wX7_hasPassed (a1 : Int32) (M : sM) (Q : Int32 → Prop) : Prop :=
  wX7_resultOf a1 M (fun r1 => (r1 < 0 → (Q (0 : Int32))) ∧ (¬ r1 < 0 → ((r1 < (M 34 ((2 : Int32)).toNatClampNeg) → (Q (0 : Int32))) ∧ (¬ r1 < (M 34 ((2 : Int32)).toNatClampNeg) → (Q (1 : Int32))))))
set_option maxRecDepth 20000 in
theorem kX7_hasPassed (l : Launch) (g : sG) (o : Nat → Int64) (d : Nat → UInt64) (a1 : Int32) (M : sM) (Q : Int32 → Prop) (h : wX7_hasPassed a1 M Q) : Met l yX7_hasPassed (sw_ws yX7_hasPassed cX7_hasPassed 3 (some .boolean)) { frames := 3, cells := 0, slots := 0, locals := 72 } (va_Pc [.ref (sw_ad g 33), .int a1] (sw_Pr g o d M)) (va_Qi (fun r M1 => Q r ∧ M1 = M) (sw_Po g o d) (sw_A g)) 0 0 (sw_A g) := by
  refine sw_met (by decide) (Nat.le_of_ble_eq_true rfl) ?_
  intro p e s m args below meth c ls hx hb hr hts hown hml hlocks hW hl
  have hown : s.vm.findClass RX7 = some m.cls := hown
  have hl : lv_has ls 3 [(0, .ref (sw_ad g 33)), (1, .int a1)] := hl
  unfold wX7_hasPassed at h
  refine lv_aload_n hx hb dX7_hasPassed_0 rfl (lv_at hl 0 rfl) ?_
  refine lv_iload_n hx hb dX7_hasPassed_1 rfl (lv_at hl 1 rfl) ?_
  refine sw_ki (rest := []) (sw_runV (As := [.int a1]) (rest := []) hx hb hml hown hts (kX7_resultOf l g o d a1 M _ h) cv_X7_resultOf q_1098 rfl rfl ⟨(Nat.le_of_ble_eq_true rfl), (Nat.le_of_ble_eq_true rfl)⟩ hW (Nat.le_of_ble_eq_true rfl) sl_33 rfl rfl hl.1 rfl (Nat.le_of_ble_eq_true rfl) dX7_hasPassed_2 ⟨(Nat.le_of_ble_eq_true rfl), (Nat.le_of_ble_eq_true rfl)⟩) hW (fun r1 M4 H locs h hW => ?_)
  obtain ⟨h, eM4⟩ := h
  rw [eM4] at hW
  refine lv_istore_n (lv' := [(2, .int r1), (0, .ref (sw_ad g 33)), (1, .int a1)]) hx hb dX7_hasPassed_5 rfl hl (Nat.le_of_ble_eq_true rfl) rfl (fun ls hl => ?_)
  refine lv_iload_n hx hb dX7_hasPassed_6 rfl (lv_at hl 0 rfl) ?_
  refine lv_if_lt (tgt := 24) hx hb dX7_hasPassed_7 (by decide) (fun k2 => ?_) (fun k2 => ?_)
  · have h := h.1 k2
    refine lv_iconst (v := 0) hx hb dX7_hasPassed_24 (by decide) ?_
    exact sw_ri hx hb hr hlocks hW (by decide) ⟨h, rfl⟩ dX7_hasPassed_25
  · have h := h.2 k2
    refine lv_iload_n hx hb dX7_hasPassed_10 rfl (lv_at hl 0 rfl) ?_
    refine lv_aload_n hx hb dX7_hasPassed_11 rfl (lv_at hl 1 rfl) ?_
    refine sw_gr (j := 0) (r := 34) hx hb hts hown hW rfl qf_7 (Nat.le_of_ble_eq_true rfl) sl_33 rfl (Nat.le_of_ble_eq_true rfl) q_944 dX7_hasPassed_12 ?_
    refine lv_iconst (v := 2) hx hb dX7_hasPassed_15 (by decide) ?_
    refine sw_ia (n := 228) hx hb hW (Nat.le_of_ble_eq_true rfl) sl_34 (vp_in_iff.mpr (by decide)) dX7_hasPassed_16 ?_
    refine lv_icmp_lt (tgt := 24) hx hb dX7_hasPassed_17 (by decide) (fun k3 => ?_) (fun k3 => ?_)
    · have h := h.1 k3
      refine lv_iconst (v := 0) hx hb dX7_hasPassed_24 (by decide) ?_
      exact sw_ri hx hb hr hlocks hW (by decide) ⟨h, rfl⟩ dX7_hasPassed_25
    · have h := h.2 k3
      refine lv_iconst (v := 1) hx hb dX7_hasPassed_20 (by decide) ?_
      refine lv_goto (tgt := 25) hx hb dX7_hasPassed_21 (by decide) ?_
      exact sw_ri hx hb hr hlocks hW (by decide) ⟨h, rfl⟩ dX7_hasPassed_25

theorem cv_X7_entitled : sw_cV yX7_entitled RX7 cX7_entitled 2 (some .boolean) 1 := ⟨q_1120, q_1401, q_9, q_1121, by decide +kernel⟩
def wX7_entitled (a1 : Int32) (M : sM) (Q : Int32 → Prop) : Prop :=
  wX7_hasPassed a1 M (fun r1 => (r1 = 0 → (wX7_door a1 (3 : Int32) M (fun r3 => (r3 = (1 : Int32) → (Q (1 : Int32))) ∧ (¬ r3 = (1 : Int32) → (Q (0 : Int32)))))) ∧ (¬ r1 = 0 → (Q (1 : Int32))))
set_option maxRecDepth 20000 in
theorem kX7_entitled (l : Launch) (g : sG) (o : Nat → Int64) (d : Nat → UInt64) (a1 : Int32) (M : sM) (Q : Int32 → Prop) (h : wX7_entitled a1 M Q) : Met l yX7_entitled (sw_ws yX7_entitled cX7_entitled 2 (some .boolean)) { frames := 4, cells := 0, slots := 0, locals := 94 } (va_Pc [.ref (sw_ad g 33), .int a1] (sw_Pr g o d M)) (va_Qi (fun r M1 => Q r ∧ M1 = M) (sw_Po g o d) (sw_A g)) 0 0 (sw_A g) := by
  refine sw_met (by decide) (Nat.le_of_ble_eq_true rfl) ?_
  intro p e s m args below meth c ls hx hb hr hts hown hml hlocks hW hl
  have hown : s.vm.findClass RX7 = some m.cls := hown
  have hl : lv_has ls 2 [(0, .ref (sw_ad g 33)), (1, .int a1)] := hl
  unfold wX7_entitled at h
  refine lv_aload_n hx hb dX7_entitled_0 rfl (lv_at hl 0 rfl) ?_
  refine lv_iload_n hx hb dX7_entitled_1 rfl (lv_at hl 1 rfl) ?_
  refine sw_ki (rest := []) (sw_runV (As := [.int a1]) (rest := []) hx hb hml hown hts (kX7_hasPassed l g o d a1 M _ h) cv_X7_hasPassed q_1103 rfl rfl ⟨(Nat.le_of_ble_eq_true rfl), (Nat.le_of_ble_eq_true rfl)⟩ hW (Nat.le_of_ble_eq_true rfl) sl_33 rfl rfl hl.1 rfl (Nat.le_of_ble_eq_true rfl) dX7_entitled_2 ⟨(Nat.le_of_ble_eq_true rfl), (Nat.le_of_ble_eq_true rfl)⟩) hW (fun r1 M6 H locs h hW => ?_)
  obtain ⟨h, eM6⟩ := h
  rw [eM6] at hW
  refine lv_if_ne (tgt := 18) hx hb dX7_entitled_5 (by decide) (fun k2 => ?_) (fun k2 => ?_)
  · have h := h.2 k2
    refine lv_iconst (v := 1) hx hb dX7_entitled_18 (by decide) ?_
    refine lv_goto (tgt := 23) hx hb dX7_entitled_19 (by decide) ?_
    exact sw_ri hx hb hr hlocks hW (by decide) ⟨h, rfl⟩ dX7_entitled_23
  · have h := h.1 k2
    refine lv_aload_n hx hb dX7_entitled_8 rfl (lv_at hl 0 rfl) ?_
    refine lv_iload_n hx hb dX7_entitled_9 rfl (lv_at hl 1 rfl) ?_
    refine lv_iconst (v := 3) hx hb dX7_entitled_10 (by decide) ?_
    refine sw_ki (rest := []) (sw_runV (As := [.int a1, .int (3 : Int32)]) (rest := []) hx hb hml hown hts (kX7_door l g o d a1 (3 : Int32) M _ h) cv_X7_door q_1033 rfl rfl ⟨(Nat.le_of_ble_eq_true rfl), (Nat.le_of_ble_eq_true rfl)⟩ hW (Nat.le_of_ble_eq_true rfl) sl_33 rfl rfl hl.1 rfl (Nat.le_of_ble_eq_true rfl) dX7_entitled_11 ⟨(Nat.le_of_ble_eq_true rfl), (Nat.le_of_ble_eq_true rfl)⟩) hW (fun r3 M5 H locs h hW => ?_)
    obtain ⟨h, eM5⟩ := h
    rw [eM5] at hW
    refine lv_iconst (v := 1) hx hb dX7_entitled_14 (by decide) ?_
    refine lv_icmp_ne (tgt := 22) hx hb dX7_entitled_15 (by decide) (fun k4 => ?_) (fun k4 => ?_)
    · have h := h.2 k4
      refine lv_iconst (v := 0) hx hb dX7_entitled_22 (by decide) ?_
      exact sw_ri hx hb hr hlocks hW (by decide) ⟨h, rfl⟩ dX7_entitled_23
    · have h := h.1 k4
      refine lv_iconst (v := 1) hx hb dX7_entitled_18 (by decide) ?_
      refine lv_goto (tgt := 23) hx hb dX7_entitled_19 (by decide) ?_
      exact sw_ri hx hb hr hlocks hW (by decide) ⟨h, rfl⟩ dX7_entitled_23

theorem cs_X7_isFrame : sw_cS yX7_isFrame cX7_isFrame 1 (some .boolean) 1 := ⟨q_984, q_9, q_985, by decide +kernel⟩
def wX7_isFrame (a1 : Int32) (Q : Int32 → Prop) : Prop :=
  wX7_in a1 (97 : Int32) (102 : Int32) (fun r1 => narrow .boolean (.int r1) = .int r1 ∧ (Q r1))
set_option maxRecDepth 20000 in
theorem kX7_isFrame (l : Launch) (g : sG) (o : Nat → Int64) (d : Nat → UInt64) (a1 : Int32) (M : sM) (Q : Int32 → Prop) (h : wX7_isFrame a1 Q) : Met l yX7_isFrame (sw_ws yX7_isFrame cX7_isFrame 1 (some .boolean)) { frames := 1, cells := 0, slots := 0, locals := 22 } (va_Pc [.int a1] (sw_Pr g o d M)) (va_Qi (fun r M1 => Q r ∧ M1 = M) (sw_Po g o d) (sw_A g)) 0 0 (sw_A g) := by
  refine sw_met (by decide) (Nat.le_of_ble_eq_true rfl) ?_
  intro p e s m args below meth c ls hx hb hr hts hown hml hlocks hW hl
  have hown : s.vm.findClass RX7 = some m.cls := hown
  have hl : lv_has ls 1 [(0, .int a1)] := hl
  unfold wX7_isFrame at h
  refine lv_iload_n hx hb dX7_isFrame_0 rfl (lv_at hl 0 rfl) ?_
  refine lv_bipush (v := 97) hx hb dX7_isFrame_1 (by decide) ?_
  refine lv_bipush (v := 102) hx hb dX7_isFrame_3 (by decide) ?_
  refine sw_ki (rest := []) (sw_runS (As := [.int a1, .int (97 : Int32), .int (102 : Int32)]) (rest := []) hx hb hml hown hts (kX7_in l g o d a1 (97 : Int32) (102 : Int32) M _ h) cs_X7_in q_986 rfl rfl ⟨(Nat.le_of_ble_eq_true rfl), (Nat.le_of_ble_eq_true rfl)⟩ hW rfl hl.1 rfl (Nat.le_of_ble_eq_true rfl) dX7_isFrame_5 ⟨(Nat.le_of_ble_eq_true rfl), (Nat.le_of_ble_eq_true rfl)⟩) hW (fun r1 M2 H locs h hW => ?_)
  obtain ⟨h, eM2⟩ := h
  rw [eM2] at hW
  exact sw_ri hx hb hr hlocks hW h.1 ⟨h.2, rfl⟩ dX7_isFrame_8

theorem cv_X7_doAddDoor : sw_cV yX7_doAddDoor RX7 cX7_doAddDoor 5 (some .int) 2 := ⟨q_981, q_1368, q_9, q_982, by decide +kernel⟩
def wX7_doAddDoor (a1 : Int32) (a2 : Int32) (M : sM) (Q : Int32 → sM → Prop) : Prop :=
  ∀ v1 : Int32, v1 = (M 34 ((0 : Int32)).toNatClampNeg) → (wX7_isFrame a1 (fun r2 => (r2 = 0 → (wX7_fails (1 : Int32) M (fun r4 M5 => Q r4 M5))) ∧ (¬ r2 = 0 → (wX7_in a2 (0 : Int32) (5 : Int32) (fun r6 => (r6 = 0 → (wX7_fails (1 : Int32) M (fun r23 M24 => Q r23 M24))) ∧ (¬ r6 = 0 → ((v1 = (8 : Int32) → (wX7_fails (2 : Int32) M (fun r21 M22 => Q r21 M22))) ∧ (¬ v1 = (8 : Int32) → (∀ v9 : Int32, v9 = ((4 : Int32) + ((5 : Int32) * v1)) → (vp_in v9 228 ∧ (∀ M11 : sM, M11 = sw_ms M 34 (v9).toNatClampNeg a1 → (vp_in (v9 + (1 : Int32)) 228 ∧ (∀ M13 : sM, M13 = sw_ms M11 34 ((v9 + (1 : Int32))).toNatClampNeg a2 → (vp_in (v9 + (2 : Int32)) 228 ∧ (∀ M15 : sM, M15 = sw_ms M13 34 ((v9 + (2 : Int32))).toNatClampNeg (0 : Int32) → (vp_in (v9 + (3 : Int32)) 228 ∧ (∀ M17 : sM, M17 = sw_ms M15 34 ((v9 + (3 : Int32))).toNatClampNeg (0 : Int32) → (vp_in (v9 + (4 : Int32)) 228 ∧ (∀ M19 : sM, M19 = sw_ms M17 34 ((v9 + (4 : Int32))).toNatClampNeg (0 : Int32) → (∀ M20 : sM, M20 = sw_ms M19 34 ((0 : Int32)).toNatClampNeg ((M19 34 ((0 : Int32)).toNatClampNeg) + (1 : Int32)) → (Q v1 M20)))))))))))))))))))))
set_option maxRecDepth 20000 in
theorem kX7_doAddDoor (l : Launch) (g : sG) (o : Nat → Int64) (d : Nat → UInt64) (a1 : Int32) (a2 : Int32) (M : sM) (Q : Int32 → sM → Prop) (h : wX7_doAddDoor a1 a2 M Q) : Met l yX7_doAddDoor (sw_ws yX7_doAddDoor cX7_doAddDoor 5 (some .int)) { frames := 2, cells := 0, slots := 0, locals := 42 } (va_Pc [.ref (sw_ad g 33), .int a1, .int a2] (sw_Pr g o d M)) (va_Qi Q (sw_Po g o d) (sw_A g)) 0 0 (sw_A g) := by
  refine sw_met (by decide) (Nat.le_of_ble_eq_true rfl) ?_
  intro p e s m args below meth c ls hx hb hr hts hown hml hlocks hW hl
  have hown : s.vm.findClass RX7 = some m.cls := hown
  have hl : lv_has ls 5 [(0, .ref (sw_ad g 33)), (1, .int a1), (2, .int a2)] := hl
  unfold wX7_doAddDoor at h
  refine lv_aload_n hx hb dX7_doAddDoor_0 rfl (lv_at hl 0 rfl) ?_
  refine sw_gr (j := 0) (r := 34) hx hb hts hown hW rfl qf_7 (Nat.le_of_ble_eq_true rfl) sl_33 rfl (Nat.le_of_ble_eq_true rfl) q_944 dX7_doAddDoor_1 ?_
  refine lv_iconst (v := 0) hx hb dX7_doAddDoor_4 (by decide) ?_
  refine sw_ia (n := 228) hx hb hW (Nat.le_of_ble_eq_true rfl) sl_34 (vp_in_iff.mpr (by decide)) dX7_doAddDoor_5 ?_
  refine lv_topi (fun v1 ev1 => ?_)
  have h := h v1 ev1
  refine lv_istore_n (lv' := [(3, .int v1), (0, .ref (sw_ad g 33)), (1, .int a1), (2, .int a2)]) hx hb dX7_doAddDoor_6 rfl hl (Nat.le_of_ble_eq_true rfl) rfl (fun ls hl => ?_)
  refine lv_iload_n hx hb dX7_doAddDoor_7 rfl (lv_at hl 2 rfl) ?_
  refine sw_ki (rest := []) (sw_runS (As := [.int a1]) (rest := []) hx hb hml hown hts (kX7_isFrame l g o d a1 M _ h) cs_X7_isFrame q_983 rfl rfl ⟨(Nat.le_of_ble_eq_true rfl), (Nat.le_of_ble_eq_true rfl)⟩ hW rfl hl.1 rfl (Nat.le_of_ble_eq_true rfl) dX7_doAddDoor_8 ⟨(Nat.le_of_ble_eq_true rfl), (Nat.le_of_ble_eq_true rfl)⟩) hW (fun r2 M26 H locs h hW => ?_)
  obtain ⟨h, eM26⟩ := h
  rw [eM26] at hW
  refine lv_if_eq (tgt := 23) hx hb dX7_doAddDoor_11 (by decide) (fun k3 => ?_) (fun k3 => ?_)
  · have h := h.1 k3
    refine lv_aload_n hx hb dX7_doAddDoor_23 rfl (lv_at hl 1 rfl) ?_
    refine lv_iconst (v := 1) hx hb dX7_doAddDoor_24 (by decide) ?_
    refine sw_ki (rest := []) (sw_runV (As := [.int (1 : Int32)]) (rest := []) hx hb hml hown hts (kX7_fails l g o d (1 : Int32) M _ h) cv_X7_fails q_989 rfl rfl ⟨(Nat.le_of_ble_eq_true rfl), (Nat.le_of_ble_eq_true rfl)⟩ hW (Nat.le_of_ble_eq_true rfl) sl_33 rfl rfl hl.1 rfl (Nat.le_of_ble_eq_true rfl) dX7_doAddDoor_25 ⟨(Nat.le_of_ble_eq_true rfl), (Nat.le_of_ble_eq_true rfl)⟩) hW (fun r4 M5 H locs h hW => ?_)
    exact sw_ri hx hb hr hlocks hW rfl h dX7_doAddDoor_28
  · have h := h.2 k3
    refine lv_iload_n hx hb dX7_doAddDoor_14 rfl (lv_at hl 3 rfl) ?_
    refine lv_iconst (v := 0) hx hb dX7_doAddDoor_15 (by decide) ?_
    refine lv_iconst (v := 5) hx hb dX7_doAddDoor_16 (by decide) ?_
    refine sw_ki (rest := []) (sw_runS (As := [.int a2, .int (0 : Int32), .int (5 : Int32)]) (rest := []) hx hb hml hown hts (kX7_in l g o d a2 (0 : Int32) (5 : Int32) M _ h) cs_X7_in q_986 rfl rfl ⟨(Nat.le_of_ble_eq_true rfl), (Nat.le_of_ble_eq_true rfl)⟩ hW rfl hl.1 rfl (Nat.le_of_ble_eq_true rfl) dX7_doAddDoor_17 ⟨(Nat.le_of_ble_eq_true rfl), (Nat.le_of_ble_eq_true rfl)⟩) hW (fun r6 M25 H locs h hW => ?_)
    obtain ⟨h, eM25⟩ := h
    rw [eM25] at hW
    refine lv_if_ne (tgt := 29) hx hb dX7_doAddDoor_20 (by decide) (fun k7 => ?_) (fun k7 => ?_)
    · have h := h.2 k7
      refine lv_iload_n hx hb dX7_doAddDoor_29 rfl (lv_at hl 0 rfl) ?_
      refine lv_bipush (v := 8) hx hb dX7_doAddDoor_30 (by decide) ?_
      refine lv_icmp_ne (tgt := 41) hx hb dX7_doAddDoor_32 (by decide) (fun k8 => ?_) (fun k8 => ?_)
      · have h := h.2 k8
        refine lv_iconst (v := 4) hx hb dX7_doAddDoor_41 (by decide) ?_
        refine lv_iconst (v := 5) hx hb dX7_doAddDoor_42 (by decide) ?_
        refine lv_iload_n hx hb dX7_doAddDoor_43 rfl (lv_at hl 0 rfl) ?_
        refine lv_imul hx hb dX7_doAddDoor_44 ?_
        refine lv_iadd hx hb dX7_doAddDoor_45 ?_
        refine lv_topi (fun v9 ev9 => ?_)
        have h := h v9 ev9
        refine lv_istore (lv' := [(4, .int v9), (3, .int v1), (0, .ref (sw_ad g 33)), (1, .int a1), (2, .int a2)]) hx hb dX7_doAddDoor_46 hl (Nat.le_of_ble_eq_true rfl) rfl (fun ls hl => ?_)
        refine lv_aload_n hx hb dX7_doAddDoor_48 rfl (lv_at hl 2 rfl) ?_
        refine sw_gr (j := 0) (r := 34) hx hb hts hown hW rfl qf_7 (Nat.le_of_ble_eq_true rfl) sl_33 rfl (Nat.le_of_ble_eq_true rfl) q_944 dX7_doAddDoor_49 ?_
        refine lv_iload hx hb dX7_doAddDoor_52 (lv_at hl 0 rfl) ?_
        refine lv_iload_n hx hb dX7_doAddDoor_54 rfl (lv_at hl 3 rfl) ?_
        have b10 := h.1
        have h := h.2
        refine sw_is (n := 228) hx hb hW (Nat.le_of_ble_eq_true rfl) sl_34 b10 dX7_doAddDoor_55 (fun H locs hW => ?_)
        obtain ⟨M11, eM11⟩ : ∃ z : sM, z = sw_ms M 34 (v9).toNatClampNeg a1 := ⟨_, rfl⟩
        rw [← eM11] at hW
        have h := h M11 eM11
        refine lv_aload_n hx hb dX7_doAddDoor_56 rfl (lv_at hl 2 rfl) ?_
        refine sw_gr (j := 0) (r := 34) hx hb hts hown hW rfl qf_7 (Nat.le_of_ble_eq_true rfl) sl_33 rfl (Nat.le_of_ble_eq_true rfl) q_944 dX7_doAddDoor_57 ?_
        refine lv_iload hx hb dX7_doAddDoor_60 (lv_at hl 0 rfl) ?_
        refine lv_iconst (v := 1) hx hb dX7_doAddDoor_62 (by decide) ?_
        refine lv_iadd hx hb dX7_doAddDoor_63 ?_
        refine lv_iload_n hx hb dX7_doAddDoor_64 rfl (lv_at hl 4 rfl) ?_
        have b12 := h.1
        have h := h.2
        refine sw_is (n := 228) hx hb hW (Nat.le_of_ble_eq_true rfl) sl_34 b12 dX7_doAddDoor_65 (fun H locs hW => ?_)
        obtain ⟨M13, eM13⟩ : ∃ z : sM, z = sw_ms M11 34 ((v9 + (1 : Int32))).toNatClampNeg a2 := ⟨_, rfl⟩
        rw [← eM13] at hW
        have h := h M13 eM13
        refine lv_aload_n hx hb dX7_doAddDoor_66 rfl (lv_at hl 2 rfl) ?_
        refine sw_gr (j := 0) (r := 34) hx hb hts hown hW rfl qf_7 (Nat.le_of_ble_eq_true rfl) sl_33 rfl (Nat.le_of_ble_eq_true rfl) q_944 dX7_doAddDoor_67 ?_
        refine lv_iload hx hb dX7_doAddDoor_70 (lv_at hl 0 rfl) ?_
        refine lv_iconst (v := 2) hx hb dX7_doAddDoor_72 (by decide) ?_
        refine lv_iadd hx hb dX7_doAddDoor_73 ?_
        refine lv_iconst (v := 0) hx hb dX7_doAddDoor_74 (by decide) ?_
        have b14 := h.1
        have h := h.2
        refine sw_is (n := 228) hx hb hW (Nat.le_of_ble_eq_true rfl) sl_34 b14 dX7_doAddDoor_75 (fun H locs hW => ?_)
        obtain ⟨M15, eM15⟩ : ∃ z : sM, z = sw_ms M13 34 ((v9 + (2 : Int32))).toNatClampNeg (0 : Int32) := ⟨_, rfl⟩
        rw [← eM15] at hW
        have h := h M15 eM15
        refine lv_aload_n hx hb dX7_doAddDoor_76 rfl (lv_at hl 2 rfl) ?_
        refine sw_gr (j := 0) (r := 34) hx hb hts hown hW rfl qf_7 (Nat.le_of_ble_eq_true rfl) sl_33 rfl (Nat.le_of_ble_eq_true rfl) q_944 dX7_doAddDoor_77 ?_
        refine lv_iload hx hb dX7_doAddDoor_80 (lv_at hl 0 rfl) ?_
        refine lv_iconst (v := 3) hx hb dX7_doAddDoor_82 (by decide) ?_
        refine lv_iadd hx hb dX7_doAddDoor_83 ?_
        refine lv_iconst (v := 0) hx hb dX7_doAddDoor_84 (by decide) ?_
        have b16 := h.1
        have h := h.2
        refine sw_is (n := 228) hx hb hW (Nat.le_of_ble_eq_true rfl) sl_34 b16 dX7_doAddDoor_85 (fun H locs hW => ?_)
        obtain ⟨M17, eM17⟩ : ∃ z : sM, z = sw_ms M15 34 ((v9 + (3 : Int32))).toNatClampNeg (0 : Int32) := ⟨_, rfl⟩
        rw [← eM17] at hW
        have h := h M17 eM17
        refine lv_aload_n hx hb dX7_doAddDoor_86 rfl (lv_at hl 2 rfl) ?_
        refine sw_gr (j := 0) (r := 34) hx hb hts hown hW rfl qf_7 (Nat.le_of_ble_eq_true rfl) sl_33 rfl (Nat.le_of_ble_eq_true rfl) q_944 dX7_doAddDoor_87 ?_
        refine lv_iload hx hb dX7_doAddDoor_90 (lv_at hl 0 rfl) ?_
        refine lv_iconst (v := 4) hx hb dX7_doAddDoor_92 (by decide) ?_
        refine lv_iadd hx hb dX7_doAddDoor_93 ?_
        refine lv_iconst (v := 0) hx hb dX7_doAddDoor_94 (by decide) ?_
        have b18 := h.1
        have h := h.2
        refine sw_is (n := 228) hx hb hW (Nat.le_of_ble_eq_true rfl) sl_34 b18 dX7_doAddDoor_95 (fun H locs hW => ?_)
        obtain ⟨M19, eM19⟩ : ∃ z : sM, z = sw_ms M17 34 ((v9 + (4 : Int32))).toNatClampNeg (0 : Int32) := ⟨_, rfl⟩
        rw [← eM19] at hW
        have h := h M19 eM19
        refine lv_aload_n hx hb dX7_doAddDoor_96 rfl (lv_at hl 2 rfl) ?_
        refine sw_gr (j := 0) (r := 34) hx hb hts hown hW rfl qf_7 (Nat.le_of_ble_eq_true rfl) sl_33 rfl (Nat.le_of_ble_eq_true rfl) q_944 dX7_doAddDoor_97 ?_
        refine lv_iconst (v := 0) hx hb dX7_doAddDoor_100 (by decide) ?_
        refine lv_dup2_11 hx hb dX7_doAddDoor_101 rfl rfl ?_
        refine sw_ia (n := 228) hx hb hW (Nat.le_of_ble_eq_true rfl) sl_34 (vp_in_iff.mpr (by decide)) dX7_doAddDoor_102 ?_
        refine lv_iconst (v := 1) hx hb dX7_doAddDoor_103 (by decide) ?_
        refine lv_iadd hx hb dX7_doAddDoor_104 ?_
        refine sw_is (n := 228) hx hb hW (Nat.le_of_ble_eq_true rfl) sl_34 (vp_in_iff.mpr (by decide)) dX7_doAddDoor_105 (fun H locs hW => ?_)
        obtain ⟨M20, eM20⟩ : ∃ z : sM, z = sw_ms M19 34 ((0 : Int32)).toNatClampNeg ((M19 34 ((0 : Int32)).toNatClampNeg) + (1 : Int32)) := ⟨_, rfl⟩
        rw [← eM20] at hW
        have h := h M20 eM20
        refine lv_iload_n hx hb dX7_doAddDoor_106 rfl (lv_at hl 1 rfl) ?_
        exact sw_ri hx hb hr hlocks hW rfl h dX7_doAddDoor_107
      · have h := h.1 k8
        refine lv_aload_n hx hb dX7_doAddDoor_35 rfl (lv_at hl 1 rfl) ?_
        refine lv_iconst (v := 2) hx hb dX7_doAddDoor_36 (by decide) ?_
        refine sw_ki (rest := []) (sw_runV (As := [.int (2 : Int32)]) (rest := []) hx hb hml hown hts (kX7_fails l g o d (2 : Int32) M _ h) cv_X7_fails q_989 rfl rfl ⟨(Nat.le_of_ble_eq_true rfl), (Nat.le_of_ble_eq_true rfl)⟩ hW (Nat.le_of_ble_eq_true rfl) sl_33 rfl rfl hl.1 rfl (Nat.le_of_ble_eq_true rfl) dX7_doAddDoor_37 ⟨(Nat.le_of_ble_eq_true rfl), (Nat.le_of_ble_eq_true rfl)⟩) hW (fun r21 M22 H locs h hW => ?_)
        exact sw_ri hx hb hr hlocks hW rfl h dX7_doAddDoor_40
    · have h := h.1 k7
      refine lv_aload_n hx hb dX7_doAddDoor_23 rfl (lv_at hl 1 rfl) ?_
      refine lv_iconst (v := 1) hx hb dX7_doAddDoor_24 (by decide) ?_
      refine sw_ki (rest := []) (sw_runV (As := [.int (1 : Int32)]) (rest := []) hx hb hml hown hts (kX7_fails l g o d (1 : Int32) M _ h) cv_X7_fails q_989 rfl rfl ⟨(Nat.le_of_ble_eq_true rfl), (Nat.le_of_ble_eq_true rfl)⟩ hW (Nat.le_of_ble_eq_true rfl) sl_33 rfl rfl hl.1 rfl (Nat.le_of_ble_eq_true rfl) dX7_doAddDoor_25 ⟨(Nat.le_of_ble_eq_true rfl), (Nat.le_of_ble_eq_true rfl)⟩) hW (fun r23 M24 H locs h hW => ?_)
      exact sw_ri hx hb hr hlocks hW rfl h dX7_doAddDoor_28

theorem cv_X7_addDoor : sw_cV yX7_addDoor RX7 cX7_addDoor 3 (some .int) 2 := ⟨q_971, q_972, q_9, q_973, by decide +kernel⟩
def wX7_addDoor (a1 : Int32) (a2 : Int32) (M : sM) (Q : Int32 → sM → Prop) : Prop :=
  wX7_keep M (fun M1 => wX7_doAddDoor a1 a2 M1 (fun r2 M3 => wX7_ends r2 M3 (fun r4 M5 => Q r4 M5)))
set_option maxRecDepth 20000 in
theorem kX7_addDoor (l : Launch) (g : sG) (o : Nat → Int64) (d : Nat → UInt64) (a1 : Int32) (a2 : Int32) (M : sM) (Q : Int32 → sM → Prop) (h : wX7_addDoor a1 a2 M Q) : Met l yX7_addDoor (sw_ws yX7_addDoor cX7_addDoor 3 (some .int)) { frames := 3, cells := 0, slots := 0, locals := 66 } (va_Pc [.ref (sw_ad g 33), .int a1, .int a2] (sw_Pr g o d M)) (va_Qi Q (sw_Po g o d) (sw_A g)) 0 0 (sw_A g) := by
  refine sw_met (by decide) (Nat.le_of_ble_eq_true rfl) ?_
  intro p e s m args below meth c ls hx hb hr hts hown hml hlocks hW hl
  have hown : s.vm.findClass RX7 = some m.cls := hown
  have hl : lv_has ls 3 [(0, .ref (sw_ad g 33)), (1, .int a1), (2, .int a2)] := hl
  unfold wX7_addDoor at h
  refine lv_aload_n hx hb dX7_addDoor_0 rfl (lv_at hl 0 rfl) ?_
  refine sw_kv (rest := []) (sw_runV (As := []) (rest := []) hx hb hml hown hts (kX7_keep l g o d M _ h) cv_X7_keep q_974 rfl rfl ⟨(Nat.le_of_ble_eq_true rfl), (Nat.le_of_ble_eq_true rfl)⟩ hW (Nat.le_of_ble_eq_true rfl) sl_33 rfl rfl hl.1 rfl (Nat.le_of_ble_eq_true rfl) dX7_addDoor_1 ⟨(Nat.le_of_ble_eq_true rfl), (Nat.le_of_ble_eq_true rfl)⟩) hW (fun  M1 H locs h hW => ?_)
  refine lv_aload_n hx hb dX7_addDoor_4 rfl (lv_at hl 0 rfl) ?_
  refine lv_aload_n hx hb dX7_addDoor_5 rfl (lv_at hl 0 rfl) ?_
  refine lv_iload_n hx hb dX7_addDoor_6 rfl (lv_at hl 1 rfl) ?_
  refine lv_iload_n hx hb dX7_addDoor_7 rfl (lv_at hl 2 rfl) ?_
  refine sw_ki (rest := [.ref (sw_ad g 33)]) (sw_runV (As := [.int a1, .int a2]) (rest := [.ref (sw_ad g 33)]) hx hb hml hown hts (kX7_doAddDoor l g o d a1 a2 M1 _ h) cv_X7_doAddDoor q_980 rfl rfl ⟨(Nat.le_of_ble_eq_true rfl), (Nat.le_of_ble_eq_true rfl)⟩ hW (Nat.le_of_ble_eq_true rfl) sl_33 rfl rfl hl.1 rfl (Nat.le_of_ble_eq_true rfl) dX7_addDoor_8 ⟨(Nat.le_of_ble_eq_true rfl), (Nat.le_of_ble_eq_true rfl)⟩) hW (fun r2 M3 H locs h hW => ?_)
  refine sw_ki (rest := []) (sw_runV (As := [.int r2]) (rest := []) hx hb hml hown hts (kX7_ends l g o d r2 M3 _ h) cv_X7_ends q_992 rfl rfl ⟨(Nat.le_of_ble_eq_true rfl), (Nat.le_of_ble_eq_true rfl)⟩ hW (Nat.le_of_ble_eq_true rfl) sl_33 rfl rfl hl.1 rfl (Nat.le_of_ble_eq_true rfl) dX7_addDoor_11 ⟨(Nat.le_of_ble_eq_true rfl), (Nat.le_of_ble_eq_true rfl)⟩) hW (fun r4 M5 H locs h hW => ?_)
  exact sw_ri hx hb hr hlocks hW rfl h dX7_addDoor_14

theorem cv_X7_doAddExaminer : sw_cV yX7_doAddExaminer RX7 cX7_doAddExaminer 7 (some .int) 4 := ⟨q_1000, q_1371, q_9, q_1001, by decide +kernel⟩
def wX7_doAddExaminer (a1 : Int32) (a2 : Int32) (a3 : Int32) (a4 : Int32) (M : sM) (Q : Int32 → sM → Prop) : Prop :=
  ∀ v1 : Int32, v1 = (M 34 ((1 : Int32)).toNatClampNeg) → (wX7_isFrame a1 (fun r2 => (r2 = 0 → (wX7_fails (1 : Int32) M (fun r4 M5 => Q r4 M5))) ∧ (¬ r2 = 0 → (wX7_in a2 (1 : Int32) (63 : Int32) (fun r6 => (r6 = 0 → (wX7_fails (1 : Int32) M (fun r8 M9 => Q r8 M9))) ∧ (¬ r6 = 0 → (wX7_in a3 (1 : Int32) (4 : Int32) (fun r10 => (r10 = 0 → (wX7_fails (1 : Int32) M (fun r12 M13 => Q r12 M13))) ∧ (¬ r10 = 0 → (wX7_in a4 (0 : Int32) (9 : Int32) (fun r14 => (r14 = 0 → (wX7_fails (1 : Int32) M (fun r29 M30 => Q r29 M30))) ∧ (¬ r14 = 0 → ((v1 = (6 : Int32) → (wX7_fails (2 : Int32) M (fun r27 M28 => Q r27 M28))) ∧ (¬ v1 = (6 : Int32) → (∀ v17 : Int32, v17 = ((44 : Int32) + ((4 : Int32) * v1)) → (vp_in v17 228 ∧ (∀ M19 : sM, M19 = sw_ms M 34 (v17).toNatClampNeg a1 → (vp_in (v17 + (1 : Int32)) 228 ∧ (∀ M21 : sM, M21 = sw_ms M19 34 ((v17 + (1 : Int32))).toNatClampNeg a2 → (vp_in (v17 + (2 : Int32)) 228 ∧ (∀ M23 : sM, M23 = sw_ms M21 34 ((v17 + (2 : Int32))).toNatClampNeg a3 → (vp_in (v17 + (3 : Int32)) 228 ∧ (∀ M25 : sM, M25 = sw_ms M23 34 ((v17 + (3 : Int32))).toNatClampNeg a4 → (∀ M26 : sM, M26 = sw_ms M25 34 ((1 : Int32)).toNatClampNeg ((M25 34 ((1 : Int32)).toNatClampNeg) + (1 : Int32)) → (Q v1 M26)))))))))))))))))))))))))
set_option maxRecDepth 20000 in
theorem kX7_doAddExaminer (l : Launch) (g : sG) (o : Nat → Int64) (d : Nat → UInt64) (a1 : Int32) (a2 : Int32) (a3 : Int32) (a4 : Int32) (M : sM) (Q : Int32 → sM → Prop) (h : wX7_doAddExaminer a1 a2 a3 a4 M Q) : Met l yX7_doAddExaminer (sw_ws yX7_doAddExaminer cX7_doAddExaminer 7 (some .int)) { frames := 2, cells := 0, slots := 0, locals := 42 } (va_Pc [.ref (sw_ad g 33), .int a1, .int a2, .int a3, .int a4] (sw_Pr g o d M)) (va_Qi Q (sw_Po g o d) (sw_A g)) 0 0 (sw_A g) := by
  refine sw_met (by decide) (Nat.le_of_ble_eq_true rfl) ?_
  intro p e s m args below meth c ls hx hb hr hts hown hml hlocks hW hl
  have hown : s.vm.findClass RX7 = some m.cls := hown
  have hl : lv_has ls 7 [(0, .ref (sw_ad g 33)), (1, .int a1), (2, .int a2), (3, .int a3), (4, .int a4)] := hl
  unfold wX7_doAddExaminer at h
  refine lv_aload_n hx hb dX7_doAddExaminer_0 rfl (lv_at hl 0 rfl) ?_
  refine sw_gr (j := 0) (r := 34) hx hb hts hown hW rfl qf_7 (Nat.le_of_ble_eq_true rfl) sl_33 rfl (Nat.le_of_ble_eq_true rfl) q_944 dX7_doAddExaminer_1 ?_
  refine lv_iconst (v := 1) hx hb dX7_doAddExaminer_4 (by decide) ?_
  refine sw_ia (n := 228) hx hb hW (Nat.le_of_ble_eq_true rfl) sl_34 (vp_in_iff.mpr (by decide)) dX7_doAddExaminer_5 ?_
  refine lv_topi (fun v1 ev1 => ?_)
  have h := h v1 ev1
  refine lv_istore (lv' := [(5, .int v1), (0, .ref (sw_ad g 33)), (1, .int a1), (2, .int a2), (3, .int a3), (4, .int a4)]) hx hb dX7_doAddExaminer_6 hl (Nat.le_of_ble_eq_true rfl) rfl (fun ls hl => ?_)
  refine lv_iload_n hx hb dX7_doAddExaminer_8 rfl (lv_at hl 2 rfl) ?_
  refine sw_ki (rest := []) (sw_runS (As := [.int a1]) (rest := []) hx hb hml hown hts (kX7_isFrame l g o d a1 M _ h) cs_X7_isFrame q_983 rfl rfl ⟨(Nat.le_of_ble_eq_true rfl), (Nat.le_of_ble_eq_true rfl)⟩ hW rfl hl.1 rfl (Nat.le_of_ble_eq_true rfl) dX7_doAddExaminer_9 ⟨(Nat.le_of_ble_eq_true rfl), (Nat.le_of_ble_eq_true rfl)⟩) hW (fun r2 M34 H locs h hW => ?_)
  obtain ⟨h, eM34⟩ := h
  rw [eM34] at hW
  refine lv_if_eq (tgt := 45) hx hb dX7_doAddExaminer_12 (by decide) (fun k3 => ?_) (fun k3 => ?_)
  · have h := h.1 k3
    refine lv_aload_n hx hb dX7_doAddExaminer_45 rfl (lv_at hl 1 rfl) ?_
    refine lv_iconst (v := 1) hx hb dX7_doAddExaminer_46 (by decide) ?_
    refine sw_ki (rest := []) (sw_runV (As := [.int (1 : Int32)]) (rest := []) hx hb hml hown hts (kX7_fails l g o d (1 : Int32) M _ h) cv_X7_fails q_989 rfl rfl ⟨(Nat.le_of_ble_eq_true rfl), (Nat.le_of_ble_eq_true rfl)⟩ hW (Nat.le_of_ble_eq_true rfl) sl_33 rfl rfl hl.1 rfl (Nat.le_of_ble_eq_true rfl) dX7_doAddExaminer_47 ⟨(Nat.le_of_ble_eq_true rfl), (Nat.le_of_ble_eq_true rfl)⟩) hW (fun r4 M5 H locs h hW => ?_)
    exact sw_ri hx hb hr hlocks hW rfl h dX7_doAddExaminer_50
  · have h := h.2 k3
    refine lv_iload_n hx hb dX7_doAddExaminer_15 rfl (lv_at hl 3 rfl) ?_
    refine lv_iconst (v := 1) hx hb dX7_doAddExaminer_16 (by decide) ?_
    refine lv_bipush (v := 63) hx hb dX7_doAddExaminer_17 (by decide) ?_
    refine sw_ki (rest := []) (sw_runS (As := [.int a2, .int (1 : Int32), .int (63 : Int32)]) (rest := []) hx hb hml hown hts (kX7_in l g o d a2 (1 : Int32) (63 : Int32) M _ h) cs_X7_in q_986 rfl rfl ⟨(Nat.le_of_ble_eq_true rfl), (Nat.le_of_ble_eq_true rfl)⟩ hW rfl hl.1 rfl (Nat.le_of_ble_eq_true rfl) dX7_doAddExaminer_19 ⟨(Nat.le_of_ble_eq_true rfl), (Nat.le_of_ble_eq_true rfl)⟩) hW (fun r6 M33 H locs h hW => ?_)
    obtain ⟨h, eM33⟩ := h
    rw [eM33] at hW
    refine lv_if_eq (tgt := 45) hx hb dX7_doAddExaminer_22 (by decide) (fun k7 => ?_) (fun k7 => ?_)
    · have h := h.1 k7
      refine lv_aload_n hx hb dX7_doAddExaminer_45 rfl (lv_at hl 1 rfl) ?_
      refine lv_iconst (v := 1) hx hb dX7_doAddExaminer_46 (by decide) ?_
      refine sw_ki (rest := []) (sw_runV (As := [.int (1 : Int32)]) (rest := []) hx hb hml hown hts (kX7_fails l g o d (1 : Int32) M _ h) cv_X7_fails q_989 rfl rfl ⟨(Nat.le_of_ble_eq_true rfl), (Nat.le_of_ble_eq_true rfl)⟩ hW (Nat.le_of_ble_eq_true rfl) sl_33 rfl rfl hl.1 rfl (Nat.le_of_ble_eq_true rfl) dX7_doAddExaminer_47 ⟨(Nat.le_of_ble_eq_true rfl), (Nat.le_of_ble_eq_true rfl)⟩) hW (fun r8 M9 H locs h hW => ?_)
      exact sw_ri hx hb hr hlocks hW rfl h dX7_doAddExaminer_50
    · have h := h.2 k7
      refine lv_iload_n hx hb dX7_doAddExaminer_25 rfl (lv_at hl 4 rfl) ?_
      refine lv_iconst (v := 1) hx hb dX7_doAddExaminer_26 (by decide) ?_
      refine lv_iconst (v := 4) hx hb dX7_doAddExaminer_27 (by decide) ?_
      refine sw_ki (rest := []) (sw_runS (As := [.int a3, .int (1 : Int32), .int (4 : Int32)]) (rest := []) hx hb hml hown hts (kX7_in l g o d a3 (1 : Int32) (4 : Int32) M _ h) cs_X7_in q_986 rfl rfl ⟨(Nat.le_of_ble_eq_true rfl), (Nat.le_of_ble_eq_true rfl)⟩ hW rfl hl.1 rfl (Nat.le_of_ble_eq_true rfl) dX7_doAddExaminer_28 ⟨(Nat.le_of_ble_eq_true rfl), (Nat.le_of_ble_eq_true rfl)⟩) hW (fun r10 M32 H locs h hW => ?_)
      obtain ⟨h, eM32⟩ := h
      rw [eM32] at hW
      refine lv_if_eq (tgt := 45) hx hb dX7_doAddExaminer_31 (by decide) (fun k11 => ?_) (fun k11 => ?_)
      · have h := h.1 k11
        refine lv_aload_n hx hb dX7_doAddExaminer_45 rfl (lv_at hl 1 rfl) ?_
        refine lv_iconst (v := 1) hx hb dX7_doAddExaminer_46 (by decide) ?_
        refine sw_ki (rest := []) (sw_runV (As := [.int (1 : Int32)]) (rest := []) hx hb hml hown hts (kX7_fails l g o d (1 : Int32) M _ h) cv_X7_fails q_989 rfl rfl ⟨(Nat.le_of_ble_eq_true rfl), (Nat.le_of_ble_eq_true rfl)⟩ hW (Nat.le_of_ble_eq_true rfl) sl_33 rfl rfl hl.1 rfl (Nat.le_of_ble_eq_true rfl) dX7_doAddExaminer_47 ⟨(Nat.le_of_ble_eq_true rfl), (Nat.le_of_ble_eq_true rfl)⟩) hW (fun r12 M13 H locs h hW => ?_)
        exact sw_ri hx hb hr hlocks hW rfl h dX7_doAddExaminer_50
      · have h := h.2 k11
        refine lv_iload hx hb dX7_doAddExaminer_34 (lv_at hl 5 rfl) ?_
        refine lv_iconst (v := 0) hx hb dX7_doAddExaminer_36 (by decide) ?_
        refine lv_bipush (v := 9) hx hb dX7_doAddExaminer_37 (by decide) ?_
        refine sw_ki (rest := []) (sw_runS (As := [.int a4, .int (0 : Int32), .int (9 : Int32)]) (rest := []) hx hb hml hown hts (kX7_in l g o d a4 (0 : Int32) (9 : Int32) M _ h) cs_X7_in q_986 rfl rfl ⟨(Nat.le_of_ble_eq_true rfl), (Nat.le_of_ble_eq_true rfl)⟩ hW rfl hl.1 rfl (Nat.le_of_ble_eq_true rfl) dX7_doAddExaminer_39 ⟨(Nat.le_of_ble_eq_true rfl), (Nat.le_of_ble_eq_true rfl)⟩) hW (fun r14 M31 H locs h hW => ?_)
        obtain ⟨h, eM31⟩ := h
        rw [eM31] at hW
        refine lv_if_ne (tgt := 51) hx hb dX7_doAddExaminer_42 (by decide) (fun k15 => ?_) (fun k15 => ?_)
        · have h := h.2 k15
          refine lv_iload hx hb dX7_doAddExaminer_51 (lv_at hl 0 rfl) ?_
          refine lv_bipush (v := 6) hx hb dX7_doAddExaminer_53 (by decide) ?_
          refine lv_icmp_ne (tgt := 64) hx hb dX7_doAddExaminer_55 (by decide) (fun k16 => ?_) (fun k16 => ?_)
          · have h := h.2 k16
            refine lv_bipush (v := 44) hx hb dX7_doAddExaminer_64 (by decide) ?_
            refine lv_iconst (v := 4) hx hb dX7_doAddExaminer_66 (by decide) ?_
            refine lv_iload hx hb dX7_doAddExaminer_67 (lv_at hl 0 rfl) ?_
            refine lv_imul hx hb dX7_doAddExaminer_69 ?_
            refine lv_iadd hx hb dX7_doAddExaminer_70 ?_
            refine lv_topi (fun v17 ev17 => ?_)
            have h := h v17 ev17
            refine lv_istore (lv' := [(6, .int v17), (5, .int v1), (0, .ref (sw_ad g 33)), (1, .int a1), (2, .int a2), (3, .int a3), (4, .int a4)]) hx hb dX7_doAddExaminer_71 hl (Nat.le_of_ble_eq_true rfl) rfl (fun ls hl => ?_)
            refine lv_aload_n hx hb dX7_doAddExaminer_73 rfl (lv_at hl 2 rfl) ?_
            refine sw_gr (j := 0) (r := 34) hx hb hts hown hW rfl qf_7 (Nat.le_of_ble_eq_true rfl) sl_33 rfl (Nat.le_of_ble_eq_true rfl) q_944 dX7_doAddExaminer_74 ?_
            refine lv_iload hx hb dX7_doAddExaminer_77 (lv_at hl 0 rfl) ?_
            refine lv_iload_n hx hb dX7_doAddExaminer_79 rfl (lv_at hl 3 rfl) ?_
            have b18 := h.1
            have h := h.2
            refine sw_is (n := 228) hx hb hW (Nat.le_of_ble_eq_true rfl) sl_34 b18 dX7_doAddExaminer_80 (fun H locs hW => ?_)
            obtain ⟨M19, eM19⟩ : ∃ z : sM, z = sw_ms M 34 (v17).toNatClampNeg a1 := ⟨_, rfl⟩
            rw [← eM19] at hW
            have h := h M19 eM19
            refine lv_aload_n hx hb dX7_doAddExaminer_81 rfl (lv_at hl 2 rfl) ?_
            refine sw_gr (j := 0) (r := 34) hx hb hts hown hW rfl qf_7 (Nat.le_of_ble_eq_true rfl) sl_33 rfl (Nat.le_of_ble_eq_true rfl) q_944 dX7_doAddExaminer_82 ?_
            refine lv_iload hx hb dX7_doAddExaminer_85 (lv_at hl 0 rfl) ?_
            refine lv_iconst (v := 1) hx hb dX7_doAddExaminer_87 (by decide) ?_
            refine lv_iadd hx hb dX7_doAddExaminer_88 ?_
            refine lv_iload_n hx hb dX7_doAddExaminer_89 rfl (lv_at hl 4 rfl) ?_
            have b20 := h.1
            have h := h.2
            refine sw_is (n := 228) hx hb hW (Nat.le_of_ble_eq_true rfl) sl_34 b20 dX7_doAddExaminer_90 (fun H locs hW => ?_)
            obtain ⟨M21, eM21⟩ : ∃ z : sM, z = sw_ms M19 34 ((v17 + (1 : Int32))).toNatClampNeg a2 := ⟨_, rfl⟩
            rw [← eM21] at hW
            have h := h M21 eM21
            refine lv_aload_n hx hb dX7_doAddExaminer_91 rfl (lv_at hl 2 rfl) ?_
            refine sw_gr (j := 0) (r := 34) hx hb hts hown hW rfl qf_7 (Nat.le_of_ble_eq_true rfl) sl_33 rfl (Nat.le_of_ble_eq_true rfl) q_944 dX7_doAddExaminer_92 ?_
            refine lv_iload hx hb dX7_doAddExaminer_95 (lv_at hl 0 rfl) ?_
            refine lv_iconst (v := 2) hx hb dX7_doAddExaminer_97 (by decide) ?_
            refine lv_iadd hx hb dX7_doAddExaminer_98 ?_
            refine lv_iload_n hx hb dX7_doAddExaminer_99 rfl (lv_at hl 5 rfl) ?_
            have b22 := h.1
            have h := h.2
            refine sw_is (n := 228) hx hb hW (Nat.le_of_ble_eq_true rfl) sl_34 b22 dX7_doAddExaminer_100 (fun H locs hW => ?_)
            obtain ⟨M23, eM23⟩ : ∃ z : sM, z = sw_ms M21 34 ((v17 + (2 : Int32))).toNatClampNeg a3 := ⟨_, rfl⟩
            rw [← eM23] at hW
            have h := h M23 eM23
            refine lv_aload_n hx hb dX7_doAddExaminer_101 rfl (lv_at hl 2 rfl) ?_
            refine sw_gr (j := 0) (r := 34) hx hb hts hown hW rfl qf_7 (Nat.le_of_ble_eq_true rfl) sl_33 rfl (Nat.le_of_ble_eq_true rfl) q_944 dX7_doAddExaminer_102 ?_
            refine lv_iload hx hb dX7_doAddExaminer_105 (lv_at hl 0 rfl) ?_
            refine lv_iconst (v := 3) hx hb dX7_doAddExaminer_107 (by decide) ?_
            refine lv_iadd hx hb dX7_doAddExaminer_108 ?_
            refine lv_iload hx hb dX7_doAddExaminer_109 (lv_at hl 6 rfl) ?_
            have b24 := h.1
            have h := h.2
            refine sw_is (n := 228) hx hb hW (Nat.le_of_ble_eq_true rfl) sl_34 b24 dX7_doAddExaminer_111 (fun H locs hW => ?_)
            obtain ⟨M25, eM25⟩ : ∃ z : sM, z = sw_ms M23 34 ((v17 + (3 : Int32))).toNatClampNeg a4 := ⟨_, rfl⟩
            rw [← eM25] at hW
            have h := h M25 eM25
            refine lv_aload_n hx hb dX7_doAddExaminer_112 rfl (lv_at hl 2 rfl) ?_
            refine sw_gr (j := 0) (r := 34) hx hb hts hown hW rfl qf_7 (Nat.le_of_ble_eq_true rfl) sl_33 rfl (Nat.le_of_ble_eq_true rfl) q_944 dX7_doAddExaminer_113 ?_
            refine lv_iconst (v := 1) hx hb dX7_doAddExaminer_116 (by decide) ?_
            refine lv_dup2_11 hx hb dX7_doAddExaminer_117 rfl rfl ?_
            refine sw_ia (n := 228) hx hb hW (Nat.le_of_ble_eq_true rfl) sl_34 (vp_in_iff.mpr (by decide)) dX7_doAddExaminer_118 ?_
            refine lv_iconst (v := 1) hx hb dX7_doAddExaminer_119 (by decide) ?_
            refine lv_iadd hx hb dX7_doAddExaminer_120 ?_
            refine sw_is (n := 228) hx hb hW (Nat.le_of_ble_eq_true rfl) sl_34 (vp_in_iff.mpr (by decide)) dX7_doAddExaminer_121 (fun H locs hW => ?_)
            obtain ⟨M26, eM26⟩ : ∃ z : sM, z = sw_ms M25 34 ((1 : Int32)).toNatClampNeg ((M25 34 ((1 : Int32)).toNatClampNeg) + (1 : Int32)) := ⟨_, rfl⟩
            rw [← eM26] at hW
            have h := h M26 eM26
            refine lv_iload hx hb dX7_doAddExaminer_122 (lv_at hl 1 rfl) ?_
            exact sw_ri hx hb hr hlocks hW rfl h dX7_doAddExaminer_124
          · have h := h.1 k16
            refine lv_aload_n hx hb dX7_doAddExaminer_58 rfl (lv_at hl 1 rfl) ?_
            refine lv_iconst (v := 2) hx hb dX7_doAddExaminer_59 (by decide) ?_
            refine sw_ki (rest := []) (sw_runV (As := [.int (2 : Int32)]) (rest := []) hx hb hml hown hts (kX7_fails l g o d (2 : Int32) M _ h) cv_X7_fails q_989 rfl rfl ⟨(Nat.le_of_ble_eq_true rfl), (Nat.le_of_ble_eq_true rfl)⟩ hW (Nat.le_of_ble_eq_true rfl) sl_33 rfl rfl hl.1 rfl (Nat.le_of_ble_eq_true rfl) dX7_doAddExaminer_60 ⟨(Nat.le_of_ble_eq_true rfl), (Nat.le_of_ble_eq_true rfl)⟩) hW (fun r27 M28 H locs h hW => ?_)
            exact sw_ri hx hb hr hlocks hW rfl h dX7_doAddExaminer_63
        · have h := h.1 k15
          refine lv_aload_n hx hb dX7_doAddExaminer_45 rfl (lv_at hl 1 rfl) ?_
          refine lv_iconst (v := 1) hx hb dX7_doAddExaminer_46 (by decide) ?_
          refine sw_ki (rest := []) (sw_runV (As := [.int (1 : Int32)]) (rest := []) hx hb hml hown hts (kX7_fails l g o d (1 : Int32) M _ h) cv_X7_fails q_989 rfl rfl ⟨(Nat.le_of_ble_eq_true rfl), (Nat.le_of_ble_eq_true rfl)⟩ hW (Nat.le_of_ble_eq_true rfl) sl_33 rfl rfl hl.1 rfl (Nat.le_of_ble_eq_true rfl) dX7_doAddExaminer_47 ⟨(Nat.le_of_ble_eq_true rfl), (Nat.le_of_ble_eq_true rfl)⟩) hW (fun r29 M30 H locs h hW => ?_)
          exact sw_ri hx hb hr hlocks hW rfl h dX7_doAddExaminer_50

theorem cv_X7_addExaminer : sw_cV yX7_addExaminer RX7 cX7_addExaminer 5 (some .int) 4 := ⟨q_996, q_997, q_9, q_998, by decide +kernel⟩
def wX7_addExaminer (a1 : Int32) (a2 : Int32) (a3 : Int32) (a4 : Int32) (M : sM) (Q : Int32 → sM → Prop) : Prop :=
  wX7_keep M (fun M1 => wX7_doAddExaminer a1 a2 a3 a4 M1 (fun r2 M3 => wX7_ends r2 M3 (fun r4 M5 => Q r4 M5)))
set_option maxRecDepth 20000 in
theorem kX7_addExaminer (l : Launch) (g : sG) (o : Nat → Int64) (d : Nat → UInt64) (a1 : Int32) (a2 : Int32) (a3 : Int32) (a4 : Int32) (M : sM) (Q : Int32 → sM → Prop) (h : wX7_addExaminer a1 a2 a3 a4 M Q) : Met l yX7_addExaminer (sw_ws yX7_addExaminer cX7_addExaminer 5 (some .int)) { frames := 3, cells := 0, slots := 0, locals := 68 } (va_Pc [.ref (sw_ad g 33), .int a1, .int a2, .int a3, .int a4] (sw_Pr g o d M)) (va_Qi Q (sw_Po g o d) (sw_A g)) 0 0 (sw_A g) := by
  refine sw_met (by decide) (Nat.le_of_ble_eq_true rfl) ?_
  intro p e s m args below meth c ls hx hb hr hts hown hml hlocks hW hl
  have hown : s.vm.findClass RX7 = some m.cls := hown
  have hl : lv_has ls 5 [(0, .ref (sw_ad g 33)), (1, .int a1), (2, .int a2), (3, .int a3), (4, .int a4)] := hl
  unfold wX7_addExaminer at h
  refine lv_aload_n hx hb dX7_addExaminer_0 rfl (lv_at hl 0 rfl) ?_
  refine sw_kv (rest := []) (sw_runV (As := []) (rest := []) hx hb hml hown hts (kX7_keep l g o d M _ h) cv_X7_keep q_974 rfl rfl ⟨(Nat.le_of_ble_eq_true rfl), (Nat.le_of_ble_eq_true rfl)⟩ hW (Nat.le_of_ble_eq_true rfl) sl_33 rfl rfl hl.1 rfl (Nat.le_of_ble_eq_true rfl) dX7_addExaminer_1 ⟨(Nat.le_of_ble_eq_true rfl), (Nat.le_of_ble_eq_true rfl)⟩) hW (fun  M1 H locs h hW => ?_)
  refine lv_aload_n hx hb dX7_addExaminer_4 rfl (lv_at hl 0 rfl) ?_
  refine lv_aload_n hx hb dX7_addExaminer_5 rfl (lv_at hl 0 rfl) ?_
  refine lv_iload_n hx hb dX7_addExaminer_6 rfl (lv_at hl 1 rfl) ?_
  refine lv_iload_n hx hb dX7_addExaminer_7 rfl (lv_at hl 2 rfl) ?_
  refine lv_iload_n hx hb dX7_addExaminer_8 rfl (lv_at hl 3 rfl) ?_
  refine lv_iload hx hb dX7_addExaminer_9 (lv_at hl 4 rfl) ?_
  refine sw_ki (rest := [.ref (sw_ad g 33)]) (sw_runV (As := [.int a1, .int a2, .int a3, .int a4]) (rest := [.ref (sw_ad g 33)]) hx hb hml hown hts (kX7_doAddExaminer l g o d a1 a2 a3 a4 M1 _ h) cv_X7_doAddExaminer q_999 rfl rfl ⟨(Nat.le_of_ble_eq_true rfl), (Nat.le_of_ble_eq_true rfl)⟩ hW (Nat.le_of_ble_eq_true rfl) sl_33 rfl rfl hl.1 rfl (Nat.le_of_ble_eq_true rfl) dX7_addExaminer_11 ⟨(Nat.le_of_ble_eq_true rfl), (Nat.le_of_ble_eq_true rfl)⟩) hW (fun r2 M3 H locs h hW => ?_)
  refine sw_ki (rest := []) (sw_runV (As := [.int r2]) (rest := []) hx hb hml hown hts (kX7_ends l g o d r2 M3 _ h) cv_X7_ends q_992 rfl rfl ⟨(Nat.le_of_ble_eq_true rfl), (Nat.le_of_ble_eq_true rfl)⟩ hW (Nat.le_of_ble_eq_true rfl) sl_33 rfl rfl hl.1 rfl (Nat.le_of_ble_eq_true rfl) dX7_addExaminer_14 ⟨(Nat.le_of_ble_eq_true rfl), (Nat.le_of_ble_eq_true rfl)⟩) hW (fun r4 M5 H locs h hW => ?_)
  exact sw_ri hx hb hr hlocks hW rfl h dX7_addExaminer_17

def lX7_doConflict_54 (a2 : Int32) (M9 : sM) (K54 : Int32 → Prop) : Nat → Int32 → Int32 → Prop
  | 0, _, _ => False
  | n54 + 1, x3_54, x4_54 => ((M9 34 ((1 : Int32)).toNatClampNeg) ≤ x4_54 → (K54 x3_54)) ∧ (¬ (M9 34 ((1 : Int32)).toNatClampNeg) ≤ x4_54 → (wX7_neutral x4_54 a2 M9 (fun r11 => (r11 = 0 → (∀ v13 : Int32, v13 = (x3_54 + (0 : Int32)) → (∀ v14 : Int32, v14 = x4_54 + (1 : Int32) → ((fun x3_54 x4_54 => lX7_doConflict_54 a2 M9 K54 n54 x3_54 x4_54) v13 v14)))) ∧ (¬ r11 = 0 → (∀ v15 : Int32, v15 = (x3_54 + (1 : Int32)) → (∀ v16 : Int32, v16 = x4_54 + (1 : Int32) → ((fun x3_54 x4_54 => lX7_doConflict_54 a2 M9 K54 n54 x3_54 x4_54) v15 v16)))))))
theorem cv_X7_doConflict : sw_cV yX7_doConflict RX7 cX7_doConflict 5 (some .int) 2 := ⟨q_1007, q_1372, q_9, q_1008, by decide +kernel⟩
def wX7_doConflict (a1 : Int32) (a2 : Int32) (M : sM) (Q : Int32 → sM → Prop) : Prop :=
  wX7_arePair a1 a2 M (fun r1 => (r1 = 0 → (wX7_fails (1 : Int32) M (fun r22 M23 => Q r22 M23))) ∧ (¬ r1 = 0 → (wX7_pair a1 a2 (0 : Int32) M (fun r3 => (r3 = (1 : Int32) → (wX7_fails (2 : Int32) M (fun r5 M6 => Q r5 M6))) ∧ (¬ r3 = (1 : Int32) → (wX7_assigned a1 a2 M (fun r7 => (r7 = 0 → (wX7_setsPair a1 a2 (0 : Int32) (1 : Int32) M (fun M9 => ∃ n54, lX7_doConflict_54 a2 M9 (fun x3_54k => Q x3_54k M9) n54 (0 : Int32) (0 : Int32)))) ∧ (¬ r7 = 0 → (wX7_fails (2 : Int32) M (fun r18 M19 => Q r18 M19))))))))))
set_option maxRecDepth 20000 in
theorem kX7_doConflict (l : Launch) (g : sG) (o : Nat → Int64) (d : Nat → UInt64) (a1 : Int32) (a2 : Int32) (M : sM) (Q : Int32 → sM → Prop) (h : wX7_doConflict a1 a2 M Q) : Met l yX7_doConflict (sw_ws yX7_doConflict cX7_doConflict 5 (some .int)) { frames := 3, cells := 0, slots := 0, locals := 65 } (va_Pc [.ref (sw_ad g 33), .int a1, .int a2] (sw_Pr g o d M)) (va_Qi Q (sw_Po g o d) (sw_A g)) 0 0 (sw_A g) := by
  refine sw_met (by decide) (Nat.le_of_ble_eq_true rfl) ?_
  intro p e s m args below meth c ls hx hb hr hts hown hml hlocks hW hl
  have hown : s.vm.findClass RX7 = some m.cls := hown
  have hl : lv_has ls 5 [(0, .ref (sw_ad g 33)), (1, .int a1), (2, .int a2)] := hl
  unfold wX7_doConflict at h
  refine lv_aload_n hx hb dX7_doConflict_0 rfl (lv_at hl 0 rfl) ?_
  refine lv_iload_n hx hb dX7_doConflict_1 rfl (lv_at hl 1 rfl) ?_
  refine lv_iload_n hx hb dX7_doConflict_2 rfl (lv_at hl 2 rfl) ?_
  refine sw_ki (rest := []) (sw_runV (As := [.int a1, .int a2]) (rest := []) hx hb hml hown hts (kX7_arePair l g o d a1 a2 M _ h) cv_X7_arePair q_1009 rfl rfl ⟨(Nat.le_of_ble_eq_true rfl), (Nat.le_of_ble_eq_true rfl)⟩ hW (Nat.le_of_ble_eq_true rfl) sl_33 rfl rfl hl.1 rfl (Nat.le_of_ble_eq_true rfl) dX7_doConflict_3 ⟨(Nat.le_of_ble_eq_true rfl), (Nat.le_of_ble_eq_true rfl)⟩) hW (fun r1 M24 H locs h hW => ?_)
  obtain ⟨h, eM24⟩ := h
  rw [eM24] at hW
  refine lv_if_ne (tgt := 15) hx hb dX7_doConflict_6 (by decide) (fun k2 => ?_) (fun k2 => ?_)
  · have h := h.2 k2
    refine lv_aload_n hx hb dX7_doConflict_15 rfl (lv_at hl 0 rfl) ?_
    refine lv_iload_n hx hb dX7_doConflict_16 rfl (lv_at hl 1 rfl) ?_
    refine lv_iload_n hx hb dX7_doConflict_17 rfl (lv_at hl 2 rfl) ?_
    refine lv_iconst (v := 0) hx hb dX7_doConflict_18 (by decide) ?_
    refine sw_ki (rest := []) (sw_runV (As := [.int a1, .int a2, .int (0 : Int32)]) (rest := []) hx hb hml hown hts (kX7_pair l g o d a1 a2 (0 : Int32) M _ h) cv_X7_pair q_1018 rfl rfl ⟨(Nat.le_of_ble_eq_true rfl), (Nat.le_of_ble_eq_true rfl)⟩ hW (Nat.le_of_ble_eq_true rfl) sl_33 rfl rfl hl.1 rfl (Nat.le_of_ble_eq_true rfl) dX7_doConflict_19 ⟨(Nat.le_of_ble_eq_true rfl), (Nat.le_of_ble_eq_true rfl)⟩) hW (fun r3 M21 H locs h hW => ?_)
    obtain ⟨h, eM21⟩ := h
    rw [eM21] at hW
    refine lv_iconst (v := 1) hx hb dX7_doConflict_22 (by decide) ?_
    refine lv_icmp_eq (tgt := 35) hx hb dX7_doConflict_23 (by decide) (fun k4 => ?_) (fun k4 => ?_)
    · have h := h.1 k4
      refine lv_aload_n hx hb dX7_doConflict_35 rfl (lv_at hl 0 rfl) ?_
      refine lv_iconst (v := 2) hx hb dX7_doConflict_36 (by decide) ?_
      refine sw_ki (rest := []) (sw_runV (As := [.int (2 : Int32)]) (rest := []) hx hb hml hown hts (kX7_fails l g o d (2 : Int32) M _ h) cv_X7_fails q_989 rfl rfl ⟨(Nat.le_of_ble_eq_true rfl), (Nat.le_of_ble_eq_true rfl)⟩ hW (Nat.le_of_ble_eq_true rfl) sl_33 rfl rfl hl.1 rfl (Nat.le_of_ble_eq_true rfl) dX7_doConflict_37 ⟨(Nat.le_of_ble_eq_true rfl), (Nat.le_of_ble_eq_true rfl)⟩) hW (fun r5 M6 H locs h hW => ?_)
      exact sw_ri hx hb hr hlocks hW rfl h dX7_doConflict_40
    · have h := h.2 k4
      refine lv_aload_n hx hb dX7_doConflict_26 rfl (lv_at hl 0 rfl) ?_
      refine lv_iload_n hx hb dX7_doConflict_27 rfl (lv_at hl 1 rfl) ?_
      refine lv_iload_n hx hb dX7_doConflict_28 rfl (lv_at hl 2 rfl) ?_
      refine sw_ki (rest := []) (sw_runV (As := [.int a1, .int a2]) (rest := []) hx hb hml hown hts (kX7_assigned l g o d a1 a2 M _ h) cv_X7_assigned q_1021 rfl rfl ⟨(Nat.le_of_ble_eq_true rfl), (Nat.le_of_ble_eq_true rfl)⟩ hW (Nat.le_of_ble_eq_true rfl) sl_33 rfl rfl hl.1 rfl (Nat.le_of_ble_eq_true rfl) dX7_doConflict_29 ⟨(Nat.le_of_ble_eq_true rfl), (Nat.le_of_ble_eq_true rfl)⟩) hW (fun r7 M20 H locs h hW => ?_)
      obtain ⟨h, eM20⟩ := h
      rw [eM20] at hW
      refine lv_if_eq (tgt := 41) hx hb dX7_doConflict_32 (by decide) (fun k8 => ?_) (fun k8 => ?_)
      · have h := h.1 k8
        refine lv_aload_n hx hb dX7_doConflict_41 rfl (lv_at hl 0 rfl) ?_
        refine lv_iload_n hx hb dX7_doConflict_42 rfl (lv_at hl 1 rfl) ?_
        refine lv_iload_n hx hb dX7_doConflict_43 rfl (lv_at hl 2 rfl) ?_
        refine lv_iconst (v := 0) hx hb dX7_doConflict_44 (by decide) ?_
        refine lv_iconst (v := 1) hx hb dX7_doConflict_45 (by decide) ?_
        refine sw_kv (rest := []) (sw_runV (As := [.int a1, .int a2, .int (0 : Int32), .int (1 : Int32)]) (rest := []) hx hb hml hown hts (kX7_setsPair l g o d a1 a2 (0 : Int32) (1 : Int32) M _ h) cv_X7_setsPair q_1024 rfl rfl ⟨(Nat.le_of_ble_eq_true rfl), (Nat.le_of_ble_eq_true rfl)⟩ hW (Nat.le_of_ble_eq_true rfl) sl_33 rfl rfl hl.1 rfl (Nat.le_of_ble_eq_true rfl) dX7_doConflict_46 ⟨(Nat.le_of_ble_eq_true rfl), (Nat.le_of_ble_eq_true rfl)⟩) hW (fun  M9 H locs h hW => ?_)
        refine lv_iconst (v := 0) hx hb dX7_doConflict_49 (by decide) ?_
        refine lv_istore_n (lv' := [(3, .int (0 : Int32)), (0, .ref (sw_ad g 33)), (1, .int a1), (2, .int a2)]) hx hb dX7_doConflict_50 rfl hl (Nat.le_of_ble_eq_true rfl) rfl (fun ls hl => ?_)
        refine lv_iconst (v := 0) hx hb dX7_doConflict_51 (by decide) ?_
        refine lv_istore (lv' := [(4, .int (0 : Int32)), (3, .int (0 : Int32)), (0, .ref (sw_ad g 33)), (1, .int a1), (2, .int a2)]) hx hb dX7_doConflict_52 hl (Nat.le_of_ble_eq_true rfl) rfl (fun ls hl => ?_)
        obtain ⟨n54, h⟩ := h
        refine sw_lp_ii (hd := 54) (Lf := fun x3_54 x4_54 => [(0, .ref (sw_ad g 33)), (2, .int a2), (3, .int x3_54), (4, .int x4_54)]) h hW (lv_sub hl [2, 4, 1, 0] rfl) (fun _ _ h => h) (fun n54 ih54 x3_54 x4_54 H locs ls h hW hl => ?_)
        rw [lX7_doConflict_54.eq_2] at h
        refine lv_iload hx hb dX7_doConflict_54 (lv_at hl 3 rfl) ?_
        refine lv_aload_n hx hb dX7_doConflict_56 rfl (lv_at hl 0 rfl) ?_
        refine sw_gr (j := 0) (r := 34) hx hb hts hown hW rfl qf_7 (Nat.le_of_ble_eq_true rfl) sl_33 rfl (Nat.le_of_ble_eq_true rfl) q_944 dX7_doConflict_57 ?_
        refine lv_iconst (v := 1) hx hb dX7_doConflict_60 (by decide) ?_
        refine sw_ia (n := 228) hx hb hW (Nat.le_of_ble_eq_true rfl) sl_34 (vp_in_iff.mpr (by decide)) dX7_doConflict_61 ?_
        refine lv_icmp_ge (tgt := 89) hx hb dX7_doConflict_62 (by decide) (fun k10 => ?_) (fun k10 => ?_)
        · have h := h.1 k10
          refine lv_iload_n hx hb dX7_doConflict_89 rfl (lv_at hl 2 rfl) ?_
          exact sw_ri hx hb hr hlocks hW rfl h dX7_doConflict_90
        · have h := h.2 k10
          refine lv_iload_n hx hb dX7_doConflict_65 rfl (lv_at hl 2 rfl) ?_
          refine lv_aload_n hx hb dX7_doConflict_66 rfl (lv_at hl 0 rfl) ?_
          refine lv_iload hx hb dX7_doConflict_67 (lv_at hl 3 rfl) ?_
          refine lv_iload_n hx hb dX7_doConflict_69 rfl (lv_at hl 1 rfl) ?_
          refine sw_ki (rest := [.int x3_54]) (sw_runV (As := [.int x4_54, .int a2]) (rest := [.int x3_54]) hx hb hml hown hts (kX7_neutral l g o d x4_54 a2 M9 _ h) cv_X7_neutral q_1027 rfl rfl ⟨(Nat.le_of_ble_eq_true rfl), (Nat.le_of_ble_eq_true rfl)⟩ hW (Nat.le_of_ble_eq_true rfl) sl_33 rfl rfl hl.1 rfl (Nat.le_of_ble_eq_true rfl) dX7_doConflict_70 ⟨(Nat.le_of_ble_eq_true rfl), (Nat.le_of_ble_eq_true rfl)⟩) hW (fun r11 M17 H locs h hW => ?_)
          obtain ⟨h, eM17⟩ := h
          rw [eM17] at hW
          refine lv_if_eq (tgt := 80) hx hb dX7_doConflict_73 (by decide) (fun k12 => ?_) (fun k12 => ?_)
          · have h := h.1 k12
            refine lv_iconst (v := 0) hx hb dX7_doConflict_80 (by decide) ?_
            refine lv_iadd hx hb dX7_doConflict_81 ?_
            refine lv_topi (fun v13 ev13 => ?_)
            have h := h v13 ev13
            refine lv_istore_n (lv' := [(3, .int v13), (0, .ref (sw_ad g 33)), (2, .int a2), (4, .int x4_54)]) hx hb dX7_doConflict_82 rfl hl (Nat.le_of_ble_eq_true rfl) rfl (fun ls hl => ?_)
            obtain ⟨v14, ev14⟩ : ∃ z : Int32, z = x4_54 + (1 : Int32) := ⟨_, rfl⟩
            have h := h v14 ev14
            refine lv_iinc (v := v14) (lv' := [(4, .int v14), (3, .int v13), (0, .ref (sw_ad g 33)), (2, .int a2)]) hx hb dX7_doConflict_83 hl (k := 3) rfl (by rw [ev14]; rfl) (Nat.le_of_ble_eq_true rfl) rfl (fun ls hl => ?_)
            refine lv_goto (tgt := 54) hx hb dX7_doConflict_86 (by decide) ?_
            exact ih54 _ _ _ _ _ h hW (lv_sub hl [2, 3, 1, 0] rfl)
          · have h := h.2 k12
            refine lv_iconst (v := 1) hx hb dX7_doConflict_76 (by decide) ?_
            refine lv_goto (tgt := 81) hx hb dX7_doConflict_77 (by decide) ?_
            refine lv_iadd hx hb dX7_doConflict_81 ?_
            refine lv_topi (fun v15 ev15 => ?_)
            have h := h v15 ev15
            refine lv_istore_n (lv' := [(3, .int v15), (0, .ref (sw_ad g 33)), (2, .int a2), (4, .int x4_54)]) hx hb dX7_doConflict_82 rfl hl (Nat.le_of_ble_eq_true rfl) rfl (fun ls hl => ?_)
            obtain ⟨v16, ev16⟩ : ∃ z : Int32, z = x4_54 + (1 : Int32) := ⟨_, rfl⟩
            have h := h v16 ev16
            refine lv_iinc (v := v16) (lv' := [(4, .int v16), (3, .int v15), (0, .ref (sw_ad g 33)), (2, .int a2)]) hx hb dX7_doConflict_83 hl (k := 3) rfl (by rw [ev16]; rfl) (Nat.le_of_ble_eq_true rfl) rfl (fun ls hl => ?_)
            refine lv_goto (tgt := 54) hx hb dX7_doConflict_86 (by decide) ?_
            exact ih54 _ _ _ _ _ h hW (lv_sub hl [2, 3, 1, 0] rfl)
      · have h := h.2 k8
        refine lv_aload_n hx hb dX7_doConflict_35 rfl (lv_at hl 0 rfl) ?_
        refine lv_iconst (v := 2) hx hb dX7_doConflict_36 (by decide) ?_
        refine sw_ki (rest := []) (sw_runV (As := [.int (2 : Int32)]) (rest := []) hx hb hml hown hts (kX7_fails l g o d (2 : Int32) M _ h) cv_X7_fails q_989 rfl rfl ⟨(Nat.le_of_ble_eq_true rfl), (Nat.le_of_ble_eq_true rfl)⟩ hW (Nat.le_of_ble_eq_true rfl) sl_33 rfl rfl hl.1 rfl (Nat.le_of_ble_eq_true rfl) dX7_doConflict_37 ⟨(Nat.le_of_ble_eq_true rfl), (Nat.le_of_ble_eq_true rfl)⟩) hW (fun r18 M19 H locs h hW => ?_)
        exact sw_ri hx hb hr hlocks hW rfl h dX7_doConflict_40
  · have h := h.1 k2
    refine lv_aload_n hx hb dX7_doConflict_9 rfl (lv_at hl 0 rfl) ?_
    refine lv_iconst (v := 1) hx hb dX7_doConflict_10 (by decide) ?_
    refine sw_ki (rest := []) (sw_runV (As := [.int (1 : Int32)]) (rest := []) hx hb hml hown hts (kX7_fails l g o d (1 : Int32) M _ h) cv_X7_fails q_989 rfl rfl ⟨(Nat.le_of_ble_eq_true rfl), (Nat.le_of_ble_eq_true rfl)⟩ hW (Nat.le_of_ble_eq_true rfl) sl_33 rfl rfl hl.1 rfl (Nat.le_of_ble_eq_true rfl) dX7_doConflict_11 ⟨(Nat.le_of_ble_eq_true rfl), (Nat.le_of_ble_eq_true rfl)⟩) hW (fun r22 M23 H locs h hW => ?_)
    exact sw_ri hx hb hr hlocks hW rfl h dX7_doConflict_14

theorem cv_X7_declareConflict : sw_cV yX7_declareConflict RX7 cX7_declareConflict 3 (some .int) 2 := ⟨q_1003, q_1004, q_9, q_1005, by decide +kernel⟩
def wX7_declareConflict (a1 : Int32) (a2 : Int32) (M : sM) (Q : Int32 → sM → Prop) : Prop :=
  wX7_keep M (fun M1 => wX7_doConflict a1 a2 M1 (fun r2 M3 => wX7_ends r2 M3 (fun r4 M5 => Q r4 M5)))
set_option maxRecDepth 20000 in
theorem kX7_declareConflict (l : Launch) (g : sG) (o : Nat → Int64) (d : Nat → UInt64) (a1 : Int32) (a2 : Int32) (M : sM) (Q : Int32 → sM → Prop) (h : wX7_declareConflict a1 a2 M Q) : Met l yX7_declareConflict (sw_ws yX7_declareConflict cX7_declareConflict 3 (some .int)) { frames := 4, cells := 0, slots := 0, locals := 89 } (va_Pc [.ref (sw_ad g 33), .int a1, .int a2] (sw_Pr g o d M)) (va_Qi Q (sw_Po g o d) (sw_A g)) 0 0 (sw_A g) := by
  refine sw_met (by decide) (Nat.le_of_ble_eq_true rfl) ?_
  intro p e s m args below meth c ls hx hb hr hts hown hml hlocks hW hl
  have hown : s.vm.findClass RX7 = some m.cls := hown
  have hl : lv_has ls 3 [(0, .ref (sw_ad g 33)), (1, .int a1), (2, .int a2)] := hl
  unfold wX7_declareConflict at h
  refine lv_aload_n hx hb dX7_declareConflict_0 rfl (lv_at hl 0 rfl) ?_
  refine sw_kv (rest := []) (sw_runV (As := []) (rest := []) hx hb hml hown hts (kX7_keep l g o d M _ h) cv_X7_keep q_974 rfl rfl ⟨(Nat.le_of_ble_eq_true rfl), (Nat.le_of_ble_eq_true rfl)⟩ hW (Nat.le_of_ble_eq_true rfl) sl_33 rfl rfl hl.1 rfl (Nat.le_of_ble_eq_true rfl) dX7_declareConflict_1 ⟨(Nat.le_of_ble_eq_true rfl), (Nat.le_of_ble_eq_true rfl)⟩) hW (fun  M1 H locs h hW => ?_)
  refine lv_aload_n hx hb dX7_declareConflict_4 rfl (lv_at hl 0 rfl) ?_
  refine lv_aload_n hx hb dX7_declareConflict_5 rfl (lv_at hl 0 rfl) ?_
  refine lv_iload_n hx hb dX7_declareConflict_6 rfl (lv_at hl 1 rfl) ?_
  refine lv_iload_n hx hb dX7_declareConflict_7 rfl (lv_at hl 2 rfl) ?_
  refine sw_ki (rest := [.ref (sw_ad g 33)]) (sw_runV (As := [.int a1, .int a2]) (rest := [.ref (sw_ad g 33)]) hx hb hml hown hts (kX7_doConflict l g o d a1 a2 M1 _ h) cv_X7_doConflict q_1006 rfl rfl ⟨(Nat.le_of_ble_eq_true rfl), (Nat.le_of_ble_eq_true rfl)⟩ hW (Nat.le_of_ble_eq_true rfl) sl_33 rfl rfl hl.1 rfl (Nat.le_of_ble_eq_true rfl) dX7_declareConflict_8 ⟨(Nat.le_of_ble_eq_true rfl), (Nat.le_of_ble_eq_true rfl)⟩) hW (fun r2 M3 H locs h hW => ?_)
  refine sw_ki (rest := []) (sw_runV (As := [.int r2]) (rest := []) hx hb hml hown hts (kX7_ends l g o d r2 M3 _ h) cv_X7_ends q_992 rfl rfl ⟨(Nat.le_of_ble_eq_true rfl), (Nat.le_of_ble_eq_true rfl)⟩ hW (Nat.le_of_ble_eq_true rfl) sl_33 rfl rfl hl.1 rfl (Nat.le_of_ble_eq_true rfl) dX7_declareConflict_11 ⟨(Nat.le_of_ble_eq_true rfl), (Nat.le_of_ble_eq_true rfl)⟩) hW (fun r4 M5 H locs h hW => ?_)
  exact sw_ri hx hb hr hlocks hW rfl h dX7_declareConflict_14

def jX7_doAssign_43 (a1 : Int32) (a2 : Int32) (M : sM) (Q : Int32 → sM → Prop) (t0_43 : Int32) : Prop :=
  wX7_assigned a1 a2 M (fun r4 => (r4 = 0 → ((t0_43 = 0 → (wX7_judges a1 a2 M (fun r9 => (r9 = 0 → (wX7_fails (3 : Int32) M (fun r14 M15 => Q r14 M15))) ∧ (¬ r9 = 0 → (wX7_setsPair a1 a2 (1 : Int32) (1 : Int32) M (fun M11 => wX7_examinersAt a2 M11 (fun r12 => Q r12 M11))))))) ∧ (¬ t0_43 = 0 → (wX7_fails (2 : Int32) M (fun r17 M18 => Q r17 M18))))) ∧ (¬ r4 = 0 → (wX7_fails (2 : Int32) M (fun r6 M7 => Q r6 M7))))
theorem cv_X7_doAssign : sw_cV yX7_doAssign RX7 cX7_doAssign 4 (some .int) 2 := ⟨q_1041, q_1382, q_9, q_1042, by decide +kernel⟩
def wX7_doAssign (a1 : Int32) (a2 : Int32) (M : sM) (Q : Int32 → sM → Prop) : Prop :=
  wX7_arePair a1 a2 M (fun r1 => (r1 = 0 → (wX7_fails (1 : Int32) M (fun r27 M28 => Q r27 M28))) ∧ (¬ r1 = 0 → (wX7_examinersAt a2 M (fun r3 => (r3 = (3 : Int32) → (jX7_doAssign_43 a1 a2 M Q (1 : Int32))) ∧ (¬ r3 = (3 : Int32) → (wX7_loadOf a1 M (fun r21 => wX7_examiner a1 (2 : Int32) M (fun r22 => (r21 = r22 → (jX7_doAssign_43 a1 a2 M Q (1 : Int32))) ∧ (¬ r21 = r22 → (jX7_doAssign_43 a1 a2 M Q (0 : Int32)))))))))))
set_option maxRecDepth 20000 in
theorem kX7_doAssign (l : Launch) (g : sG) (o : Nat → Int64) (d : Nat → UInt64) (a1 : Int32) (a2 : Int32) (M : sM) (Q : Int32 → sM → Prop) (h : wX7_doAssign a1 a2 M Q) : Met l yX7_doAssign (sw_ws yX7_doAssign cX7_doAssign 4 (some .int)) { frames := 3, cells := 0, slots := 0, locals := 67 } (va_Pc [.ref (sw_ad g 33), .int a1, .int a2] (sw_Pr g o d M)) (va_Qi Q (sw_Po g o d) (sw_A g)) 0 0 (sw_A g) := by
  refine sw_met (by decide) (Nat.le_of_ble_eq_true rfl) ?_
  intro p e s m args below meth c ls hx hb hr hts hown hml hlocks hW hl
  have hown : s.vm.findClass RX7 = some m.cls := hown
  have hl : lv_has ls 4 [(0, .ref (sw_ad g 33)), (1, .int a1), (2, .int a2)] := hl
  unfold wX7_doAssign at h
  refine lv_aload_n hx hb dX7_doAssign_0 rfl (lv_at hl 0 rfl) ?_
  refine lv_iload_n hx hb dX7_doAssign_1 rfl (lv_at hl 1 rfl) ?_
  refine lv_iload_n hx hb dX7_doAssign_2 rfl (lv_at hl 2 rfl) ?_
  refine sw_ki (rest := []) (sw_runV (As := [.int a1, .int a2]) (rest := []) hx hb hml hown hts (kX7_arePair l g o d a1 a2 M _ h) cv_X7_arePair q_1009 rfl rfl ⟨(Nat.le_of_ble_eq_true rfl), (Nat.le_of_ble_eq_true rfl)⟩ hW (Nat.le_of_ble_eq_true rfl) sl_33 rfl rfl hl.1 rfl (Nat.le_of_ble_eq_true rfl) dX7_doAssign_3 ⟨(Nat.le_of_ble_eq_true rfl), (Nat.le_of_ble_eq_true rfl)⟩) hW (fun r1 M29 H locs h hW => ?_)
  obtain ⟨h, eM29⟩ := h
  rw [eM29] at hW
  refine lv_if_ne (tgt := 15) hx hb dX7_doAssign_6 (by decide) (fun k2 => ?_) (fun k2 => ?_)
  · have h := h.2 k2
    refine lv_aload_n hx hb dX7_doAssign_15 rfl (lv_at hl 0 rfl) ?_
    refine lv_iload_n hx hb dX7_doAssign_16 rfl (lv_at hl 2 rfl) ?_
    refine sw_ki (rest := []) (sw_runV (As := [.int a2]) (rest := []) hx hb hml hown hts (kX7_examinersAt l g o d a2 M _ h) cv_X7_examinersAt q_1043 rfl rfl ⟨(Nat.le_of_ble_eq_true rfl), (Nat.le_of_ble_eq_true rfl)⟩ hW (Nat.le_of_ble_eq_true rfl) sl_33 rfl rfl hl.1 rfl (Nat.le_of_ble_eq_true rfl) dX7_doAssign_17 ⟨(Nat.le_of_ble_eq_true rfl), (Nat.le_of_ble_eq_true rfl)⟩) hW (fun r3 M26 H locs h hW => ?_)
    obtain ⟨h, eM26⟩ := h
    rw [eM26] at hW
    refine lv_iconst (v := 3) hx hb dX7_doAssign_20 (by decide) ?_
    refine sw_jn_i (g := g) (o := o) (d := d) (nL := 4) (M := M) (jp := 43) (J := fun t0_43 => jX7_doAssign_43 a1 a2 M Q t0_43) (Lf := fun t0_43 => [(0, .ref (sw_ad g 33)), (1, .int a1), (2, .int a2)]) (Sf := fun t0_43 => [.int t0_43]) (fun t0_43 H locs ls h hW hl => ?_) (fun hJ43 => ?_)
    · unfold jX7_doAssign_43 at h
      refine lv_istore_n (lv' := [(3, .int t0_43), (0, .ref (sw_ad g 33)), (1, .int a1), (2, .int a2)]) hx hb dX7_doAssign_43 rfl hl (Nat.le_of_ble_eq_true rfl) rfl (fun ls hl => ?_)
      refine lv_aload_n hx hb dX7_doAssign_44 rfl (lv_at hl 1 rfl) ?_
      refine lv_iload_n hx hb dX7_doAssign_45 rfl (lv_at hl 2 rfl) ?_
      refine lv_iload_n hx hb dX7_doAssign_46 rfl (lv_at hl 3 rfl) ?_
      refine sw_ki (rest := []) (sw_runV (As := [.int a1, .int a2]) (rest := []) hx hb hml hown hts (kX7_assigned l g o d a1 a2 M _ h) cv_X7_assigned q_1021 rfl rfl ⟨(Nat.le_of_ble_eq_true rfl), (Nat.le_of_ble_eq_true rfl)⟩ hW (Nat.le_of_ble_eq_true rfl) sl_33 rfl rfl hl.1 rfl (Nat.le_of_ble_eq_true rfl) dX7_doAssign_47 ⟨(Nat.le_of_ble_eq_true rfl), (Nat.le_of_ble_eq_true rfl)⟩) hW (fun r4 M19 H locs h hW => ?_)
      obtain ⟨h, eM19⟩ := h
      rw [eM19] at hW
      refine lv_if_ne (tgt := 57) hx hb dX7_doAssign_50 (by decide) (fun k5 => ?_) (fun k5 => ?_)
      · have h := h.2 k5
        refine lv_aload_n hx hb dX7_doAssign_57 rfl (lv_at hl 1 rfl) ?_
        refine lv_iconst (v := 2) hx hb dX7_doAssign_58 (by decide) ?_
        refine sw_ki (rest := []) (sw_runV (As := [.int (2 : Int32)]) (rest := []) hx hb hml hown hts (kX7_fails l g o d (2 : Int32) M _ h) cv_X7_fails q_989 rfl rfl ⟨(Nat.le_of_ble_eq_true rfl), (Nat.le_of_ble_eq_true rfl)⟩ hW (Nat.le_of_ble_eq_true rfl) sl_33 rfl rfl hl.1 rfl (Nat.le_of_ble_eq_true rfl) dX7_doAssign_59 ⟨(Nat.le_of_ble_eq_true rfl), (Nat.le_of_ble_eq_true rfl)⟩) hW (fun r6 M7 H locs h hW => ?_)
        exact sw_ri hx hb hr hlocks hW rfl h dX7_doAssign_62
      · have h := h.1 k5
        refine lv_iload_n hx hb dX7_doAssign_53 rfl (lv_at hl 0 rfl) ?_
        refine lv_if_eq (tgt := 63) hx hb dX7_doAssign_54 (by decide) (fun k8 => ?_) (fun k8 => ?_)
        · have h := h.1 k8
          refine lv_aload_n hx hb dX7_doAssign_63 rfl (lv_at hl 1 rfl) ?_
          refine lv_iload_n hx hb dX7_doAssign_64 rfl (lv_at hl 2 rfl) ?_
          refine lv_iload_n hx hb dX7_doAssign_65 rfl (lv_at hl 3 rfl) ?_
          refine sw_ki (rest := []) (sw_runV (As := [.int a1, .int a2]) (rest := []) hx hb hml hown hts (kX7_judges l g o d a1 a2 M _ h) cv_X7_judges q_1049 rfl rfl ⟨(Nat.le_of_ble_eq_true rfl), (Nat.le_of_ble_eq_true rfl)⟩ hW (Nat.le_of_ble_eq_true rfl) sl_33 rfl rfl hl.1 rfl (Nat.le_of_ble_eq_true rfl) dX7_doAssign_66 ⟨(Nat.le_of_ble_eq_true rfl), (Nat.le_of_ble_eq_true rfl)⟩) hW (fun r9 M16 H locs h hW => ?_)
          obtain ⟨h, eM16⟩ := h
          rw [eM16] at hW
          refine lv_if_ne (tgt := 78) hx hb dX7_doAssign_69 (by decide) (fun k10 => ?_) (fun k10 => ?_)
          · have h := h.2 k10
            refine lv_aload_n hx hb dX7_doAssign_78 rfl (lv_at hl 1 rfl) ?_
            refine lv_iload_n hx hb dX7_doAssign_79 rfl (lv_at hl 2 rfl) ?_
            refine lv_iload_n hx hb dX7_doAssign_80 rfl (lv_at hl 3 rfl) ?_
            refine lv_iconst (v := 1) hx hb dX7_doAssign_81 (by decide) ?_
            refine lv_iconst (v := 1) hx hb dX7_doAssign_82 (by decide) ?_
            refine sw_kv (rest := []) (sw_runV (As := [.int a1, .int a2, .int (1 : Int32), .int (1 : Int32)]) (rest := []) hx hb hml hown hts (kX7_setsPair l g o d a1 a2 (1 : Int32) (1 : Int32) M _ h) cv_X7_setsPair q_1024 rfl rfl ⟨(Nat.le_of_ble_eq_true rfl), (Nat.le_of_ble_eq_true rfl)⟩ hW (Nat.le_of_ble_eq_true rfl) sl_33 rfl rfl hl.1 rfl (Nat.le_of_ble_eq_true rfl) dX7_doAssign_83 ⟨(Nat.le_of_ble_eq_true rfl), (Nat.le_of_ble_eq_true rfl)⟩) hW (fun  M11 H locs h hW => ?_)
            refine lv_aload_n hx hb dX7_doAssign_86 rfl (lv_at hl 1 rfl) ?_
            refine lv_iload_n hx hb dX7_doAssign_87 rfl (lv_at hl 3 rfl) ?_
            refine sw_ki (rest := []) (sw_runV (As := [.int a2]) (rest := []) hx hb hml hown hts (kX7_examinersAt l g o d a2 M11 _ h) cv_X7_examinersAt q_1043 rfl rfl ⟨(Nat.le_of_ble_eq_true rfl), (Nat.le_of_ble_eq_true rfl)⟩ hW (Nat.le_of_ble_eq_true rfl) sl_33 rfl rfl hl.1 rfl (Nat.le_of_ble_eq_true rfl) dX7_doAssign_88 ⟨(Nat.le_of_ble_eq_true rfl), (Nat.le_of_ble_eq_true rfl)⟩) hW (fun r12 M13 H locs h hW => ?_)
            obtain ⟨h, eM13⟩ := h
            rw [eM13] at hW
            exact sw_ri hx hb hr hlocks hW rfl h dX7_doAssign_91
          · have h := h.1 k10
            refine lv_aload_n hx hb dX7_doAssign_72 rfl (lv_at hl 1 rfl) ?_
            refine lv_iconst (v := 3) hx hb dX7_doAssign_73 (by decide) ?_
            refine sw_ki (rest := []) (sw_runV (As := [.int (3 : Int32)]) (rest := []) hx hb hml hown hts (kX7_fails l g o d (3 : Int32) M _ h) cv_X7_fails q_989 rfl rfl ⟨(Nat.le_of_ble_eq_true rfl), (Nat.le_of_ble_eq_true rfl)⟩ hW (Nat.le_of_ble_eq_true rfl) sl_33 rfl rfl hl.1 rfl (Nat.le_of_ble_eq_true rfl) dX7_doAssign_74 ⟨(Nat.le_of_ble_eq_true rfl), (Nat.le_of_ble_eq_true rfl)⟩) hW (fun r14 M15 H locs h hW => ?_)
            exact sw_ri hx hb hr hlocks hW rfl h dX7_doAssign_77
        · have h := h.2 k8
          refine lv_aload_n hx hb dX7_doAssign_57 rfl (lv_at hl 1 rfl) ?_
          refine lv_iconst (v := 2) hx hb dX7_doAssign_58 (by decide) ?_
          refine sw_ki (rest := []) (sw_runV (As := [.int (2 : Int32)]) (rest := []) hx hb hml hown hts (kX7_fails l g o d (2 : Int32) M _ h) cv_X7_fails q_989 rfl rfl ⟨(Nat.le_of_ble_eq_true rfl), (Nat.le_of_ble_eq_true rfl)⟩ hW (Nat.le_of_ble_eq_true rfl) sl_33 rfl rfl hl.1 rfl (Nat.le_of_ble_eq_true rfl) dX7_doAssign_59 ⟨(Nat.le_of_ble_eq_true rfl), (Nat.le_of_ble_eq_true rfl)⟩) hW (fun r17 M18 H locs h hW => ?_)
          exact sw_ri hx hb hr hlocks hW rfl h dX7_doAssign_62
    · refine lv_icmp_eq (tgt := 38) hx hb dX7_doAssign_21 (by decide) (fun k20 => ?_) (fun k20 => ?_)
      · have h := h.1 k20
        refine lv_iconst (v := 1) hx hb dX7_doAssign_38 (by decide) ?_
        refine lv_goto (tgt := 43) hx hb dX7_doAssign_39 (by decide) ?_
        exact hJ43 _ _ _ _ h hW (lv_sub hl [0, 1, 2] rfl)
      · have h := h.2 k20
        refine lv_aload_n hx hb dX7_doAssign_24 rfl (lv_at hl 0 rfl) ?_
        refine lv_iload_n hx hb dX7_doAssign_25 rfl (lv_at hl 1 rfl) ?_
        refine sw_ki (rest := []) (sw_runV (As := [.int a1]) (rest := []) hx hb hml hown hts (kX7_loadOf l g o d a1 M _ h) cv_X7_loadOf q_1046 rfl rfl ⟨(Nat.le_of_ble_eq_true rfl), (Nat.le_of_ble_eq_true rfl)⟩ hW (Nat.le_of_ble_eq_true rfl) sl_33 rfl rfl hl.1 rfl (Nat.le_of_ble_eq_true rfl) dX7_doAssign_26 ⟨(Nat.le_of_ble_eq_true rfl), (Nat.le_of_ble_eq_true rfl)⟩) hW (fun r21 M25 H locs h hW => ?_)
        obtain ⟨h, eM25⟩ := h
        rw [eM25] at hW
        refine lv_aload_n hx hb dX7_doAssign_29 rfl (lv_at hl 0 rfl) ?_
        refine lv_iload_n hx hb dX7_doAssign_30 rfl (lv_at hl 1 rfl) ?_
        refine lv_iconst (v := 2) hx hb dX7_doAssign_31 (by decide) ?_
        refine sw_ki (rest := [.int r21]) (sw_runV (As := [.int a1, .int (2 : Int32)]) (rest := [.int r21]) hx hb hml hown hts (kX7_examiner l g o d a1 (2 : Int32) M _ h) cv_X7_examiner q_1030 rfl rfl ⟨(Nat.le_of_ble_eq_true rfl), (Nat.le_of_ble_eq_true rfl)⟩ hW (Nat.le_of_ble_eq_true rfl) sl_33 rfl rfl hl.1 rfl (Nat.le_of_ble_eq_true rfl) dX7_doAssign_32 ⟨(Nat.le_of_ble_eq_true rfl), (Nat.le_of_ble_eq_true rfl)⟩) hW (fun r22 M24 H locs h hW => ?_)
        obtain ⟨h, eM24⟩ := h
        rw [eM24] at hW
        refine lv_icmp_ne (tgt := 42) hx hb dX7_doAssign_35 (by decide) (fun k23 => ?_) (fun k23 => ?_)
        · have h := h.2 k23
          refine lv_iconst (v := 0) hx hb dX7_doAssign_42 (by decide) ?_
          exact hJ43 _ _ _ _ h hW (lv_sub hl [0, 1, 2] rfl)
        · have h := h.1 k23
          refine lv_iconst (v := 1) hx hb dX7_doAssign_38 (by decide) ?_
          refine lv_goto (tgt := 43) hx hb dX7_doAssign_39 (by decide) ?_
          exact hJ43 _ _ _ _ h hW (lv_sub hl [0, 1, 2] rfl)
  · have h := h.1 k2
    refine lv_aload_n hx hb dX7_doAssign_9 rfl (lv_at hl 0 rfl) ?_
    refine lv_iconst (v := 1) hx hb dX7_doAssign_10 (by decide) ?_
    refine sw_ki (rest := []) (sw_runV (As := [.int (1 : Int32)]) (rest := []) hx hb hml hown hts (kX7_fails l g o d (1 : Int32) M _ h) cv_X7_fails q_989 rfl rfl ⟨(Nat.le_of_ble_eq_true rfl), (Nat.le_of_ble_eq_true rfl)⟩ hW (Nat.le_of_ble_eq_true rfl) sl_33 rfl rfl hl.1 rfl (Nat.le_of_ble_eq_true rfl) dX7_doAssign_11 ⟨(Nat.le_of_ble_eq_true rfl), (Nat.le_of_ble_eq_true rfl)⟩) hW (fun r27 M28 H locs h hW => ?_)
    exact sw_ri hx hb hr hlocks hW rfl h dX7_doAssign_14

theorem cv_X7_assign : sw_cV yX7_assign RX7 cX7_assign 3 (some .int) 2 := ⟨q_1037, q_1038, q_9, q_1039, by decide +kernel⟩
def wX7_assign (a1 : Int32) (a2 : Int32) (M : sM) (Q : Int32 → sM → Prop) : Prop :=
  wX7_keep M (fun M1 => wX7_doAssign a1 a2 M1 (fun r2 M3 => wX7_ends r2 M3 (fun r4 M5 => Q r4 M5)))
set_option maxRecDepth 20000 in
theorem kX7_assign (l : Launch) (g : sG) (o : Nat → Int64) (d : Nat → UInt64) (a1 : Int32) (a2 : Int32) (M : sM) (Q : Int32 → sM → Prop) (h : wX7_assign a1 a2 M Q) : Met l yX7_assign (sw_ws yX7_assign cX7_assign 3 (some .int)) { frames := 4, cells := 0, slots := 0, locals := 90 } (va_Pc [.ref (sw_ad g 33), .int a1, .int a2] (sw_Pr g o d M)) (va_Qi Q (sw_Po g o d) (sw_A g)) 0 0 (sw_A g) := by
  refine sw_met (by decide) (Nat.le_of_ble_eq_true rfl) ?_
  intro p e s m args below meth c ls hx hb hr hts hown hml hlocks hW hl
  have hown : s.vm.findClass RX7 = some m.cls := hown
  have hl : lv_has ls 3 [(0, .ref (sw_ad g 33)), (1, .int a1), (2, .int a2)] := hl
  unfold wX7_assign at h
  refine lv_aload_n hx hb dX7_assign_0 rfl (lv_at hl 0 rfl) ?_
  refine sw_kv (rest := []) (sw_runV (As := []) (rest := []) hx hb hml hown hts (kX7_keep l g o d M _ h) cv_X7_keep q_974 rfl rfl ⟨(Nat.le_of_ble_eq_true rfl), (Nat.le_of_ble_eq_true rfl)⟩ hW (Nat.le_of_ble_eq_true rfl) sl_33 rfl rfl hl.1 rfl (Nat.le_of_ble_eq_true rfl) dX7_assign_1 ⟨(Nat.le_of_ble_eq_true rfl), (Nat.le_of_ble_eq_true rfl)⟩) hW (fun  M1 H locs h hW => ?_)
  refine lv_aload_n hx hb dX7_assign_4 rfl (lv_at hl 0 rfl) ?_
  refine lv_aload_n hx hb dX7_assign_5 rfl (lv_at hl 0 rfl) ?_
  refine lv_iload_n hx hb dX7_assign_6 rfl (lv_at hl 1 rfl) ?_
  refine lv_iload_n hx hb dX7_assign_7 rfl (lv_at hl 2 rfl) ?_
  refine sw_ki (rest := [.ref (sw_ad g 33)]) (sw_runV (As := [.int a1, .int a2]) (rest := [.ref (sw_ad g 33)]) hx hb hml hown hts (kX7_doAssign l g o d a1 a2 M1 _ h) cv_X7_doAssign q_1040 rfl rfl ⟨(Nat.le_of_ble_eq_true rfl), (Nat.le_of_ble_eq_true rfl)⟩ hW (Nat.le_of_ble_eq_true rfl) sl_33 rfl rfl hl.1 rfl (Nat.le_of_ble_eq_true rfl) dX7_assign_8 ⟨(Nat.le_of_ble_eq_true rfl), (Nat.le_of_ble_eq_true rfl)⟩) hW (fun r2 M3 H locs h hW => ?_)
  refine sw_ki (rest := []) (sw_runV (As := [.int r2]) (rest := []) hx hb hml hown hts (kX7_ends l g o d r2 M3 _ h) cv_X7_ends q_992 rfl rfl ⟨(Nat.le_of_ble_eq_true rfl), (Nat.le_of_ble_eq_true rfl)⟩ hW (Nat.le_of_ble_eq_true rfl) sl_33 rfl rfl hl.1 rfl (Nat.le_of_ble_eq_true rfl) dX7_assign_11 ⟨(Nat.le_of_ble_eq_true rfl), (Nat.le_of_ble_eq_true rfl)⟩) hW (fun r4 M5 H locs h hW => ?_)
  exact sw_ri hx hb hr hlocks hW rfl h dX7_assign_14

theorem cv_X7_canGet : sw_cV yX7_canGet RX7 cX7_canGet 3 (some .boolean) 2 := ⟨q_1072, q_1391, q_9, q_1073, by decide +kernel⟩
def wX7_canGet (a1 : Int32) (a2 : Int32) (M : sM) (Q : Int32 → Prop) : Prop :=
  wX7_examinersAt a2 M (fun r1 => ((3 : Int32) ≤ r1 → (Q (0 : Int32))) ∧ (¬ (3 : Int32) ≤ r1 → (wX7_judges a1 a2 M (fun r3 => (r3 = 0 → (Q (0 : Int32))) ∧ (¬ r3 = 0 → (wX7_assigned a1 a2 M (fun r5 => (r5 = 0 → (Q (1 : Int32))) ∧ (¬ r5 = 0 → (Q (0 : Int32))))))))))
set_option maxRecDepth 20000 in
theorem kX7_canGet (l : Launch) (g : sG) (o : Nat → Int64) (d : Nat → UInt64) (a1 : Int32) (a2 : Int32) (M : sM) (Q : Int32 → Prop) (h : wX7_canGet a1 a2 M Q) : Met l yX7_canGet (sw_ws yX7_canGet cX7_canGet 3 (some .boolean)) { frames := 3, cells := 0, slots := 0, locals := 67 } (va_Pc [.ref (sw_ad g 33), .int a1, .int a2] (sw_Pr g o d M)) (va_Qi (fun r M1 => Q r ∧ M1 = M) (sw_Po g o d) (sw_A g)) 0 0 (sw_A g) := by
  refine sw_met (by decide) (Nat.le_of_ble_eq_true rfl) ?_
  intro p e s m args below meth c ls hx hb hr hts hown hml hlocks hW hl
  have hown : s.vm.findClass RX7 = some m.cls := hown
  have hl : lv_has ls 3 [(0, .ref (sw_ad g 33)), (1, .int a1), (2, .int a2)] := hl
  unfold wX7_canGet at h
  refine lv_aload_n hx hb dX7_canGet_0 rfl (lv_at hl 0 rfl) ?_
  refine lv_iload_n hx hb dX7_canGet_1 rfl (lv_at hl 2 rfl) ?_
  refine sw_ki (rest := []) (sw_runV (As := [.int a2]) (rest := []) hx hb hml hown hts (kX7_examinersAt l g o d a2 M _ h) cv_X7_examinersAt q_1043 rfl rfl ⟨(Nat.le_of_ble_eq_true rfl), (Nat.le_of_ble_eq_true rfl)⟩ hW (Nat.le_of_ble_eq_true rfl) sl_33 rfl rfl hl.1 rfl (Nat.le_of_ble_eq_true rfl) dX7_canGet_2 ⟨(Nat.le_of_ble_eq_true rfl), (Nat.le_of_ble_eq_true rfl)⟩) hW (fun r1 M9 H locs h hW => ?_)
  obtain ⟨h, eM9⟩ := h
  rw [eM9] at hW
  refine lv_iconst (v := 3) hx hb dX7_canGet_5 (by decide) ?_
  refine lv_icmp_ge (tgt := 31) hx hb dX7_canGet_6 (by decide) (fun k2 => ?_) (fun k2 => ?_)
  · have h := h.1 k2
    refine lv_iconst (v := 0) hx hb dX7_canGet_31 (by decide) ?_
    exact sw_ri hx hb hr hlocks hW (by decide) ⟨h, rfl⟩ dX7_canGet_32
  · have h := h.2 k2
    refine lv_aload_n hx hb dX7_canGet_9 rfl (lv_at hl 0 rfl) ?_
    refine lv_iload_n hx hb dX7_canGet_10 rfl (lv_at hl 1 rfl) ?_
    refine lv_iload_n hx hb dX7_canGet_11 rfl (lv_at hl 2 rfl) ?_
    refine sw_ki (rest := []) (sw_runV (As := [.int a1, .int a2]) (rest := []) hx hb hml hown hts (kX7_judges l g o d a1 a2 M _ h) cv_X7_judges q_1049 rfl rfl ⟨(Nat.le_of_ble_eq_true rfl), (Nat.le_of_ble_eq_true rfl)⟩ hW (Nat.le_of_ble_eq_true rfl) sl_33 rfl rfl hl.1 rfl (Nat.le_of_ble_eq_true rfl) dX7_canGet_12 ⟨(Nat.le_of_ble_eq_true rfl), (Nat.le_of_ble_eq_true rfl)⟩) hW (fun r3 M8 H locs h hW => ?_)
    obtain ⟨h, eM8⟩ := h
    rw [eM8] at hW
    refine lv_if_eq (tgt := 31) hx hb dX7_canGet_15 (by decide) (fun k4 => ?_) (fun k4 => ?_)
    · have h := h.1 k4
      refine lv_iconst (v := 0) hx hb dX7_canGet_31 (by decide) ?_
      exact sw_ri hx hb hr hlocks hW (by decide) ⟨h, rfl⟩ dX7_canGet_32
    · have h := h.2 k4
      refine lv_aload_n hx hb dX7_canGet_18 rfl (lv_at hl 0 rfl) ?_
      refine lv_iload_n hx hb dX7_canGet_19 rfl (lv_at hl 1 rfl) ?_
      refine lv_iload_n hx hb dX7_canGet_20 rfl (lv_at hl 2 rfl) ?_
      refine sw_ki (rest := []) (sw_runV (As := [.int a1, .int a2]) (rest := []) hx hb hml hown hts (kX7_assigned l g o d a1 a2 M _ h) cv_X7_assigned q_1021 rfl rfl ⟨(Nat.le_of_ble_eq_true rfl), (Nat.le_of_ble_eq_true rfl)⟩ hW (Nat.le_of_ble_eq_true rfl) sl_33 rfl rfl hl.1 rfl (Nat.le_of_ble_eq_true rfl) dX7_canGet_21 ⟨(Nat.le_of_ble_eq_true rfl), (Nat.le_of_ble_eq_true rfl)⟩) hW (fun r5 M7 H locs h hW => ?_)
      obtain ⟨h, eM7⟩ := h
      rw [eM7] at hW
      refine lv_if_ne (tgt := 31) hx hb dX7_canGet_24 (by decide) (fun k6 => ?_) (fun k6 => ?_)
      · have h := h.2 k6
        refine lv_iconst (v := 0) hx hb dX7_canGet_31 (by decide) ?_
        exact sw_ri hx hb hr hlocks hW (by decide) ⟨h, rfl⟩ dX7_canGet_32
      · have h := h.1 k6
        refine lv_iconst (v := 1) hx hb dX7_canGet_27 (by decide) ?_
        refine lv_goto (tgt := 32) hx hb dX7_canGet_28 (by decide) ?_
        exact sw_ri hx hb hr hlocks hW (by decide) ⟨h, rfl⟩ dX7_canGet_32

def lX7_seat_39 (a1 : Int32) (x2_2 : Int32) (rec : Int32 → sM → (Int32 → sM → Prop) → Prop) (Q : Int32 → sM → Prop) (K39 : sM → Prop) : Nat → Int32 → sM → Prop
  | 0, _, _ => False
  | n39 + 1, x3_39, M_39 => vp_in x2_2 6 ∧ (((M_39 38 (x2_2).toNatClampNeg) ≤ x3_39 → (K39 M_39)) ∧ (¬ (M_39 38 (x2_2).toNatClampNeg) ≤ x3_39 → (∀ v14 : Int32, v14 = (((4 : Int32) * x2_2) + x3_39) → (vp_in v14 24 ∧ (((M_39 39 (v14).toNatClampNeg) < 0 → (vp_in v14 24 ∧ (∀ M18 : sM, M18 = sw_ms M_39 39 (v14).toNatClampNeg a1 → (Q (1 : Int32) M18)))) ∧ (¬ (M_39 39 (v14).toNatClampNeg) < 0 → (vp_in v14 24 ∧ (rec (M_39 39 (v14).toNatClampNeg) M_39 (fun r20 M21 => (r20 = 0 → (∀ v23 : Int32, v23 = x3_39 + (1 : Int32) → ((fun x3_39 M_39 => lX7_seat_39 a1 x2_2 rec Q K39 n39 x3_39 M_39) v23 M21))) ∧ (¬ r20 = 0 → (vp_in v14 24 ∧ (∀ M25 : sM, M25 = sw_ms M21 39 (v14).toNatClampNeg a1 → (Q (1 : Int32) M25)))))))))))))
def lX7_seat_2 (a1 : Int32) (rec : Int32 → sM → (Int32 → sM → Prop) → Prop) (Q : Int32 → sM → Prop) (K2 : sM → Prop) : Nat → Int32 → sM → Prop
  | 0, _, _ => False
  | n2 + 1, x2_2, M_2 => ((M_2 34 ((1 : Int32)).toNatClampNeg) ≤ x2_2 → (K2 M_2)) ∧ (¬ (M_2 34 ((1 : Int32)).toNatClampNeg) ≤ x2_2 → (vp_in x2_2 6 ∧ (((M_2 40 (x2_2).toNatClampNeg) = 0 → (wX7_canGet x2_2 a1 M_2 (fun r5 => (r5 = 0 → (∀ v7 : Int32, v7 = x2_2 + (1 : Int32) → ((fun x2_2 M_2 => lX7_seat_2 a1 rec Q K2 n2 x2_2 M_2) v7 M_2))) ∧ (¬ r5 = 0 → (vp_in x2_2 6 ∧ (∀ M9 : sM, M9 = sw_ms M_2 40 (x2_2).toNatClampNeg (vp_nar .boolean (1 : Int32)) → (∃ n39, lX7_seat_39 a1 x2_2 rec Q (fun M_39k => ∀ v10 : Int32, v10 = x2_2 + (1 : Int32) → ((fun x2_2 M_2 => lX7_seat_2 a1 rec Q K2 n2 x2_2 M_2) v10 M_39k)) n39 (0 : Int32) M9))))))) ∧ (¬ (M_2 40 (x2_2).toNatClampNeg) = 0 → (∀ v4 : Int32, v4 = x2_2 + (1 : Int32) → ((fun x2_2 M_2 => lX7_seat_2 a1 rec Q K2 n2 x2_2 M_2) v4 M_2))))))
theorem cv_X7_seat : sw_cV yX7_seat RX7 cX7_seat 5 (some .boolean) 1 := ⟨q_1069, q_1390, q_9, q_1070, by decide +kernel⟩
def wX7_seat : Nat → Int32 → sM → (Int32 → sM → Prop) → Prop
  | 0, _, _, _ => False
  | n + 1, a1, M, Q => ∃ n2, lX7_seat_2 a1 (fun a1 M Q => wX7_seat n a1 M Q) Q (fun M_2k => Q (0 : Int32) M_2k) n2 (0 : Int32) M
set_option maxRecDepth 20000 in
theorem kX7_seat (l : Launch) (g : sG) (o : Nat → Int64) (d : Nat → UInt64) : ∀ (n : Nat) (a1 : Int32) (M : sM) (Q : Int32 → sM → Prop) (h : wX7_seat n a1 M Q), Met l yX7_seat (sw_ws yX7_seat cX7_seat 5 (some .boolean)) { frames := 5 + n, cells := 0, slots := 0, locals := 113 + 24 * n } (va_Pc [.ref (sw_ad g 33), .int a1] (sw_Pr g o d M)) (va_Qi Q (sw_Po g o d) (sw_A g)) 0 0 (sw_A g) := by
  intro n
  induction n with
  | zero => intro a1 M Q h; exact h.elim
  | succ n ih =>
    intro a1 M Q h
    refine sw_met (by decide) (Nat.le_of_ble_eq_true rfl) ?_
    intro p e s m args below meth c ls hx hb hr hts hown hml hlocks hW hl
    have hown : s.vm.findClass RX7 = some m.cls := hown
    have hl : lv_has ls 5 [(0, .ref (sw_ad g 33)), (1, .int a1)] := hl
    rw [wX7_seat.eq_2] at h
    refine lv_iconst (v := 0) hx hb dX7_seat_0 (by decide) ?_
    refine lv_istore_n (lv' := [(2, .int (0 : Int32)), (0, .ref (sw_ad g 33)), (1, .int a1)]) hx hb dX7_seat_1 rfl hl (Nat.le_of_ble_eq_true rfl) rfl (fun ls hl => ?_)
    obtain ⟨n2, h⟩ := h
    refine sw_lp_iM (hd := 2) (Lf := fun x2_2 M_2 => [(0, .ref (sw_ad g 33)), (1, .int a1), (2, .int x2_2)]) h hW (lv_sub hl [1, 2, 0] rfl) (fun _ _ h => h) (fun n2 ih2 x2_2 M_2 H locs ls h hW hl => ?_)
    rw [lX7_seat_2.eq_2] at h
    refine lv_iload_n hx hb dX7_seat_2 rfl (lv_at hl 2 rfl) ?_
    refine lv_aload_n hx hb dX7_seat_3 rfl (lv_at hl 0 rfl) ?_
    refine sw_gr (j := 0) (r := 34) hx hb hts hown hW rfl qf_7 (Nat.le_of_ble_eq_true rfl) sl_33 rfl (Nat.le_of_ble_eq_true rfl) q_944 dX7_seat_4 ?_
    refine lv_iconst (v := 1) hx hb dX7_seat_7 (by decide) ?_
    refine sw_ia (n := 228) hx hb hW (Nat.le_of_ble_eq_true rfl) sl_34 (vp_in_iff.mpr (by decide)) dX7_seat_8 ?_
    refine lv_icmp_ge (tgt := 102) hx hb dX7_seat_9 (by decide) (fun k1 => ?_) (fun k1 => ?_)
    · have h := h.1 k1
      refine lv_iconst (v := 0) hx hb dX7_seat_102 (by decide) ?_
      exact sw_ri hx hb hr hlocks hW (by decide) h dX7_seat_103
    · have h := h.2 k1
      refine lv_aload_n hx hb dX7_seat_12 rfl (lv_at hl 0 rfl) ?_
      refine sw_gr (j := 9) (r := 40) hx hb hts hown hW rfl qf_7 (Nat.le_of_ble_eq_true rfl) sl_33 rfl (Nat.le_of_ble_eq_true rfl) q_953 dX7_seat_13 ?_
      refine lv_iload_n hx hb dX7_seat_16 rfl (lv_at hl 2 rfl) ?_
      have b2 := h.1
      have h := h.2
      refine sw_za (n := 6) hx hb hW (Nat.le_of_ble_eq_true rfl) sl_40 b2 dX7_seat_17 ?_
      refine lv_if_ne (tgt := 96) hx hb dX7_seat_18 (by decide) (fun k3 => ?_) (fun k3 => ?_)
      · have h := h.2 k3
        obtain ⟨v4, ev4⟩ : ∃ z : Int32, z = x2_2 + (1 : Int32) := ⟨_, rfl⟩
        have h := h v4 ev4
        refine lv_iinc (v := v4) (lv' := [(2, .int v4), (0, .ref (sw_ad g 33)), (1, .int a1)]) hx hb dX7_seat_96 hl (k := 2) rfl (by rw [ev4]; rfl) (Nat.le_of_ble_eq_true rfl) rfl (fun ls hl => ?_)
        refine lv_goto (tgt := 2) hx hb dX7_seat_99 (by decide) ?_
        exact ih2 _ _ _ _ _ h hW (lv_sub hl [1, 2, 0] rfl)
      · have h := h.1 k3
        refine lv_aload_n hx hb dX7_seat_21 rfl (lv_at hl 0 rfl) ?_
        refine lv_iload_n hx hb dX7_seat_22 rfl (lv_at hl 2 rfl) ?_
        refine lv_iload_n hx hb dX7_seat_23 rfl (lv_at hl 1 rfl) ?_
        refine sw_ki (rest := []) (sw_runV (As := [.int x2_2, .int a1]) (rest := []) hx hb hml hown hts (kX7_canGet l g o d x2_2 a1 M_2 _ h) cv_X7_canGet q_1071 rfl rfl ⟨by dsimp only; omega, by dsimp only; omega⟩ hW (Nat.le_of_ble_eq_true rfl) sl_33 rfl rfl hl.1 rfl (Nat.le_of_ble_eq_true rfl) dX7_seat_24 ⟨(Nat.le_of_ble_eq_true rfl), (Nat.le_of_ble_eq_true rfl)⟩) hW (fun r5 M26 H locs h hW => ?_)
        obtain ⟨h, eM26⟩ := h
        rw [eM26] at hW
        refine lv_if_eq (tgt := 96) hx hb dX7_seat_27 (by decide) (fun k6 => ?_) (fun k6 => ?_)
        · have h := h.1 k6
          obtain ⟨v7, ev7⟩ : ∃ z : Int32, z = x2_2 + (1 : Int32) := ⟨_, rfl⟩
          have h := h v7 ev7
          refine lv_iinc (v := v7) (lv' := [(2, .int v7), (0, .ref (sw_ad g 33)), (1, .int a1)]) hx hb dX7_seat_96 hl (k := 2) rfl (by rw [ev7]; rfl) (Nat.le_of_ble_eq_true rfl) rfl (fun ls hl => ?_)
          refine lv_goto (tgt := 2) hx hb dX7_seat_99 (by decide) ?_
          exact ih2 _ _ _ _ _ h hW (lv_sub hl [1, 2, 0] rfl)
        · have h := h.2 k6
          refine lv_aload_n hx hb dX7_seat_30 rfl (lv_at hl 0 rfl) ?_
          refine sw_gr (j := 9) (r := 40) hx hb hts hown hW rfl qf_7 (Nat.le_of_ble_eq_true rfl) sl_33 rfl (Nat.le_of_ble_eq_true rfl) q_953 dX7_seat_31 ?_
          refine lv_iload_n hx hb dX7_seat_34 rfl (lv_at hl 2 rfl) ?_
          refine lv_iconst (v := 1) hx hb dX7_seat_35 (by decide) ?_
          have b8 := h.1
          have h := h.2
          refine sw_zs (n := 6) hx hb hW (Nat.le_of_ble_eq_true rfl) sl_40 b8 dX7_seat_36 (fun H locs hW => ?_)
          obtain ⟨M9, eM9⟩ : ∃ z : sM, z = sw_ms M_2 40 (x2_2).toNatClampNeg (vp_nar .boolean (1 : Int32)) := ⟨_, rfl⟩
          rw [← eM9] at hW
          have h := h M9 eM9
          refine lv_iconst (v := 0) hx hb dX7_seat_37 (by decide) ?_
          refine lv_istore_n (lv' := [(3, .int (0 : Int32)), (0, .ref (sw_ad g 33)), (1, .int a1), (2, .int x2_2)]) hx hb dX7_seat_38 rfl hl (Nat.le_of_ble_eq_true rfl) rfl (fun ls hl => ?_)
          obtain ⟨n39, h⟩ := h
          refine sw_lp_iM (hd := 39) (Lf := fun x3_39 M_39 => [(0, .ref (sw_ad g 33)), (1, .int a1), (2, .int x2_2), (3, .int x3_39)]) h hW (lv_sub hl [1, 2, 3, 0] rfl) (fun _ _ h => h) (fun n39 ih39 x3_39 M_39 H locs ls h hW hl => ?_)
          rw [lX7_seat_39.eq_2] at h
          refine lv_iload_n hx hb dX7_seat_39 rfl (lv_at hl 3 rfl) ?_
          refine lv_aload_n hx hb dX7_seat_40 rfl (lv_at hl 0 rfl) ?_
          refine sw_gr (j := 7) (r := 38) hx hb hts hown hW rfl qf_7 (Nat.le_of_ble_eq_true rfl) sl_33 rfl (Nat.le_of_ble_eq_true rfl) q_951 dX7_seat_41 ?_
          refine lv_iload_n hx hb dX7_seat_44 rfl (lv_at hl 2 rfl) ?_
          have b11 := h.1
          have h := h.2
          refine sw_ia (n := 6) hx hb hW (Nat.le_of_ble_eq_true rfl) sl_38 b11 dX7_seat_45 ?_
          refine lv_icmp_ge (tgt := 96) hx hb dX7_seat_46 (by decide) (fun k12 => ?_) (fun k12 => ?_)
          · have h := h.1 k12
            obtain ⟨v13, ev13⟩ : ∃ z : Int32, z = x2_2 + (1 : Int32) := ⟨_, rfl⟩
            have h := h v13 ev13
            refine lv_iinc (v := v13) (lv' := [(2, .int v13), (0, .ref (sw_ad g 33)), (1, .int a1), (3, .int x3_39)]) hx hb dX7_seat_96 hl (k := 2) rfl (by rw [ev13]; rfl) (Nat.le_of_ble_eq_true rfl) rfl (fun ls hl => ?_)
            refine lv_goto (tgt := 2) hx hb dX7_seat_99 (by decide) ?_
            exact ih2 _ _ _ _ _ h hW (lv_sub hl [1, 2, 0] rfl)
          · have h := h.2 k12
            refine lv_iconst (v := 4) hx hb dX7_seat_49 (by decide) ?_
            refine lv_iload_n hx hb dX7_seat_50 rfl (lv_at hl 2 rfl) ?_
            refine lv_imul hx hb dX7_seat_51 ?_
            refine lv_iload_n hx hb dX7_seat_52 rfl (lv_at hl 3 rfl) ?_
            refine lv_iadd hx hb dX7_seat_53 ?_
            refine lv_topi (fun v14 ev14 => ?_)
            have h := h v14 ev14
            refine lv_istore (lv' := [(4, .int v14), (0, .ref (sw_ad g 33)), (1, .int a1), (2, .int x2_2), (3, .int x3_39)]) hx hb dX7_seat_54 hl (Nat.le_of_ble_eq_true rfl) rfl (fun ls hl => ?_)
            refine lv_aload_n hx hb dX7_seat_56 rfl (lv_at hl 1 rfl) ?_
            refine sw_gr (j := 8) (r := 39) hx hb hts hown hW rfl qf_7 (Nat.le_of_ble_eq_true rfl) sl_33 rfl (Nat.le_of_ble_eq_true rfl) q_952 dX7_seat_57 ?_
            refine lv_iload hx hb dX7_seat_60 (lv_at hl 0 rfl) ?_
            have b15 := h.1
            have h := h.2
            refine sw_ia (n := 24) hx hb hW (Nat.le_of_ble_eq_true rfl) sl_39 b15 dX7_seat_62 ?_
            refine lv_if_lt (tgt := 80) hx hb dX7_seat_63 (by decide) (fun k16 => ?_) (fun k16 => ?_)
            · have h := h.1 k16
              refine lv_aload_n hx hb dX7_seat_80 rfl (lv_at hl 1 rfl) ?_
              refine sw_gr (j := 8) (r := 39) hx hb hts hown hW rfl qf_7 (Nat.le_of_ble_eq_true rfl) sl_33 rfl (Nat.le_of_ble_eq_true rfl) q_952 dX7_seat_81 ?_
              refine lv_iload hx hb dX7_seat_84 (lv_at hl 0 rfl) ?_
              refine lv_iload_n hx hb dX7_seat_86 rfl (lv_at hl 2 rfl) ?_
              have b17 := h.1
              have h := h.2
              refine sw_is (n := 24) hx hb hW (Nat.le_of_ble_eq_true rfl) sl_39 b17 dX7_seat_87 (fun H locs hW => ?_)
              obtain ⟨M18, eM18⟩ : ∃ z : sM, z = sw_ms M_39 39 (v14).toNatClampNeg a1 := ⟨_, rfl⟩
              rw [← eM18] at hW
              have h := h M18 eM18
              refine lv_iconst (v := 1) hx hb dX7_seat_88 (by decide) ?_
              exact sw_ri hx hb hr hlocks hW (by decide) h dX7_seat_89
            · have h := h.2 k16
              refine lv_aload_n hx hb dX7_seat_66 rfl (lv_at hl 1 rfl) ?_
              refine lv_aload_n hx hb dX7_seat_67 rfl (lv_at hl 1 rfl) ?_
              refine sw_gr (j := 8) (r := 39) hx hb hts hown hW rfl qf_7 (Nat.le_of_ble_eq_true rfl) sl_33 rfl (Nat.le_of_ble_eq_true rfl) q_952 dX7_seat_68 ?_
              refine lv_iload hx hb dX7_seat_71 (lv_at hl 0 rfl) ?_
              have b19 := h.1
              have h := h.2
              refine sw_ia (n := 24) hx hb hW (Nat.le_of_ble_eq_true rfl) sl_39 b19 dX7_seat_73 ?_
              refine sw_ki (rest := []) (sw_runV (As := [.int (M_39 39 (v14).toNatClampNeg)]) (rest := []) hx hb hml hown hts (ih (M_39 39 (v14).toNatClampNeg) M_39 _ h) cv_X7_seat q_1068 rfl rfl ⟨by dsimp only; omega, by dsimp only; omega⟩ hW (Nat.le_of_ble_eq_true rfl) sl_33 rfl rfl hl.1 rfl (Nat.le_of_ble_eq_true rfl) dX7_seat_74 ⟨(Nat.le_of_ble_eq_true rfl), (Nat.le_of_ble_eq_true rfl)⟩) hW (fun r20 M21 H locs h hW => ?_)
              refine lv_if_eq (tgt := 90) hx hb dX7_seat_77 (by decide) (fun k22 => ?_) (fun k22 => ?_)
              · have h := h.1 k22
                obtain ⟨v23, ev23⟩ : ∃ z : Int32, z = x3_39 + (1 : Int32) := ⟨_, rfl⟩
                have h := h v23 ev23
                refine lv_iinc (v := v23) (lv' := [(3, .int v23), (4, .int v14), (0, .ref (sw_ad g 33)), (1, .int a1), (2, .int x2_2)]) hx hb dX7_seat_90 hl (k := 4) rfl (by rw [ev23]; rfl) (Nat.le_of_ble_eq_true rfl) rfl (fun ls hl => ?_)
                refine lv_goto (tgt := 39) hx hb dX7_seat_93 (by decide) ?_
                exact ih39 _ _ _ _ _ h hW (lv_sub hl [2, 3, 4, 0] rfl)
              · have h := h.2 k22
                refine lv_aload_n hx hb dX7_seat_80 rfl (lv_at hl 1 rfl) ?_
                refine sw_gr (j := 8) (r := 39) hx hb hts hown hW rfl qf_7 (Nat.le_of_ble_eq_true rfl) sl_33 rfl (Nat.le_of_ble_eq_true rfl) q_952 dX7_seat_81 ?_
                refine lv_iload hx hb dX7_seat_84 (lv_at hl 0 rfl) ?_
                refine lv_iload_n hx hb dX7_seat_86 rfl (lv_at hl 2 rfl) ?_
                have b24 := h.1
                have h := h.2
                refine sw_is (n := 24) hx hb hW (Nat.le_of_ble_eq_true rfl) sl_39 b24 dX7_seat_87 (fun H locs hW => ?_)
                obtain ⟨M25, eM25⟩ : ∃ z : sM, z = sw_ms M21 39 (v14).toNatClampNeg a1 := ⟨_, rfl⟩
                rw [← eM25] at hW
                have h := h M25 eM25
                refine lv_iconst (v := 1) hx hb dX7_seat_88 (by decide) ?_
                exact sw_ri hx hb hr hlocks hW (by decide) h dX7_seat_89

def lX7_mostFrom_41 (K41 : sM → Prop) : Nat → Int32 → sM → Prop
  | 0, _, _ => False
  | n41 + 1, x4_41, M_41 => ((6 : Int32) ≤ x4_41 → (K41 M_41)) ∧ (¬ (6 : Int32) ≤ x4_41 → (vp_in x4_41 6 ∧ (∀ M18 : sM, M18 = sw_ms M_41 40 (x4_41).toNatClampNeg (vp_nar .boolean (0 : Int32)) → (∀ v19 : Int32, v19 = x4_41 + (1 : Int32) → ((fun x4_41 M_41 => lX7_mostFrom_41 K41 n41 x4_41 M_41) v19 M18)))))
def lX7_mostFrom_28 (K28 : Int32 → sM → Prop) : Nat → Int32 → Int32 → sM → Prop
  | 0, _, _, _ => False
  | n28 + 1, x2_28, x3_28, M_28 => ((M_28 34 ((0 : Int32)).toNatClampNeg) ≤ x3_28 → (K28 x2_28 M_28)) ∧ (¬ (M_28 34 ((0 : Int32)).toNatClampNeg) ≤ x3_28 → (∃ n41, lX7_mostFrom_41 (fun M_41k => wX7_seat 8 x3_28 M_41k (fun r2 M3 => (r2 = 0 → (∀ v5 : Int32, v5 = (x2_28 + (0 : Int32)) → (∀ v6 : Int32, v6 = x3_28 + (1 : Int32) → ((fun x2_28 x3_28 M_28 => lX7_mostFrom_28 K28 n28 x2_28 x3_28 M_28) v5 v6 M3)))) ∧ (¬ r2 = 0 → (∀ v7 : Int32, v7 = (x2_28 + (1 : Int32)) → (∀ v8 : Int32, v8 = x3_28 + (1 : Int32) → ((fun x2_28 x3_28 M_28 => lX7_mostFrom_28 K28 n28 x2_28 x3_28 M_28) v7 v8 M3)))))) n41 (0 : Int32) M_28))
def lX7_mostFrom_2 (K2 : sM → Prop) : Nat → Int32 → sM → Prop
  | 0, _, _ => False
  | n2 + 1, x2_2, M_2 => ((24 : Int32) ≤ x2_2 → (K2 M_2)) ∧ (¬ (24 : Int32) ≤ x2_2 → (vp_in x2_2 24 ∧ (∀ M41 : sM, M41 = sw_ms M_2 39 (x2_2).toNatClampNeg (-1 : Int32) → (∀ v42 : Int32, v42 = x2_2 + (1 : Int32) → ((fun x2_2 M_2 => lX7_mostFrom_2 K2 n2 x2_2 M_2) v42 M41)))))
theorem cv_X7_mostFrom : sw_cV yX7_mostFrom RX7 cX7_mostFrom 5 (some .int) 1 := ⟨q_1066, q_1389, q_9, q_1067, by decide +kernel⟩
def wX7_mostFrom (a1 : Int32) (M : sM) (Q : Int32 → sM → Prop) : Prop :=
  ∃ n2, lX7_mostFrom_2 (fun M_2k => ∃ n28, lX7_mostFrom_28 (fun x2_28k M_28k => Q x2_28k M_28k) n28 (0 : Int32) a1 M_2k) n2 (0 : Int32) M
set_option maxRecDepth 20000 in
theorem kX7_mostFrom (l : Launch) (g : sG) (o : Nat → Int64) (d : Nat → UInt64) (a1 : Int32) (M : sM) (Q : Int32 → sM → Prop) (h : wX7_mostFrom a1 M Q) : Met l yX7_mostFrom (sw_ws yX7_mostFrom cX7_mostFrom 5 (some .int)) { frames := 14, cells := 0, slots := 0, locals := 329 } (va_Pc [.ref (sw_ad g 33), .int a1] (sw_Pr g o d M)) (va_Qi Q (sw_Po g o d) (sw_A g)) 0 0 (sw_A g) := by
  refine sw_met (by decide) (Nat.le_of_ble_eq_true rfl) ?_
  intro p e s m args below meth c ls hx hb hr hts hown hml hlocks hW hl
  have hown : s.vm.findClass RX7 = some m.cls := hown
  have hl : lv_has ls 5 [(0, .ref (sw_ad g 33)), (1, .int a1)] := hl
  unfold wX7_mostFrom at h
  refine lv_iconst (v := 0) hx hb dX7_mostFrom_0 (by decide) ?_
  refine lv_istore_n (lv' := [(2, .int (0 : Int32)), (0, .ref (sw_ad g 33)), (1, .int a1)]) hx hb dX7_mostFrom_1 rfl hl (Nat.le_of_ble_eq_true rfl) rfl (fun ls hl => ?_)
  obtain ⟨n2, h⟩ := h
  refine sw_lp_iM (hd := 2) (Lf := fun x2_2 M_2 => [(0, .ref (sw_ad g 33)), (1, .int a1), (2, .int x2_2)]) h hW (lv_sub hl [1, 2, 0] rfl) (fun _ _ h => h) (fun n2 ih2 x2_2 M_2 H locs ls h hW hl => ?_)
  rw [lX7_mostFrom_2.eq_2] at h
  refine lv_iload_n hx hb dX7_mostFrom_2 rfl (lv_at hl 2 rfl) ?_
  refine lv_aload_n hx hb dX7_mostFrom_3 rfl (lv_at hl 0 rfl) ?_
  refine sw_gr (j := 8) (r := 39) hx hb hts hown hW rfl qf_7 (Nat.le_of_ble_eq_true rfl) sl_33 rfl (Nat.le_of_ble_eq_true rfl) q_952 dX7_mostFrom_4 ?_
  refine sw_alen (v := 24) (n := 24) (t := 1) hx hb hW (Nat.le_of_ble_eq_true rfl) sl_39 rfl rfl dX7_mostFrom_7 ?_
  refine lv_icmp_ge (tgt := 24) hx hb dX7_mostFrom_8 (by decide) (fun k20 => ?_) (fun k20 => ?_)
  · have h := h.1 k20
    refine lv_iconst (v := 0) hx hb dX7_mostFrom_24 (by decide) ?_
    refine lv_istore_n (lv' := [(2, .int (0 : Int32)), (0, .ref (sw_ad g 33)), (1, .int a1)]) hx hb dX7_mostFrom_25 rfl hl (Nat.le_of_ble_eq_true rfl) rfl (fun ls hl => ?_)
    refine lv_iload_n hx hb dX7_mostFrom_26 rfl (lv_at hl 2 rfl) ?_
    refine lv_istore_n (lv' := [(3, .int a1), (2, .int (0 : Int32)), (0, .ref (sw_ad g 33)), (1, .int a1)]) hx hb dX7_mostFrom_27 rfl hl (Nat.le_of_ble_eq_true rfl) rfl (fun ls hl => ?_)
    obtain ⟨n28, h⟩ := h
    refine sw_lp_iiM (hd := 28) (Lf := fun x2_28 x3_28 M_28 => [(0, .ref (sw_ad g 33)), (2, .int x2_28), (3, .int x3_28)]) h hW (lv_sub hl [2, 1, 0] rfl) (fun _ _ _ h => h) (fun n28 ih28 x2_28 x3_28 M_28 H locs ls h hW hl => ?_)
    rw [lX7_mostFrom_28.eq_2] at h
    refine lv_iload_n hx hb dX7_mostFrom_28 rfl (lv_at hl 2 rfl) ?_
    refine lv_aload_n hx hb dX7_mostFrom_29 rfl (lv_at hl 0 rfl) ?_
    refine sw_gr (j := 0) (r := 34) hx hb hts hown hW rfl qf_7 (Nat.le_of_ble_eq_true rfl) sl_33 rfl (Nat.le_of_ble_eq_true rfl) q_944 dX7_mostFrom_30 ?_
    refine lv_iconst (v := 0) hx hb dX7_mostFrom_33 (by decide) ?_
    refine sw_ia (n := 228) hx hb hW (Nat.le_of_ble_eq_true rfl) sl_34 (vp_in_iff.mpr (by decide)) dX7_mostFrom_34 ?_
    refine lv_icmp_ge (tgt := 84) hx hb dX7_mostFrom_35 (by decide) (fun k21 => ?_) (fun k21 => ?_)
    · have h := h.1 k21
      refine lv_iload_n hx hb dX7_mostFrom_84 rfl (lv_at hl 1 rfl) ?_
      exact sw_ri hx hb hr hlocks hW rfl h dX7_mostFrom_85
    · have h := h.2 k21
      refine lv_iconst (v := 0) hx hb dX7_mostFrom_38 (by decide) ?_
      refine lv_istore (lv' := [(4, .int (0 : Int32)), (0, .ref (sw_ad g 33)), (2, .int x2_28), (3, .int x3_28)]) hx hb dX7_mostFrom_39 hl (Nat.le_of_ble_eq_true rfl) rfl (fun ls hl => ?_)
      obtain ⟨n41, h⟩ := h
      refine sw_lp_iM (hd := 41) (Lf := fun x4_41 M_41 => [(0, .ref (sw_ad g 33)), (2, .int x2_28), (3, .int x3_28), (4, .int x4_41)]) h hW (lv_sub hl [1, 2, 3, 0] rfl) (fun _ _ h => h) (fun n41 ih41 x4_41 M_41 H locs ls h hW hl => ?_)
      rw [lX7_mostFrom_41.eq_2] at h
      refine lv_iload hx hb dX7_mostFrom_41 (lv_at hl 3 rfl) ?_
      refine lv_bipush (v := 6) hx hb dX7_mostFrom_43 (by decide) ?_
      refine lv_icmp_ge (tgt := 62) hx hb dX7_mostFrom_45 (by decide) (fun k29 => ?_) (fun k29 => ?_)
      · have h := h.1 k29
        refine lv_iload_n hx hb dX7_mostFrom_62 rfl (lv_at hl 1 rfl) ?_
        refine lv_aload_n hx hb dX7_mostFrom_63 rfl (lv_at hl 0 rfl) ?_
        refine lv_iload_n hx hb dX7_mostFrom_64 rfl (lv_at hl 2 rfl) ?_
        refine sw_ki (rest := [.int x2_28]) (sw_runV (As := [.int x3_28]) (rest := [.int x2_28]) hx hb hml hown hts (kX7_seat l g o d 8 x3_28 M_41 _ h) cv_X7_seat q_1068 rfl rfl ⟨(Nat.le_of_ble_eq_true rfl), (Nat.le_of_ble_eq_true rfl)⟩ hW (Nat.le_of_ble_eq_true rfl) sl_33 rfl rfl hl.1 rfl (Nat.le_of_ble_eq_true rfl) dX7_mostFrom_65 ⟨(Nat.le_of_ble_eq_true rfl), (Nat.le_of_ble_eq_true rfl)⟩) hW (fun r30 M31 H locs h hW => ?_)
        refine lv_if_eq (tgt := 75) hx hb dX7_mostFrom_68 (by decide) (fun k32 => ?_) (fun k32 => ?_)
        · have h := h.1 k32
          refine lv_iconst (v := 0) hx hb dX7_mostFrom_75 (by decide) ?_
          refine lv_iadd hx hb dX7_mostFrom_76 ?_
          refine lv_topi (fun v33 ev33 => ?_)
          have h := h v33 ev33
          refine lv_istore_n (lv' := [(2, .int v33), (0, .ref (sw_ad g 33)), (3, .int x3_28), (4, .int x4_41)]) hx hb dX7_mostFrom_77 rfl hl (Nat.le_of_ble_eq_true rfl) rfl (fun ls hl => ?_)
          obtain ⟨v34, ev34⟩ : ∃ z : Int32, z = x3_28 + (1 : Int32) := ⟨_, rfl⟩
          have h := h v34 ev34
          refine lv_iinc (v := v34) (lv' := [(3, .int v34), (2, .int v33), (0, .ref (sw_ad g 33)), (4, .int x4_41)]) hx hb dX7_mostFrom_78 hl (k := 2) rfl (by rw [ev34]; rfl) (Nat.le_of_ble_eq_true rfl) rfl (fun ls hl => ?_)
          refine lv_goto (tgt := 28) hx hb dX7_mostFrom_81 (by decide) ?_
          exact ih28 _ _ _ _ _ _ h hW (lv_sub hl [2, 1, 0] rfl)
        · have h := h.2 k32
          refine lv_iconst (v := 1) hx hb dX7_mostFrom_71 (by decide) ?_
          refine lv_goto (tgt := 76) hx hb dX7_mostFrom_72 (by decide) ?_
          refine lv_iadd hx hb dX7_mostFrom_76 ?_
          refine lv_topi (fun v35 ev35 => ?_)
          have h := h v35 ev35
          refine lv_istore_n (lv' := [(2, .int v35), (0, .ref (sw_ad g 33)), (3, .int x3_28), (4, .int x4_41)]) hx hb dX7_mostFrom_77 rfl hl (Nat.le_of_ble_eq_true rfl) rfl (fun ls hl => ?_)
          obtain ⟨v36, ev36⟩ : ∃ z : Int32, z = x3_28 + (1 : Int32) := ⟨_, rfl⟩
          have h := h v36 ev36
          refine lv_iinc (v := v36) (lv' := [(3, .int v36), (2, .int v35), (0, .ref (sw_ad g 33)), (4, .int x4_41)]) hx hb dX7_mostFrom_78 hl (k := 2) rfl (by rw [ev36]; rfl) (Nat.le_of_ble_eq_true rfl) rfl (fun ls hl => ?_)
          refine lv_goto (tgt := 28) hx hb dX7_mostFrom_81 (by decide) ?_
          exact ih28 _ _ _ _ _ _ h hW (lv_sub hl [2, 1, 0] rfl)
      · have h := h.2 k29
        refine lv_aload_n hx hb dX7_mostFrom_48 rfl (lv_at hl 0 rfl) ?_
        refine sw_gr (j := 9) (r := 40) hx hb hts hown hW rfl qf_7 (Nat.le_of_ble_eq_true rfl) sl_33 rfl (Nat.le_of_ble_eq_true rfl) q_953 dX7_mostFrom_49 ?_
        refine lv_iload hx hb dX7_mostFrom_52 (lv_at hl 3 rfl) ?_
        refine lv_iconst (v := 0) hx hb dX7_mostFrom_54 (by decide) ?_
        have b37 := h.1
        have h := h.2
        refine sw_zs (n := 6) hx hb hW (Nat.le_of_ble_eq_true rfl) sl_40 b37 dX7_mostFrom_55 (fun H locs hW => ?_)
        obtain ⟨M38, eM38⟩ : ∃ z : sM, z = sw_ms M_41 40 (x4_41).toNatClampNeg (vp_nar .boolean (0 : Int32)) := ⟨_, rfl⟩
        rw [← eM38] at hW
        have h := h M38 eM38
        obtain ⟨v39, ev39⟩ : ∃ z : Int32, z = x4_41 + (1 : Int32) := ⟨_, rfl⟩
        have h := h v39 ev39
        refine lv_iinc (v := v39) (lv' := [(4, .int v39), (0, .ref (sw_ad g 33)), (2, .int x2_28), (3, .int x3_28)]) hx hb dX7_mostFrom_56 hl (k := 3) rfl (by rw [ev39]; rfl) (Nat.le_of_ble_eq_true rfl) rfl (fun ls hl => ?_)
        refine lv_goto (tgt := 41) hx hb dX7_mostFrom_59 (by decide) ?_
        exact ih41 _ _ _ _ _ h hW (lv_sub hl [1, 2, 3, 0] rfl)
  · have h := h.2 k20
    refine lv_aload_n hx hb dX7_mostFrom_11 rfl (lv_at hl 0 rfl) ?_
    refine sw_gr (j := 8) (r := 39) hx hb hts hown hW rfl qf_7 (Nat.le_of_ble_eq_true rfl) sl_33 rfl (Nat.le_of_ble_eq_true rfl) q_952 dX7_mostFrom_12 ?_
    refine lv_iload_n hx hb dX7_mostFrom_15 rfl (lv_at hl 2 rfl) ?_
    refine lv_iconst (v := -1) hx hb dX7_mostFrom_16 (by decide) ?_
    have b40 := h.1
    have h := h.2
    refine sw_is (n := 24) hx hb hW (Nat.le_of_ble_eq_true rfl) sl_39 b40 dX7_mostFrom_17 (fun H locs hW => ?_)
    obtain ⟨M41, eM41⟩ : ∃ z : sM, z = sw_ms M_2 39 (x2_2).toNatClampNeg (-1 : Int32) := ⟨_, rfl⟩
    rw [← eM41] at hW
    have h := h M41 eM41
    obtain ⟨v42, ev42⟩ : ∃ z : Int32, z = x2_2 + (1 : Int32) := ⟨_, rfl⟩
    have h := h v42 ev42
    refine lv_iinc (v := v42) (lv' := [(2, .int v42), (0, .ref (sw_ad g 33)), (1, .int a1)]) hx hb dX7_mostFrom_18 hl (k := 2) rfl (by rw [ev42]; rfl) (Nat.le_of_ble_eq_true rfl) rfl (fun ls hl => ?_)
    refine lv_goto (tgt := 2) hx hb dX7_mostFrom_21 (by decide) ?_
    exact ih2 _ _ _ _ _ h hW (lv_sub hl [1, 2, 0] rfl)

def lX7_countsSeats_2 (K2 : sM → Prop) : Nat → Int32 → sM → Prop
  | 0, _, _ => False
  | n2 + 1, x1_2, M_2 => ((M_2 34 ((1 : Int32)).toNatClampNeg) ≤ x1_2 → (K2 M_2)) ∧ (¬ (M_2 34 ((1 : Int32)).toNatClampNeg) ≤ x1_2 → (wX7_examiner x1_2 (2 : Int32) M_2 (fun r2 => wX7_loadOf x1_2 M_2 (fun r3 => vp_in x1_2 6 ∧ (∀ M5 : sM, M5 = sw_ms M_2 38 (x1_2).toNatClampNeg (r2 - r3) → (∀ v6 : Int32, v6 = x1_2 + (1 : Int32) → ((fun x1_2 M_2 => lX7_countsSeats_2 K2 n2 x1_2 M_2) v6 M5)))))))
theorem cv_X7_countsSeats : sw_cV yX7_countsSeats RX7 cX7_countsSeats 2 none 0 := ⟨q_1063, q_1388, q_9, q_1064, by decide +kernel⟩
def wX7_countsSeats  (M : sM) (Q : sM → Prop) : Prop :=
  ∃ n2, lX7_countsSeats_2 (fun M_2k => Q M_2k) n2 (0 : Int32) M
set_option maxRecDepth 20000 in
theorem kX7_countsSeats (l : Launch) (g : sG) (o : Nat → Int64) (d : Nat → UInt64)  (M : sM) (Q : sM → Prop) (h : wX7_countsSeats  M Q) : Met l yX7_countsSeats (sw_ws yX7_countsSeats cX7_countsSeats 2 none) { frames := 2, cells := 0, slots := 0, locals := 46 } (va_Pc [.ref (sw_ad g 33)] (sw_Pr g o d M)) (va_Qv Q (sw_Po g o d) (sw_A g)) 0 0 (sw_A g) := by
  refine sw_met (by decide) (Nat.le_of_ble_eq_true rfl) ?_
  intro p e s m args below meth c ls hx hb hr hts hown hml hlocks hW hl
  have hown : s.vm.findClass RX7 = some m.cls := hown
  have hl : lv_has ls 2 [(0, .ref (sw_ad g 33))] := hl
  unfold wX7_countsSeats at h
  refine lv_iconst (v := 0) hx hb dX7_countsSeats_0 (by decide) ?_
  refine lv_istore_n (lv' := [(1, .int (0 : Int32)), (0, .ref (sw_ad g 33))]) hx hb dX7_countsSeats_1 rfl hl (Nat.le_of_ble_eq_true rfl) rfl (fun ls hl => ?_)
  obtain ⟨n2, h⟩ := h
  refine sw_lp_iM (hd := 2) (Lf := fun x1_2 M_2 => [(0, .ref (sw_ad g 33)), (1, .int x1_2)]) h hW (lv_sub hl [1, 0] rfl) (fun _ _ h => h) (fun n2 ih2 x1_2 M_2 H locs ls h hW hl => ?_)
  rw [lX7_countsSeats_2.eq_2] at h
  refine lv_iload_n hx hb dX7_countsSeats_2 rfl (lv_at hl 1 rfl) ?_
  refine lv_aload_n hx hb dX7_countsSeats_3 rfl (lv_at hl 0 rfl) ?_
  refine sw_gr (j := 0) (r := 34) hx hb hts hown hW rfl qf_7 (Nat.le_of_ble_eq_true rfl) sl_33 rfl (Nat.le_of_ble_eq_true rfl) q_944 dX7_countsSeats_4 ?_
  refine lv_iconst (v := 1) hx hb dX7_countsSeats_7 (by decide) ?_
  refine sw_ia (n := 228) hx hb hW (Nat.le_of_ble_eq_true rfl) sl_34 (vp_in_iff.mpr (by decide)) dX7_countsSeats_8 ?_
  refine lv_icmp_ge (tgt := 36) hx hb dX7_countsSeats_9 (by decide) (fun k1 => ?_) (fun k1 => ?_)
  · have h := h.1 k1
    exact sw_rv hx hb hr hlocks hW h dX7_countsSeats_36
  · have h := h.2 k1
    refine lv_aload_n hx hb dX7_countsSeats_12 rfl (lv_at hl 0 rfl) ?_
    refine sw_gr (j := 7) (r := 38) hx hb hts hown hW rfl qf_7 (Nat.le_of_ble_eq_true rfl) sl_33 rfl (Nat.le_of_ble_eq_true rfl) q_951 dX7_countsSeats_13 ?_
    refine lv_iload_n hx hb dX7_countsSeats_16 rfl (lv_at hl 1 rfl) ?_
    refine lv_aload_n hx hb dX7_countsSeats_17 rfl (lv_at hl 0 rfl) ?_
    refine lv_iload_n hx hb dX7_countsSeats_18 rfl (lv_at hl 1 rfl) ?_
    refine lv_iconst (v := 2) hx hb dX7_countsSeats_19 (by decide) ?_
    refine sw_ki (rest := [.int x1_2, .ref (sw_ad g 38)]) (sw_runV (As := [.int x1_2, .int (2 : Int32)]) (rest := [.int x1_2, .ref (sw_ad g 38)]) hx hb hml hown hts (kX7_examiner l g o d x1_2 (2 : Int32) M_2 _ h) cv_X7_examiner q_1030 rfl rfl ⟨(Nat.le_of_ble_eq_true rfl), (Nat.le_of_ble_eq_true rfl)⟩ hW (Nat.le_of_ble_eq_true rfl) sl_33 rfl rfl hl.1 rfl (Nat.le_of_ble_eq_true rfl) dX7_countsSeats_20 ⟨(Nat.le_of_ble_eq_true rfl), (Nat.le_of_ble_eq_true rfl)⟩) hW (fun r2 M8 H locs h hW => ?_)
    obtain ⟨h, eM8⟩ := h
    rw [eM8] at hW
    refine lv_aload_n hx hb dX7_countsSeats_23 rfl (lv_at hl 0 rfl) ?_
    refine lv_iload_n hx hb dX7_countsSeats_24 rfl (lv_at hl 1 rfl) ?_
    refine sw_ki (rest := [.int r2, .int x1_2, .ref (sw_ad g 38)]) (sw_runV (As := [.int x1_2]) (rest := [.int r2, .int x1_2, .ref (sw_ad g 38)]) hx hb hml hown hts (kX7_loadOf l g o d x1_2 M_2 _ h) cv_X7_loadOf q_1046 rfl rfl ⟨(Nat.le_of_ble_eq_true rfl), (Nat.le_of_ble_eq_true rfl)⟩ hW (Nat.le_of_ble_eq_true rfl) sl_33 rfl rfl hl.1 rfl (Nat.le_of_ble_eq_true rfl) dX7_countsSeats_25 ⟨(Nat.le_of_ble_eq_true rfl), (Nat.le_of_ble_eq_true rfl)⟩) hW (fun r3 M7 H locs h hW => ?_)
    obtain ⟨h, eM7⟩ := h
    rw [eM7] at hW
    refine lv_isub hx hb dX7_countsSeats_28 ?_
    have b4 := h.1
    have h := h.2
    refine sw_is (n := 6) hx hb hW (Nat.le_of_ble_eq_true rfl) sl_38 b4 dX7_countsSeats_29 (fun H locs hW => ?_)
    obtain ⟨M5, eM5⟩ : ∃ z : sM, z = sw_ms M_2 38 (x1_2).toNatClampNeg (r2 - r3) := ⟨_, rfl⟩
    rw [← eM5] at hW
    have h := h M5 eM5
    obtain ⟨v6, ev6⟩ : ∃ z : Int32, z = x1_2 + (1 : Int32) := ⟨_, rfl⟩
    have h := h v6 ev6
    refine lv_iinc (v := v6) (lv' := [(1, .int v6), (0, .ref (sw_ad g 33))]) hx hb dX7_countsSeats_30 hl (k := 1) rfl (by rw [ev6]; rfl) (Nat.le_of_ble_eq_true rfl) rfl (fun ls hl => ?_)
    refine lv_goto (tgt := 2) hx hb dX7_countsSeats_33 (by decide) ?_
    exact ih2 _ _ _ _ _ h hW (lv_sub hl [1, 0] rfl)

def jX7_plans_133 (x2_34 : Int32) (x4_34 : Int32) (t0_103 : Int32) (M25 : sM) (N34 : Int32 → Int32 → sM → Prop) (t0_133 : Int32) : Prop :=
  ∀ v26 : Int32, v26 = (x2_34 - t0_133) → (vp_in x4_34 6 ∧ ((t0_103 = 0 → (vp_in x4_34 6 ∧ (∀ M30 : sM, M30 = sw_ms M25 38 (x4_34).toNatClampNeg ((M25 38 (x4_34).toNatClampNeg) + (1 : Int32)) → (∀ v31 : Int32, v31 = x4_34 + (1 : Int32) → (N34 v26 v31 M30))))) ∧ (¬ t0_103 = 0 → (vp_in x4_34 6 ∧ (∀ M33 : sM, M33 = sw_ms M25 38 (x4_34).toNatClampNeg ((M25 38 (x4_34).toNatClampNeg) + (0 : Int32)) → (∀ v34 : Int32, v34 = x4_34 + (1 : Int32) → (N34 v26 v34 M33)))))))
def jX7_plans_121 (x3_14 : Int32) (x2_34 : Int32) (x4_34 : Int32) (M23 : sM) (t0_103 : Int32) (N34 : Int32 → Int32 → sM → Prop) (t0_121 : Int32) : Prop :=
  vp_in x3_14 8 ∧ (∀ M25 : sM, M25 = sw_ms M23 41 (x3_14).toNatClampNeg t0_121 → ((t0_103 = 0 → (jX7_plans_133 x2_34 x4_34 t0_103 M25 N34 (0 : Int32))) ∧ (¬ t0_103 = 0 → (jX7_plans_133 x2_34 x4_34 t0_103 M25 N34 (1 : Int32)))))
def jX7_plans_103 (x3_14 : Int32) (x2_34 : Int32) (x4_34 : Int32) (M23 : sM) (N34 : Int32 → Int32 → sM → Prop) (t0_103 : Int32) : Prop :=
  (t0_103 = 0 → (jX7_plans_121 x3_14 x2_34 x4_34 M23 t0_103 N34 (-1 : Int32))) ∧ (¬ t0_103 = 0 → (jX7_plans_121 x3_14 x2_34 x4_34 M23 t0_103 N34 x4_34))
def lX7_plans_34 (x3_14 : Int32) (K34 : Int32 → sM → Prop) : Nat → Int32 → Int32 → sM → Prop
  | 0, _, _, _ => False
  | n34 + 1, x2_34, x4_34, M_34 => ((M_34 34 ((1 : Int32)).toNatClampNeg) ≤ x4_34 → (K34 x2_34 M_34)) ∧ (¬ (M_34 34 ((1 : Int32)).toNatClampNeg) ≤ x4_34 → (vp_in x3_14 8 ∧ ((0 ≤ (M_34 41 (x3_14).toNatClampNeg) → (K34 x2_34 M_34)) ∧ (¬ 0 ≤ (M_34 41 (x3_14).toNatClampNeg) → (vp_in x4_34 6 ∧ (((M_34 38 (x4_34).toNatClampNeg) ≤ 0 → (∀ v15 : Int32, v15 = x4_34 + (1 : Int32) → ((fun x2_34 x4_34 M_34 => lX7_plans_34 x3_14 K34 n34 x2_34 x4_34 M_34) x2_34 v15 M_34))) ∧ (¬ (M_34 38 (x4_34).toNatClampNeg) ≤ 0 → (wX7_canGet x4_34 x3_14 M_34 (fun r16 => (r16 = 0 → (∀ v18 : Int32, v18 = x4_34 + (1 : Int32) → ((fun x2_34 x4_34 M_34 => lX7_plans_34 x3_14 K34 n34 x2_34 x4_34 M_34) x2_34 v18 M_34))) ∧ (¬ r16 = 0 → (vp_in x4_34 6 ∧ (vp_in x4_34 6 ∧ (∀ M21 : sM, M21 = sw_ms M_34 38 (x4_34).toNatClampNeg ((M_34 38 (x4_34).toNatClampNeg) - (1 : Int32)) → (wX7_mostFrom (x3_14 + (1 : Int32)) M21 (fun r22 M23 => (((1 : Int32) + r22) = x2_34 → (jX7_plans_103 x3_14 x2_34 x4_34 M23 (fun x2_34 x4_34 M_34 => lX7_plans_34 x3_14 K34 n34 x2_34 x4_34 M_34) (1 : Int32))) ∧ (¬ ((1 : Int32) + r22) = x2_34 → (jX7_plans_103 x3_14 x2_34 x4_34 M23 (fun x2_34 x4_34 M_34 => lX7_plans_34 x3_14 K34 n34 x2_34 x4_34 M_34) (0 : Int32))))))))))))))))))
def lX7_plans_14 (K14 : sM → Prop) : Nat → Int32 → Int32 → sM → Prop
  | 0, _, _, _ => False
  | n14 + 1, x2_14, x3_14, M_14 => ((M_14 34 ((0 : Int32)).toNatClampNeg) ≤ x3_14 → (K14 M_14)) ∧ (¬ (M_14 34 ((0 : Int32)).toNatClampNeg) ≤ x3_14 → (vp_in x3_14 8 ∧ (∀ M6 : sM, M6 = sw_ms M_14 41 (x3_14).toNatClampNeg (-1 : Int32) → (∃ n34, lX7_plans_34 x3_14 (fun x2_34k M_34k => ∀ v7 : Int32, v7 = x3_14 + (1 : Int32) → ((fun x2_14 x3_14 M_14 => lX7_plans_14 K14 n14 x2_14 x3_14 M_14) x2_34k v7 M_34k)) n34 x2_14 (0 : Int32) M6))))
theorem cv_X7_plans : sw_cV yX7_plans RX7 cX7_plans 6 (some .int) 0 := ⟨q_1060, q_1387, q_9, q_1061, by decide +kernel⟩
def wX7_plans  (M : sM) (Q : Int32 → sM → Prop) : Prop :=
  wX7_countsSeats M (fun M1 => wX7_mostFrom (0 : Int32) M1 (fun r2 M3 => ∃ n14, lX7_plans_14 (fun M_14k => Q r2 M_14k) n14 r2 (0 : Int32) M3))
set_option maxRecDepth 20000 in
theorem kX7_plans (l : Launch) (g : sG) (o : Nat → Int64) (d : Nat → UInt64)  (M : sM) (Q : Int32 → sM → Prop) (h : wX7_plans  M Q) : Met l yX7_plans (sw_ws yX7_plans cX7_plans 6 (some .int)) { frames := 15, cells := 0, slots := 0, locals := 353 } (va_Pc [.ref (sw_ad g 33)] (sw_Pr g o d M)) (va_Qi Q (sw_Po g o d) (sw_A g)) 0 0 (sw_A g) := by
  refine sw_met (by decide) (Nat.le_of_ble_eq_true rfl) ?_
  intro p e s m args below meth c ls hx hb hr hts hown hml hlocks hW hl
  have hown : s.vm.findClass RX7 = some m.cls := hown
  have hl : lv_has ls 6 [(0, .ref (sw_ad g 33))] := hl
  unfold wX7_plans at h
  refine lv_aload_n hx hb dX7_plans_0 rfl (lv_at hl 0 rfl) ?_
  refine sw_kv (rest := []) (sw_runV (As := []) (rest := []) hx hb hml hown hts (kX7_countsSeats l g o d M _ h) cv_X7_countsSeats q_1062 rfl rfl ⟨(Nat.le_of_ble_eq_true rfl), (Nat.le_of_ble_eq_true rfl)⟩ hW (Nat.le_of_ble_eq_true rfl) sl_33 rfl rfl hl.1 rfl (Nat.le_of_ble_eq_true rfl) dX7_plans_1 ⟨(Nat.le_of_ble_eq_true rfl), (Nat.le_of_ble_eq_true rfl)⟩) hW (fun  M1 H locs h hW => ?_)
  refine lv_aload_n hx hb dX7_plans_4 rfl (lv_at hl 0 rfl) ?_
  refine lv_iconst (v := 0) hx hb dX7_plans_5 (by decide) ?_
  refine sw_ki (rest := []) (sw_runV (As := [.int (0 : Int32)]) (rest := []) hx hb hml hown hts (kX7_mostFrom l g o d (0 : Int32) M1 _ h) cv_X7_mostFrom q_1065 rfl rfl ⟨(Nat.le_of_ble_eq_true rfl), (Nat.le_of_ble_eq_true rfl)⟩ hW (Nat.le_of_ble_eq_true rfl) sl_33 rfl rfl hl.1 rfl (Nat.le_of_ble_eq_true rfl) dX7_plans_6 ⟨(Nat.le_of_ble_eq_true rfl), (Nat.le_of_ble_eq_true rfl)⟩) hW (fun r2 M3 H locs h hW => ?_)
  refine lv_istore_n (lv' := [(1, .int r2), (0, .ref (sw_ad g 33))]) hx hb dX7_plans_9 rfl hl (Nat.le_of_ble_eq_true rfl) rfl (fun ls hl => ?_)
  refine lv_iload_n hx hb dX7_plans_10 rfl (lv_at hl 0 rfl) ?_
  refine lv_istore_n (lv' := [(2, .int r2), (1, .int r2), (0, .ref (sw_ad g 33))]) hx hb dX7_plans_11 rfl hl (Nat.le_of_ble_eq_true rfl) rfl (fun ls hl => ?_)
  refine lv_iconst (v := 0) hx hb dX7_plans_12 (by decide) ?_
  refine lv_istore_n (lv' := [(3, .int (0 : Int32)), (2, .int r2), (1, .int r2), (0, .ref (sw_ad g 33))]) hx hb dX7_plans_13 rfl hl (Nat.le_of_ble_eq_true rfl) rfl (fun ls hl => ?_)
  obtain ⟨n14, h⟩ := h
  refine sw_lp_iiM (hd := 14) (Lf := fun x2_14 x3_14 M_14 => [(0, .ref (sw_ad g 33)), (1, .int r2), (2, .int x2_14), (3, .int x3_14)]) h hW (lv_sub hl [3, 2, 1, 0] rfl) (fun _ _ _ h => h) (fun n14 ih14 x2_14 x3_14 M_14 H locs ls h hW hl => ?_)
  rw [lX7_plans_14.eq_2] at h
  refine lv_iload_n hx hb dX7_plans_14 rfl (lv_at hl 3 rfl) ?_
  refine lv_aload_n hx hb dX7_plans_15 rfl (lv_at hl 0 rfl) ?_
  refine sw_gr (j := 0) (r := 34) hx hb hts hown hW rfl qf_7 (Nat.le_of_ble_eq_true rfl) sl_33 rfl (Nat.le_of_ble_eq_true rfl) q_944 dX7_plans_16 ?_
  refine lv_iconst (v := 0) hx hb dX7_plans_19 (by decide) ?_
  refine sw_ia (n := 228) hx hb hW (Nat.le_of_ble_eq_true rfl) sl_34 (vp_in_iff.mpr (by decide)) dX7_plans_20 ?_
  refine lv_icmp_ge (tgt := 167) hx hb dX7_plans_21 (by decide) (fun k4 => ?_) (fun k4 => ?_)
  · have h := h.1 k4
    refine lv_iload_n hx hb dX7_plans_167 rfl (lv_at hl 1 rfl) ?_
    exact sw_ri hx hb hr hlocks hW rfl h dX7_plans_168
  · have h := h.2 k4
    refine lv_aload_n hx hb dX7_plans_24 rfl (lv_at hl 0 rfl) ?_
    refine sw_gr (j := 10) (r := 41) hx hb hts hown hW rfl qf_7 (Nat.le_of_ble_eq_true rfl) sl_33 rfl (Nat.le_of_ble_eq_true rfl) q_954 dX7_plans_25 ?_
    refine lv_iload_n hx hb dX7_plans_28 rfl (lv_at hl 3 rfl) ?_
    refine lv_iconst (v := -1) hx hb dX7_plans_29 (by decide) ?_
    have b5 := h.1
    have h := h.2
    refine sw_is (n := 8) hx hb hW (Nat.le_of_ble_eq_true rfl) sl_41 b5 dX7_plans_30 (fun H locs hW => ?_)
    obtain ⟨M6, eM6⟩ : ∃ z : sM, z = sw_ms M_14 41 (x3_14).toNatClampNeg (-1 : Int32) := ⟨_, rfl⟩
    rw [← eM6] at hW
    have h := h M6 eM6
    refine lv_iconst (v := 0) hx hb dX7_plans_31 (by decide) ?_
    refine lv_istore (lv' := [(4, .int (0 : Int32)), (0, .ref (sw_ad g 33)), (1, .int r2), (2, .int x2_14), (3, .int x3_14)]) hx hb dX7_plans_32 hl (Nat.le_of_ble_eq_true rfl) rfl (fun ls hl => ?_)
    obtain ⟨n34, h⟩ := h
    refine sw_lp_iiM (hd := 34) (Lf := fun x2_34 x4_34 M_34 => [(0, .ref (sw_ad g 33)), (1, .int r2), (2, .int x2_34), (3, .int x3_14), (4, .int x4_34)]) h hW (lv_sub hl [1, 2, 3, 4, 0] rfl) (fun _ _ _ h => h) (fun n34 ih34 x2_34 x4_34 M_34 H locs ls h hW hl => ?_)
    rw [lX7_plans_34.eq_2] at h
    refine lv_iload hx hb dX7_plans_34 (lv_at hl 4 rfl) ?_
    refine lv_aload_n hx hb dX7_plans_36 rfl (lv_at hl 0 rfl) ?_
    refine sw_gr (j := 0) (r := 34) hx hb hts hown hW rfl qf_7 (Nat.le_of_ble_eq_true rfl) sl_33 rfl (Nat.le_of_ble_eq_true rfl) q_944 dX7_plans_37 ?_
    refine lv_iconst (v := 1) hx hb dX7_plans_40 (by decide) ?_
    refine sw_ia (n := 228) hx hb hW (Nat.le_of_ble_eq_true rfl) sl_34 (vp_in_iff.mpr (by decide)) dX7_plans_41 ?_
    refine lv_icmp_ge (tgt := 161) hx hb dX7_plans_42 (by decide) (fun k8 => ?_) (fun k8 => ?_)
    · have h := h.1 k8
      obtain ⟨v9, ev9⟩ : ∃ z : Int32, z = x3_14 + (1 : Int32) := ⟨_, rfl⟩
      have h := h v9 ev9
      refine lv_iinc (v := v9) (lv' := [(3, .int v9), (0, .ref (sw_ad g 33)), (1, .int r2), (2, .int x2_34), (4, .int x4_34)]) hx hb dX7_plans_161 hl (k := 3) rfl (by rw [ev9]; rfl) (Nat.le_of_ble_eq_true rfl) rfl (fun ls hl => ?_)
      refine lv_goto (tgt := 14) hx hb dX7_plans_164 (by decide) ?_
      exact ih14 _ _ _ _ _ _ h hW (lv_sub hl [1, 2, 3, 0] rfl)
    · have h := h.2 k8
      refine lv_aload_n hx hb dX7_plans_45 rfl (lv_at hl 0 rfl) ?_
      refine sw_gr (j := 10) (r := 41) hx hb hts hown hW rfl qf_7 (Nat.le_of_ble_eq_true rfl) sl_33 rfl (Nat.le_of_ble_eq_true rfl) q_954 dX7_plans_46 ?_
      refine lv_iload_n hx hb dX7_plans_49 rfl (lv_at hl 3 rfl) ?_
      have b10 := h.1
      have h := h.2
      refine sw_ia (n := 8) hx hb hW (Nat.le_of_ble_eq_true rfl) sl_41 b10 dX7_plans_50 ?_
      refine lv_if_ge (tgt := 161) hx hb dX7_plans_51 (by decide) (fun k11 => ?_) (fun k11 => ?_)
      · have h := h.1 k11
        obtain ⟨v12, ev12⟩ : ∃ z : Int32, z = x3_14 + (1 : Int32) := ⟨_, rfl⟩
        have h := h v12 ev12
        refine lv_iinc (v := v12) (lv' := [(3, .int v12), (0, .ref (sw_ad g 33)), (1, .int r2), (2, .int x2_34), (4, .int x4_34)]) hx hb dX7_plans_161 hl (k := 3) rfl (by rw [ev12]; rfl) (Nat.le_of_ble_eq_true rfl) rfl (fun ls hl => ?_)
        refine lv_goto (tgt := 14) hx hb dX7_plans_164 (by decide) ?_
        exact ih14 _ _ _ _ _ _ h hW (lv_sub hl [1, 2, 3, 0] rfl)
      · have h := h.2 k11
        refine lv_aload_n hx hb dX7_plans_54 rfl (lv_at hl 0 rfl) ?_
        refine sw_gr (j := 7) (r := 38) hx hb hts hown hW rfl qf_7 (Nat.le_of_ble_eq_true rfl) sl_33 rfl (Nat.le_of_ble_eq_true rfl) q_951 dX7_plans_55 ?_
        refine lv_iload hx hb dX7_plans_58 (lv_at hl 4 rfl) ?_
        have b13 := h.1
        have h := h.2
        refine sw_ia (n := 6) hx hb hW (Nat.le_of_ble_eq_true rfl) sl_38 b13 dX7_plans_60 ?_
        refine lv_if_le (tgt := 155) hx hb dX7_plans_61 (by decide) (fun k14 => ?_) (fun k14 => ?_)
        · have h := h.1 k14
          obtain ⟨v15, ev15⟩ : ∃ z : Int32, z = x4_34 + (1 : Int32) := ⟨_, rfl⟩
          have h := h v15 ev15
          refine lv_iinc (v := v15) (lv' := [(4, .int v15), (0, .ref (sw_ad g 33)), (1, .int r2), (2, .int x2_34), (3, .int x3_14)]) hx hb dX7_plans_155 hl (k := 4) rfl (by rw [ev15]; rfl) (Nat.le_of_ble_eq_true rfl) rfl (fun ls hl => ?_)
          refine lv_goto (tgt := 34) hx hb dX7_plans_158 (by decide) ?_
          exact ih34 _ _ _ _ _ _ h hW (lv_sub hl [1, 2, 3, 4, 0] rfl)
        · have h := h.2 k14
          refine lv_aload_n hx hb dX7_plans_64 rfl (lv_at hl 0 rfl) ?_
          refine lv_iload hx hb dX7_plans_65 (lv_at hl 4 rfl) ?_
          refine lv_iload_n hx hb dX7_plans_67 rfl (lv_at hl 3 rfl) ?_
          refine sw_ki (rest := []) (sw_runV (As := [.int x4_34, .int x3_14]) (rest := []) hx hb hml hown hts (kX7_canGet l g o d x4_34 x3_14 M_34 _ h) cv_X7_canGet q_1071 rfl rfl ⟨(Nat.le_of_ble_eq_true rfl), (Nat.le_of_ble_eq_true rfl)⟩ hW (Nat.le_of_ble_eq_true rfl) sl_33 rfl rfl hl.1 rfl (Nat.le_of_ble_eq_true rfl) dX7_plans_68 ⟨(Nat.le_of_ble_eq_true rfl), (Nat.le_of_ble_eq_true rfl)⟩) hW (fun r16 M38 H locs h hW => ?_)
          obtain ⟨h, eM38⟩ := h
          rw [eM38] at hW
          refine lv_if_eq (tgt := 155) hx hb dX7_plans_71 (by decide) (fun k17 => ?_) (fun k17 => ?_)
          · have h := h.1 k17
            obtain ⟨v18, ev18⟩ : ∃ z : Int32, z = x4_34 + (1 : Int32) := ⟨_, rfl⟩
            have h := h v18 ev18
            refine lv_iinc (v := v18) (lv' := [(4, .int v18), (0, .ref (sw_ad g 33)), (1, .int r2), (2, .int x2_34), (3, .int x3_14)]) hx hb dX7_plans_155 hl (k := 4) rfl (by rw [ev18]; rfl) (Nat.le_of_ble_eq_true rfl) rfl (fun ls hl => ?_)
            refine lv_goto (tgt := 34) hx hb dX7_plans_158 (by decide) ?_
            exact ih34 _ _ _ _ _ _ h hW (lv_sub hl [1, 2, 3, 4, 0] rfl)
          · have h := h.2 k17
            refine lv_aload_n hx hb dX7_plans_74 rfl (lv_at hl 0 rfl) ?_
            refine sw_gr (j := 7) (r := 38) hx hb hts hown hW rfl qf_7 (Nat.le_of_ble_eq_true rfl) sl_33 rfl (Nat.le_of_ble_eq_true rfl) q_951 dX7_plans_75 ?_
            refine lv_iload hx hb dX7_plans_78 (lv_at hl 4 rfl) ?_
            refine lv_dup2_11 hx hb dX7_plans_80 rfl rfl ?_
            have b19 := h.1
            have h := h.2
            refine sw_ia (n := 6) hx hb hW (Nat.le_of_ble_eq_true rfl) sl_38 b19 dX7_plans_81 ?_
            refine lv_iconst (v := 1) hx hb dX7_plans_82 (by decide) ?_
            refine lv_isub hx hb dX7_plans_83 ?_
            have b20 := h.1
            have h := h.2
            refine sw_is (n := 6) hx hb hW (Nat.le_of_ble_eq_true rfl) sl_38 b20 dX7_plans_84 (fun H locs hW => ?_)
            obtain ⟨M21, eM21⟩ : ∃ z : sM, z = sw_ms M_34 38 (x4_34).toNatClampNeg ((M_34 38 (x4_34).toNatClampNeg) - (1 : Int32)) := ⟨_, rfl⟩
            rw [← eM21] at hW
            have h := h M21 eM21
            refine lv_iconst (v := 1) hx hb dX7_plans_85 (by decide) ?_
            refine lv_aload_n hx hb dX7_plans_86 rfl (lv_at hl 0 rfl) ?_
            refine lv_iload_n hx hb dX7_plans_87 rfl (lv_at hl 3 rfl) ?_
            refine lv_iconst (v := 1) hx hb dX7_plans_88 (by decide) ?_
            refine lv_iadd hx hb dX7_plans_89 ?_
            refine sw_ki (rest := [.int (1 : Int32)]) (sw_runV (As := [.int (x3_14 + (1 : Int32))]) (rest := [.int (1 : Int32)]) hx hb hml hown hts (kX7_mostFrom l g o d (x3_14 + (1 : Int32)) M21 _ h) cv_X7_mostFrom q_1065 rfl rfl ⟨(Nat.le_of_ble_eq_true rfl), (Nat.le_of_ble_eq_true rfl)⟩ hW (Nat.le_of_ble_eq_true rfl) sl_33 rfl rfl hl.1 rfl (Nat.le_of_ble_eq_true rfl) dX7_plans_90 ⟨(Nat.le_of_ble_eq_true rfl), (Nat.le_of_ble_eq_true rfl)⟩) hW (fun r22 M23 H locs h hW => ?_)
            refine lv_iadd hx hb dX7_plans_93 ?_
            refine lv_iload_n hx hb dX7_plans_94 rfl (lv_at hl 2 rfl) ?_
            refine sw_jn_i (g := g) (o := o) (d := d) (nL := 6) (M := M23) (jp := 103) (J := fun t0_103 => jX7_plans_103 x3_14 x2_34 x4_34 M23 (fun x2_34 x4_34 M_34 => lX7_plans_34 x3_14 (fun x2_34k M_34k => ∀ v7 : Int32, v7 = x3_14 + (1 : Int32) → ((fun x2_14 x3_14 M_14 => lX7_plans_14 (fun M_14k => Q r2 M_14k) n14 x2_14 x3_14 M_14) x2_34k v7 M_34k)) n34 x2_34 x4_34 M_34) t0_103) (Lf := fun t0_103 => [(0, .ref (sw_ad g 33)), (1, .int r2), (2, .int x2_34), (3, .int x3_14), (4, .int x4_34)]) (Sf := fun t0_103 => [.int t0_103]) (fun t0_103 H locs ls h hW hl => ?_) (fun hJ103 => ?_)
            · unfold jX7_plans_103 at h
              refine lv_istore (lv' := [(5, .int t0_103), (0, .ref (sw_ad g 33)), (1, .int r2), (2, .int x2_34), (3, .int x3_14), (4, .int x4_34)]) hx hb dX7_plans_103 hl (Nat.le_of_ble_eq_true rfl) rfl (fun ls hl => ?_)
              refine lv_aload_n hx hb dX7_plans_105 rfl (lv_at hl 1 rfl) ?_
              refine sw_gr (j := 10) (r := 41) hx hb hts hown hW rfl qf_7 (Nat.le_of_ble_eq_true rfl) sl_33 rfl (Nat.le_of_ble_eq_true rfl) q_954 dX7_plans_106 ?_
              refine lv_iload_n hx hb dX7_plans_109 rfl (lv_at hl 4 rfl) ?_
              refine lv_iload hx hb dX7_plans_110 (lv_at hl 0 rfl) ?_
              refine sw_jn_i (g := g) (o := o) (d := d) (nL := 6) (M := M23) (jp := 121) (J := fun t0_121 => jX7_plans_121 x3_14 x2_34 x4_34 M23 t0_103 (fun x2_34 x4_34 M_34 => lX7_plans_34 x3_14 (fun x2_34k M_34k => ∀ v7 : Int32, v7 = x3_14 + (1 : Int32) → ((fun x2_14 x3_14 M_14 => lX7_plans_14 (fun M_14k => Q r2 M_14k) n14 x2_14 x3_14 M_14) x2_34k v7 M_34k)) n34 x2_34 x4_34 M_34) t0_121) (Lf := fun t0_121 => [(0, .ref (sw_ad g 33)), (1, .int r2), (2, .int x2_34), (3, .int x3_14), (4, .int x4_34), (5, .int t0_103)]) (Sf := fun t0_121 => [.int t0_121, .int x3_14, .ref (sw_ad g 41)]) (fun t0_121 H locs ls h hW hl => ?_) (fun hJ121 => ?_)
              · unfold jX7_plans_121 at h
                have b24 := h.1
                have h := h.2
                refine sw_is (n := 8) hx hb hW (Nat.le_of_ble_eq_true rfl) sl_41 b24 dX7_plans_121 (fun H locs hW => ?_)
                obtain ⟨M25, eM25⟩ : ∃ z : sM, z = sw_ms M23 41 (x3_14).toNatClampNeg t0_121 := ⟨_, rfl⟩
                rw [← eM25] at hW
                have h := h M25 eM25
                refine lv_iload_n hx hb dX7_plans_122 rfl (lv_at hl 2 rfl) ?_
                refine lv_iload hx hb dX7_plans_123 (lv_at hl 5 rfl) ?_
                refine sw_jn_i (g := g) (o := o) (d := d) (nL := 6) (M := M25) (jp := 133) (J := fun t0_133 => jX7_plans_133 x2_34 x4_34 t0_103 M25 (fun x2_34 x4_34 M_34 => lX7_plans_34 x3_14 (fun x2_34k M_34k => ∀ v7 : Int32, v7 = x3_14 + (1 : Int32) → ((fun x2_14 x3_14 M_14 => lX7_plans_14 (fun M_14k => Q r2 M_14k) n14 x2_14 x3_14 M_14) x2_34k v7 M_34k)) n34 x2_34 x4_34 M_34) t0_133) (Lf := fun t0_133 => [(0, .ref (sw_ad g 33)), (1, .int r2), (3, .int x3_14), (4, .int x4_34), (5, .int t0_103)]) (Sf := fun t0_133 => [.int t0_133, .int x2_34]) (fun t0_133 H locs ls h hW hl => ?_) (fun hJ133 => ?_)
                · unfold jX7_plans_133 at h
                  refine lv_isub hx hb dX7_plans_133 ?_
                  refine lv_topi (fun v26 ev26 => ?_)
                  have h := h v26 ev26
                  refine lv_istore_n (lv' := [(2, .int v26), (0, .ref (sw_ad g 33)), (1, .int r2), (3, .int x3_14), (4, .int x4_34), (5, .int t0_103)]) hx hb dX7_plans_134 rfl hl (Nat.le_of_ble_eq_true rfl) rfl (fun ls hl => ?_)
                  refine lv_aload_n hx hb dX7_plans_135 rfl (lv_at hl 1 rfl) ?_
                  refine sw_gr (j := 7) (r := 38) hx hb hts hown hW rfl qf_7 (Nat.le_of_ble_eq_true rfl) sl_33 rfl (Nat.le_of_ble_eq_true rfl) q_951 dX7_plans_136 ?_
                  refine lv_iload hx hb dX7_plans_139 (lv_at hl 4 rfl) ?_
                  refine lv_dup2_11 hx hb dX7_plans_141 rfl rfl ?_
                  have b27 := h.1
                  have h := h.2
                  refine sw_ia (n := 6) hx hb hW (Nat.le_of_ble_eq_true rfl) sl_38 b27 dX7_plans_142 ?_
                  refine lv_iload hx hb dX7_plans_143 (lv_at hl 5 rfl) ?_
                  refine lv_if_eq (tgt := 152) hx hb dX7_plans_145 (by decide) (fun k28 => ?_) (fun k28 => ?_)
                  · have h := h.1 k28
                    refine lv_iconst (v := 1) hx hb dX7_plans_152 (by decide) ?_
                    refine lv_iadd hx hb dX7_plans_153 ?_
                    have b29 := h.1
                    have h := h.2
                    refine sw_is (n := 6) hx hb hW (Nat.le_of_ble_eq_true rfl) sl_38 b29 dX7_plans_154 (fun H locs hW => ?_)
                    obtain ⟨M30, eM30⟩ : ∃ z : sM, z = sw_ms M25 38 (x4_34).toNatClampNeg ((M25 38 (x4_34).toNatClampNeg) + (1 : Int32)) := ⟨_, rfl⟩
                    rw [← eM30] at hW
                    have h := h M30 eM30
                    obtain ⟨v31, ev31⟩ : ∃ z : Int32, z = x4_34 + (1 : Int32) := ⟨_, rfl⟩
                    have h := h v31 ev31
                    refine lv_iinc (v := v31) (lv' := [(4, .int v31), (2, .int v26), (0, .ref (sw_ad g 33)), (1, .int r2), (3, .int x3_14), (5, .int t0_103)]) hx hb dX7_plans_155 hl (k := 4) rfl (by rw [ev31]; rfl) (Nat.le_of_ble_eq_true rfl) rfl (fun ls hl => ?_)
                    refine lv_goto (tgt := 34) hx hb dX7_plans_158 (by decide) ?_
                    exact ih34 _ _ _ _ _ _ h hW (lv_sub hl [2, 3, 1, 4, 0] rfl)
                  · have h := h.2 k28
                    refine lv_iconst (v := 0) hx hb dX7_plans_148 (by decide) ?_
                    refine lv_goto (tgt := 153) hx hb dX7_plans_149 (by decide) ?_
                    refine lv_iadd hx hb dX7_plans_153 ?_
                    have b32 := h.1
                    have h := h.2
                    refine sw_is (n := 6) hx hb hW (Nat.le_of_ble_eq_true rfl) sl_38 b32 dX7_plans_154 (fun H locs hW => ?_)
                    obtain ⟨M33, eM33⟩ : ∃ z : sM, z = sw_ms M25 38 (x4_34).toNatClampNeg ((M25 38 (x4_34).toNatClampNeg) + (0 : Int32)) := ⟨_, rfl⟩
                    rw [← eM33] at hW
                    have h := h M33 eM33
                    obtain ⟨v34, ev34⟩ : ∃ z : Int32, z = x4_34 + (1 : Int32) := ⟨_, rfl⟩
                    have h := h v34 ev34
                    refine lv_iinc (v := v34) (lv' := [(4, .int v34), (2, .int v26), (0, .ref (sw_ad g 33)), (1, .int r2), (3, .int x3_14), (5, .int t0_103)]) hx hb dX7_plans_155 hl (k := 4) rfl (by rw [ev34]; rfl) (Nat.le_of_ble_eq_true rfl) rfl (fun ls hl => ?_)
                    refine lv_goto (tgt := 34) hx hb dX7_plans_158 (by decide) ?_
                    exact ih34 _ _ _ _ _ _ h hW (lv_sub hl [2, 3, 1, 4, 0] rfl)
                · refine lv_if_eq (tgt := 132) hx hb dX7_plans_125 (by decide) (fun k35 => ?_) (fun k35 => ?_)
                  · have h := h.1 k35
                    refine lv_iconst (v := 0) hx hb dX7_plans_132 (by decide) ?_
                    exact hJ133 _ _ _ _ h hW (lv_sub hl [0, 1, 3, 4, 5] rfl)
                  · have h := h.2 k35
                    refine lv_iconst (v := 1) hx hb dX7_plans_128 (by decide) ?_
                    refine lv_goto (tgt := 133) hx hb dX7_plans_129 (by decide) ?_
                    exact hJ133 _ _ _ _ h hW (lv_sub hl [0, 1, 3, 4, 5] rfl)
              · refine lv_if_eq (tgt := 120) hx hb dX7_plans_112 (by decide) (fun k36 => ?_) (fun k36 => ?_)
                · have h := h.1 k36
                  refine lv_iconst (v := -1) hx hb dX7_plans_120 (by decide) ?_
                  exact hJ121 _ _ _ _ h hW (lv_sub hl [1, 2, 3, 4, 5, 0] rfl)
                · have h := h.2 k36
                  refine lv_iload hx hb dX7_plans_115 (lv_at hl 5 rfl) ?_
                  refine lv_goto (tgt := 121) hx hb dX7_plans_117 (by decide) ?_
                  exact hJ121 _ _ _ _ h hW (lv_sub hl [1, 2, 3, 4, 5, 0] rfl)
            · refine lv_icmp_ne (tgt := 102) hx hb dX7_plans_95 (by decide) (fun k37 => ?_) (fun k37 => ?_)
              · have h := h.2 k37
                refine lv_iconst (v := 0) hx hb dX7_plans_102 (by decide) ?_
                exact hJ103 _ _ _ _ h hW (lv_sub hl [0, 1, 2, 3, 4] rfl)
              · have h := h.1 k37
                refine lv_iconst (v := 1) hx hb dX7_plans_98 (by decide) ?_
                refine lv_goto (tgt := 103) hx hb dX7_plans_99 (by decide) ?_
                exact hJ103 _ _ _ _ h hW (lv_sub hl [0, 1, 2, 3, 4] rfl)

def lX7_doPlan_7 (K7 : sM → Prop) : Nat → Int32 → sM → Prop
  | 0, _, _ => False
  | n7 + 1, x2_7, M_7 => ((M_7 34 ((0 : Int32)).toNatClampNeg) ≤ x2_7 → (K7 M_7)) ∧ (¬ (M_7 34 ((0 : Int32)).toNatClampNeg) ≤ x2_7 → (vp_in x2_7 8 ∧ (((M_7 41 (x2_7).toNatClampNeg) < 0 → (∀ v6 : Int32, v6 = x2_7 + (1 : Int32) → ((fun x2_7 M_7 => lX7_doPlan_7 K7 n7 x2_7 M_7) v6 M_7))) ∧ (¬ (M_7 41 (x2_7).toNatClampNeg) < 0 → (vp_in x2_7 8 ∧ (wX7_setsPair (M_7 41 (x2_7).toNatClampNeg) x2_7 (1 : Int32) (1 : Int32) M_7 (fun M8 => ∀ v9 : Int32, v9 = x2_7 + (1 : Int32) → ((fun x2_7 M_7 => lX7_doPlan_7 K7 n7 x2_7 M_7) v9 M8))))))))
theorem cv_X7_doPlan : sw_cV yX7_doPlan RX7 cX7_doPlan 3 (some .int) 0 := ⟨q_1057, q_1386, q_9, q_1058, by decide +kernel⟩
def wX7_doPlan  (M : sM) (Q : Int32 → sM → Prop) : Prop :=
  wX7_plans M (fun r1 M2 => ∃ n7, lX7_doPlan_7 (fun M_7k => Q r1 M_7k) n7 (0 : Int32) M2)
set_option maxRecDepth 20000 in
theorem kX7_doPlan (l : Launch) (g : sG) (o : Nat → Int64) (d : Nat → UInt64)  (M : sM) (Q : Int32 → sM → Prop) (h : wX7_doPlan  M Q) : Met l yX7_doPlan (sw_ws yX7_doPlan cX7_doPlan 3 (some .int)) { frames := 16, cells := 0, slots := 0, locals := 378 } (va_Pc [.ref (sw_ad g 33)] (sw_Pr g o d M)) (va_Qi Q (sw_Po g o d) (sw_A g)) 0 0 (sw_A g) := by
  refine sw_met (by decide) (Nat.le_of_ble_eq_true rfl) ?_
  intro p e s m args below meth c ls hx hb hr hts hown hml hlocks hW hl
  have hown : s.vm.findClass RX7 = some m.cls := hown
  have hl : lv_has ls 3 [(0, .ref (sw_ad g 33))] := hl
  unfold wX7_doPlan at h
  refine lv_aload_n hx hb dX7_doPlan_0 rfl (lv_at hl 0 rfl) ?_
  refine sw_ki (rest := []) (sw_runV (As := []) (rest := []) hx hb hml hown hts (kX7_plans l g o d M _ h) cv_X7_plans q_1059 rfl rfl ⟨(Nat.le_of_ble_eq_true rfl), (Nat.le_of_ble_eq_true rfl)⟩ hW (Nat.le_of_ble_eq_true rfl) sl_33 rfl rfl hl.1 rfl (Nat.le_of_ble_eq_true rfl) dX7_doPlan_1 ⟨(Nat.le_of_ble_eq_true rfl), (Nat.le_of_ble_eq_true rfl)⟩) hW (fun r1 M2 H locs h hW => ?_)
  refine lv_istore_n (lv' := [(1, .int r1), (0, .ref (sw_ad g 33))]) hx hb dX7_doPlan_4 rfl hl (Nat.le_of_ble_eq_true rfl) rfl (fun ls hl => ?_)
  refine lv_iconst (v := 0) hx hb dX7_doPlan_5 (by decide) ?_
  refine lv_istore_n (lv' := [(2, .int (0 : Int32)), (1, .int r1), (0, .ref (sw_ad g 33))]) hx hb dX7_doPlan_6 rfl hl (Nat.le_of_ble_eq_true rfl) rfl (fun ls hl => ?_)
  obtain ⟨n7, h⟩ := h
  refine sw_lp_iM (hd := 7) (Lf := fun x2_7 M_7 => [(0, .ref (sw_ad g 33)), (1, .int r1), (2, .int x2_7)]) h hW (lv_sub hl [2, 1, 0] rfl) (fun _ _ h => h) (fun n7 ih7 x2_7 M_7 H locs ls h hW hl => ?_)
  rw [lX7_doPlan_7.eq_2] at h
  refine lv_iload_n hx hb dX7_doPlan_7 rfl (lv_at hl 2 rfl) ?_
  refine lv_aload_n hx hb dX7_doPlan_8 rfl (lv_at hl 0 rfl) ?_
  refine sw_gr (j := 0) (r := 34) hx hb hts hown hW rfl qf_7 (Nat.le_of_ble_eq_true rfl) sl_33 rfl (Nat.le_of_ble_eq_true rfl) q_944 dX7_doPlan_9 ?_
  refine lv_iconst (v := 0) hx hb dX7_doPlan_12 (by decide) ?_
  refine sw_ia (n := 228) hx hb hW (Nat.le_of_ble_eq_true rfl) sl_34 (vp_in_iff.mpr (by decide)) dX7_doPlan_13 ?_
  refine lv_icmp_ge (tgt := 45) hx hb dX7_doPlan_14 (by decide) (fun k3 => ?_) (fun k3 => ?_)
  · have h := h.1 k3
    refine lv_iload_n hx hb dX7_doPlan_45 rfl (lv_at hl 1 rfl) ?_
    exact sw_ri hx hb hr hlocks hW rfl h dX7_doPlan_46
  · have h := h.2 k3
    refine lv_aload_n hx hb dX7_doPlan_17 rfl (lv_at hl 0 rfl) ?_
    refine sw_gr (j := 10) (r := 41) hx hb hts hown hW rfl qf_7 (Nat.le_of_ble_eq_true rfl) sl_33 rfl (Nat.le_of_ble_eq_true rfl) q_954 dX7_doPlan_18 ?_
    refine lv_iload_n hx hb dX7_doPlan_21 rfl (lv_at hl 2 rfl) ?_
    have b4 := h.1
    have h := h.2
    refine sw_ia (n := 8) hx hb hW (Nat.le_of_ble_eq_true rfl) sl_41 b4 dX7_doPlan_22 ?_
    refine lv_if_lt (tgt := 39) hx hb dX7_doPlan_23 (by decide) (fun k5 => ?_) (fun k5 => ?_)
    · have h := h.1 k5
      obtain ⟨v6, ev6⟩ : ∃ z : Int32, z = x2_7 + (1 : Int32) := ⟨_, rfl⟩
      have h := h v6 ev6
      refine lv_iinc (v := v6) (lv' := [(2, .int v6), (0, .ref (sw_ad g 33)), (1, .int r1)]) hx hb dX7_doPlan_39 hl (k := 2) rfl (by rw [ev6]; rfl) (Nat.le_of_ble_eq_true rfl) rfl (fun ls hl => ?_)
      refine lv_goto (tgt := 7) hx hb dX7_doPlan_42 (by decide) ?_
      exact ih7 _ _ _ _ _ h hW (lv_sub hl [1, 2, 0] rfl)
    · have h := h.2 k5
      refine lv_aload_n hx hb dX7_doPlan_26 rfl (lv_at hl 0 rfl) ?_
      refine lv_aload_n hx hb dX7_doPlan_27 rfl (lv_at hl 0 rfl) ?_
      refine sw_gr (j := 10) (r := 41) hx hb hts hown hW rfl qf_7 (Nat.le_of_ble_eq_true rfl) sl_33 rfl (Nat.le_of_ble_eq_true rfl) q_954 dX7_doPlan_28 ?_
      refine lv_iload_n hx hb dX7_doPlan_31 rfl (lv_at hl 2 rfl) ?_
      have b7 := h.1
      have h := h.2
      refine sw_ia (n := 8) hx hb hW (Nat.le_of_ble_eq_true rfl) sl_41 b7 dX7_doPlan_32 ?_
      refine lv_iload_n hx hb dX7_doPlan_33 rfl (lv_at hl 2 rfl) ?_
      refine lv_iconst (v := 1) hx hb dX7_doPlan_34 (by decide) ?_
      refine lv_iconst (v := 1) hx hb dX7_doPlan_35 (by decide) ?_
      refine sw_kv (rest := []) (sw_runV (As := [.int (M_7 41 (x2_7).toNatClampNeg), .int x2_7, .int (1 : Int32), .int (1 : Int32)]) (rest := []) hx hb hml hown hts (kX7_setsPair l g o d (M_7 41 (x2_7).toNatClampNeg) x2_7 (1 : Int32) (1 : Int32) M_7 _ h) cv_X7_setsPair q_1024 rfl rfl ⟨(Nat.le_of_ble_eq_true rfl), (Nat.le_of_ble_eq_true rfl)⟩ hW (Nat.le_of_ble_eq_true rfl) sl_33 rfl rfl hl.1 rfl (Nat.le_of_ble_eq_true rfl) dX7_doPlan_36 ⟨(Nat.le_of_ble_eq_true rfl), (Nat.le_of_ble_eq_true rfl)⟩) hW (fun  M8 H locs h hW => ?_)
      obtain ⟨v9, ev9⟩ : ∃ z : Int32, z = x2_7 + (1 : Int32) := ⟨_, rfl⟩
      have h := h v9 ev9
      refine lv_iinc (v := v9) (lv' := [(2, .int v9), (0, .ref (sw_ad g 33)), (1, .int r1)]) hx hb dX7_doPlan_39 hl (k := 2) rfl (by rw [ev9]; rfl) (Nat.le_of_ble_eq_true rfl) rfl (fun ls hl => ?_)
      refine lv_goto (tgt := 7) hx hb dX7_doPlan_42 (by decide) ?_
      exact ih7 _ _ _ _ _ h hW (lv_sub hl [1, 2, 0] rfl)

theorem cv_X7_carryOutPlan : sw_cV yX7_carryOutPlan RX7 cX7_carryOutPlan 1 (some .int) 0 := ⟨q_1053, q_1054, q_9, q_1055, by decide +kernel⟩
def wX7_carryOutPlan  (M : sM) (Q : Int32 → sM → Prop) : Prop :=
  wX7_keep M (fun M1 => wX7_doPlan M1 (fun r2 M3 => wX7_ends r2 M3 (fun r4 M5 => Q r4 M5)))
set_option maxRecDepth 20000 in
theorem kX7_carryOutPlan (l : Launch) (g : sG) (o : Nat → Int64) (d : Nat → UInt64)  (M : sM) (Q : Int32 → sM → Prop) (h : wX7_carryOutPlan  M Q) : Met l yX7_carryOutPlan (sw_ws yX7_carryOutPlan cX7_carryOutPlan 1 (some .int)) { frames := 17, cells := 0, slots := 0, locals := 400 } (va_Pc [.ref (sw_ad g 33)] (sw_Pr g o d M)) (va_Qi Q (sw_Po g o d) (sw_A g)) 0 0 (sw_A g) := by
  refine sw_met (by decide) (Nat.le_of_ble_eq_true rfl) ?_
  intro p e s m args below meth c ls hx hb hr hts hown hml hlocks hW hl
  have hown : s.vm.findClass RX7 = some m.cls := hown
  have hl : lv_has ls 1 [(0, .ref (sw_ad g 33))] := hl
  unfold wX7_carryOutPlan at h
  refine lv_aload_n hx hb dX7_carryOutPlan_0 rfl (lv_at hl 0 rfl) ?_
  refine sw_kv (rest := []) (sw_runV (As := []) (rest := []) hx hb hml hown hts (kX7_keep l g o d M _ h) cv_X7_keep q_974 rfl rfl ⟨(Nat.le_of_ble_eq_true rfl), (Nat.le_of_ble_eq_true rfl)⟩ hW (Nat.le_of_ble_eq_true rfl) sl_33 rfl rfl hl.1 rfl (Nat.le_of_ble_eq_true rfl) dX7_carryOutPlan_1 ⟨(Nat.le_of_ble_eq_true rfl), (Nat.le_of_ble_eq_true rfl)⟩) hW (fun  M1 H locs h hW => ?_)
  refine lv_aload_n hx hb dX7_carryOutPlan_4 rfl (lv_at hl 0 rfl) ?_
  refine lv_aload_n hx hb dX7_carryOutPlan_5 rfl (lv_at hl 0 rfl) ?_
  refine sw_ki (rest := [.ref (sw_ad g 33)]) (sw_runV (As := []) (rest := [.ref (sw_ad g 33)]) hx hb hml hown hts (kX7_doPlan l g o d M1 _ h) cv_X7_doPlan q_1056 rfl rfl ⟨(Nat.le_of_ble_eq_true rfl), (Nat.le_of_ble_eq_true rfl)⟩ hW (Nat.le_of_ble_eq_true rfl) sl_33 rfl rfl hl.1 rfl (Nat.le_of_ble_eq_true rfl) dX7_carryOutPlan_6 ⟨(Nat.le_of_ble_eq_true rfl), (Nat.le_of_ble_eq_true rfl)⟩) hW (fun r2 M3 H locs h hW => ?_)
  refine sw_ki (rest := []) (sw_runV (As := [.int r2]) (rest := []) hx hb hml hown hts (kX7_ends l g o d r2 M3 _ h) cv_X7_ends q_992 rfl rfl ⟨(Nat.le_of_ble_eq_true rfl), (Nat.le_of_ble_eq_true rfl)⟩ hW (Nat.le_of_ble_eq_true rfl) sl_33 rfl rfl hl.1 rfl (Nat.le_of_ble_eq_true rfl) dX7_carryOutPlan_9 ⟨(Nat.le_of_ble_eq_true rfl), (Nat.le_of_ble_eq_true rfl)⟩) hW (fun r4 M5 H locs h hW => ?_)
  exact sw_ri hx hb hr hlocks hW rfl h dX7_carryOutPlan_12

theorem cv_X7_doGrade : sw_cV yX7_doGrade RX7 cX7_doGrade 4 (some .int) 3 := ⟨q_1079, q_1392, q_9, q_1080, by decide +kernel⟩
def wX7_doGrade (a1 : Int32) (a2 : Int32) (a3 : Int32) (M : sM) (Q : Int32 → sM → Prop) : Prop :=
  wX7_arePair a1 a2 M (fun r1 => (r1 = 0 → (wX7_fails (1 : Int32) M (fun r21 M22 => Q r21 M22))) ∧ (¬ r1 = 0 → (wX7_in a3 (0 : Int32) (20 : Int32) (fun r3 => (r3 = 0 → (wX7_fails (2 : Int32) M (fun r18 M19 => Q r18 M19))) ∧ (¬ r3 = 0 → (wX7_assigned a1 a2 M (fun r5 => (r5 = 0 → (wX7_fails (3 : Int32) M (fun r7 M8 => Q r7 M8))) ∧ (¬ r5 = 0 → (wX7_pair a1 a2 (2 : Int32) M (fun r9 => (r9 ≤ 0 → (wX7_setsPair a1 a2 (2 : Int32) (a3 + (1 : Int32)) M (fun M11 => wX7_gradesAt a2 M11 (fun r12 => Q r12 M11)))) ∧ (¬ r9 ≤ 0 → (wX7_fails (3 : Int32) M (fun r14 M15 => Q r14 M15)))))))))))))
set_option maxRecDepth 20000 in
theorem kX7_doGrade (l : Launch) (g : sG) (o : Nat → Int64) (d : Nat → UInt64) (a1 : Int32) (a2 : Int32) (a3 : Int32) (M : sM) (Q : Int32 → sM → Prop) (h : wX7_doGrade a1 a2 a3 M Q) : Met l yX7_doGrade (sw_ws yX7_doGrade cX7_doGrade 4 (some .int)) { frames := 3, cells := 0, slots := 0, locals := 65 } (va_Pc [.ref (sw_ad g 33), .int a1, .int a2, .int a3] (sw_Pr g o d M)) (va_Qi Q (sw_Po g o d) (sw_A g)) 0 0 (sw_A g) := by
  refine sw_met (by decide) (Nat.le_of_ble_eq_true rfl) ?_
  intro p e s m args below meth c ls hx hb hr hts hown hml hlocks hW hl
  have hown : s.vm.findClass RX7 = some m.cls := hown
  have hl : lv_has ls 4 [(0, .ref (sw_ad g 33)), (1, .int a1), (2, .int a2), (3, .int a3)] := hl
  unfold wX7_doGrade at h
  refine lv_aload_n hx hb dX7_doGrade_0 rfl (lv_at hl 0 rfl) ?_
  refine lv_iload_n hx hb dX7_doGrade_1 rfl (lv_at hl 1 rfl) ?_
  refine lv_iload_n hx hb dX7_doGrade_2 rfl (lv_at hl 2 rfl) ?_
  refine sw_ki (rest := []) (sw_runV (As := [.int a1, .int a2]) (rest := []) hx hb hml hown hts (kX7_arePair l g o d a1 a2 M _ h) cv_X7_arePair q_1009 rfl rfl ⟨(Nat.le_of_ble_eq_true rfl), (Nat.le_of_ble_eq_true rfl)⟩ hW (Nat.le_of_ble_eq_true rfl) sl_33 rfl rfl hl.1 rfl (Nat.le_of_ble_eq_true rfl) dX7_doGrade_3 ⟨(Nat.le_of_ble_eq_true rfl), (Nat.le_of_ble_eq_true rfl)⟩) hW (fun r1 M23 H locs h hW => ?_)
  obtain ⟨h, eM23⟩ := h
  rw [eM23] at hW
  refine lv_if_ne (tgt := 15) hx hb dX7_doGrade_6 (by decide) (fun k2 => ?_) (fun k2 => ?_)
  · have h := h.2 k2
    refine lv_iload_n hx hb dX7_doGrade_15 rfl (lv_at hl 3 rfl) ?_
    refine lv_iconst (v := 0) hx hb dX7_doGrade_16 (by decide) ?_
    refine lv_bipush (v := 20) hx hb dX7_doGrade_17 (by decide) ?_
    refine sw_ki (rest := []) (sw_runS (As := [.int a3, .int (0 : Int32), .int (20 : Int32)]) (rest := []) hx hb hml hown hts (kX7_in l g o d a3 (0 : Int32) (20 : Int32) M _ h) cs_X7_in q_986 rfl rfl ⟨(Nat.le_of_ble_eq_true rfl), (Nat.le_of_ble_eq_true rfl)⟩ hW rfl hl.1 rfl (Nat.le_of_ble_eq_true rfl) dX7_doGrade_19 ⟨(Nat.le_of_ble_eq_true rfl), (Nat.le_of_ble_eq_true rfl)⟩) hW (fun r3 M20 H locs h hW => ?_)
    obtain ⟨h, eM20⟩ := h
    rw [eM20] at hW
    refine lv_if_ne (tgt := 31) hx hb dX7_doGrade_22 (by decide) (fun k4 => ?_) (fun k4 => ?_)
    · have h := h.2 k4
      refine lv_aload_n hx hb dX7_doGrade_31 rfl (lv_at hl 0 rfl) ?_
      refine lv_iload_n hx hb dX7_doGrade_32 rfl (lv_at hl 1 rfl) ?_
      refine lv_iload_n hx hb dX7_doGrade_33 rfl (lv_at hl 2 rfl) ?_
      refine sw_ki (rest := []) (sw_runV (As := [.int a1, .int a2]) (rest := []) hx hb hml hown hts (kX7_assigned l g o d a1 a2 M _ h) cv_X7_assigned q_1021 rfl rfl ⟨(Nat.le_of_ble_eq_true rfl), (Nat.le_of_ble_eq_true rfl)⟩ hW (Nat.le_of_ble_eq_true rfl) sl_33 rfl rfl hl.1 rfl (Nat.le_of_ble_eq_true rfl) dX7_doGrade_34 ⟨(Nat.le_of_ble_eq_true rfl), (Nat.le_of_ble_eq_true rfl)⟩) hW (fun r5 M17 H locs h hW => ?_)
      obtain ⟨h, eM17⟩ := h
      rw [eM17] at hW
      refine lv_if_eq (tgt := 50) hx hb dX7_doGrade_37 (by decide) (fun k6 => ?_) (fun k6 => ?_)
      · have h := h.1 k6
        refine lv_aload_n hx hb dX7_doGrade_50 rfl (lv_at hl 0 rfl) ?_
        refine lv_iconst (v := 3) hx hb dX7_doGrade_51 (by decide) ?_
        refine sw_ki (rest := []) (sw_runV (As := [.int (3 : Int32)]) (rest := []) hx hb hml hown hts (kX7_fails l g o d (3 : Int32) M _ h) cv_X7_fails q_989 rfl rfl ⟨(Nat.le_of_ble_eq_true rfl), (Nat.le_of_ble_eq_true rfl)⟩ hW (Nat.le_of_ble_eq_true rfl) sl_33 rfl rfl hl.1 rfl (Nat.le_of_ble_eq_true rfl) dX7_doGrade_52 ⟨(Nat.le_of_ble_eq_true rfl), (Nat.le_of_ble_eq_true rfl)⟩) hW (fun r7 M8 H locs h hW => ?_)
        exact sw_ri hx hb hr hlocks hW rfl h dX7_doGrade_55
      · have h := h.2 k6
        refine lv_aload_n hx hb dX7_doGrade_40 rfl (lv_at hl 0 rfl) ?_
        refine lv_iload_n hx hb dX7_doGrade_41 rfl (lv_at hl 1 rfl) ?_
        refine lv_iload_n hx hb dX7_doGrade_42 rfl (lv_at hl 2 rfl) ?_
        refine lv_iconst (v := 2) hx hb dX7_doGrade_43 (by decide) ?_
        refine sw_ki (rest := []) (sw_runV (As := [.int a1, .int a2, .int (2 : Int32)]) (rest := []) hx hb hml hown hts (kX7_pair l g o d a1 a2 (2 : Int32) M _ h) cv_X7_pair q_1018 rfl rfl ⟨(Nat.le_of_ble_eq_true rfl), (Nat.le_of_ble_eq_true rfl)⟩ hW (Nat.le_of_ble_eq_true rfl) sl_33 rfl rfl hl.1 rfl (Nat.le_of_ble_eq_true rfl) dX7_doGrade_44 ⟨(Nat.le_of_ble_eq_true rfl), (Nat.le_of_ble_eq_true rfl)⟩) hW (fun r9 M16 H locs h hW => ?_)
        obtain ⟨h, eM16⟩ := h
        rw [eM16] at hW
        refine lv_if_le (tgt := 56) hx hb dX7_doGrade_47 (by decide) (fun k10 => ?_) (fun k10 => ?_)
        · have h := h.1 k10
          refine lv_aload_n hx hb dX7_doGrade_56 rfl (lv_at hl 0 rfl) ?_
          refine lv_iload_n hx hb dX7_doGrade_57 rfl (lv_at hl 1 rfl) ?_
          refine lv_iload_n hx hb dX7_doGrade_58 rfl (lv_at hl 2 rfl) ?_
          refine lv_iconst (v := 2) hx hb dX7_doGrade_59 (by decide) ?_
          refine lv_iload_n hx hb dX7_doGrade_60 rfl (lv_at hl 3 rfl) ?_
          refine lv_iconst (v := 1) hx hb dX7_doGrade_61 (by decide) ?_
          refine lv_iadd hx hb dX7_doGrade_62 ?_
          refine sw_kv (rest := []) (sw_runV (As := [.int a1, .int a2, .int (2 : Int32), .int (a3 + (1 : Int32))]) (rest := []) hx hb hml hown hts (kX7_setsPair l g o d a1 a2 (2 : Int32) (a3 + (1 : Int32)) M _ h) cv_X7_setsPair q_1024 rfl rfl ⟨(Nat.le_of_ble_eq_true rfl), (Nat.le_of_ble_eq_true rfl)⟩ hW (Nat.le_of_ble_eq_true rfl) sl_33 rfl rfl hl.1 rfl (Nat.le_of_ble_eq_true rfl) dX7_doGrade_63 ⟨(Nat.le_of_ble_eq_true rfl), (Nat.le_of_ble_eq_true rfl)⟩) hW (fun  M11 H locs h hW => ?_)
          refine lv_aload_n hx hb dX7_doGrade_66 rfl (lv_at hl 0 rfl) ?_
          refine lv_iload_n hx hb dX7_doGrade_67 rfl (lv_at hl 2 rfl) ?_
          refine sw_ki (rest := []) (sw_runV (As := [.int a2]) (rest := []) hx hb hml hown hts (kX7_gradesAt l g o d a2 M11 _ h) cv_X7_gradesAt q_1081 rfl rfl ⟨(Nat.le_of_ble_eq_true rfl), (Nat.le_of_ble_eq_true rfl)⟩ hW (Nat.le_of_ble_eq_true rfl) sl_33 rfl rfl hl.1 rfl (Nat.le_of_ble_eq_true rfl) dX7_doGrade_68 ⟨(Nat.le_of_ble_eq_true rfl), (Nat.le_of_ble_eq_true rfl)⟩) hW (fun r12 M13 H locs h hW => ?_)
          obtain ⟨h, eM13⟩ := h
          rw [eM13] at hW
          exact sw_ri hx hb hr hlocks hW rfl h dX7_doGrade_71
        · have h := h.2 k10
          refine lv_aload_n hx hb dX7_doGrade_50 rfl (lv_at hl 0 rfl) ?_
          refine lv_iconst (v := 3) hx hb dX7_doGrade_51 (by decide) ?_
          refine sw_ki (rest := []) (sw_runV (As := [.int (3 : Int32)]) (rest := []) hx hb hml hown hts (kX7_fails l g o d (3 : Int32) M _ h) cv_X7_fails q_989 rfl rfl ⟨(Nat.le_of_ble_eq_true rfl), (Nat.le_of_ble_eq_true rfl)⟩ hW (Nat.le_of_ble_eq_true rfl) sl_33 rfl rfl hl.1 rfl (Nat.le_of_ble_eq_true rfl) dX7_doGrade_52 ⟨(Nat.le_of_ble_eq_true rfl), (Nat.le_of_ble_eq_true rfl)⟩) hW (fun r14 M15 H locs h hW => ?_)
          exact sw_ri hx hb hr hlocks hW rfl h dX7_doGrade_55
    · have h := h.1 k4
      refine lv_aload_n hx hb dX7_doGrade_25 rfl (lv_at hl 0 rfl) ?_
      refine lv_iconst (v := 2) hx hb dX7_doGrade_26 (by decide) ?_
      refine sw_ki (rest := []) (sw_runV (As := [.int (2 : Int32)]) (rest := []) hx hb hml hown hts (kX7_fails l g o d (2 : Int32) M _ h) cv_X7_fails q_989 rfl rfl ⟨(Nat.le_of_ble_eq_true rfl), (Nat.le_of_ble_eq_true rfl)⟩ hW (Nat.le_of_ble_eq_true rfl) sl_33 rfl rfl hl.1 rfl (Nat.le_of_ble_eq_true rfl) dX7_doGrade_27 ⟨(Nat.le_of_ble_eq_true rfl), (Nat.le_of_ble_eq_true rfl)⟩) hW (fun r18 M19 H locs h hW => ?_)
      exact sw_ri hx hb hr hlocks hW rfl h dX7_doGrade_30
  · have h := h.1 k2
    refine lv_aload_n hx hb dX7_doGrade_9 rfl (lv_at hl 0 rfl) ?_
    refine lv_iconst (v := 1) hx hb dX7_doGrade_10 (by decide) ?_
    refine sw_ki (rest := []) (sw_runV (As := [.int (1 : Int32)]) (rest := []) hx hb hml hown hts (kX7_fails l g o d (1 : Int32) M _ h) cv_X7_fails q_989 rfl rfl ⟨(Nat.le_of_ble_eq_true rfl), (Nat.le_of_ble_eq_true rfl)⟩ hW (Nat.le_of_ble_eq_true rfl) sl_33 rfl rfl hl.1 rfl (Nat.le_of_ble_eq_true rfl) dX7_doGrade_11 ⟨(Nat.le_of_ble_eq_true rfl), (Nat.le_of_ble_eq_true rfl)⟩) hW (fun r21 M22 H locs h hW => ?_)
    exact sw_ri hx hb hr hlocks hW rfl h dX7_doGrade_14

theorem cv_X7_grade : sw_cV yX7_grade RX7 cX7_grade 4 (some .int) 3 := ⟨q_1075, q_1076, q_9, q_1077, by decide +kernel⟩
def wX7_grade (a1 : Int32) (a2 : Int32) (a3 : Int32) (M : sM) (Q : Int32 → sM → Prop) : Prop :=
  wX7_keep M (fun M1 => wX7_doGrade a1 a2 a3 M1 (fun r2 M3 => wX7_ends r2 M3 (fun r4 M5 => Q r4 M5)))
set_option maxRecDepth 20000 in
theorem kX7_grade (l : Launch) (g : sG) (o : Nat → Int64) (d : Nat → UInt64) (a1 : Int32) (a2 : Int32) (a3 : Int32) (M : sM) (Q : Int32 → sM → Prop) (h : wX7_grade a1 a2 a3 M Q) : Met l yX7_grade (sw_ws yX7_grade cX7_grade 4 (some .int)) { frames := 4, cells := 0, slots := 0, locals := 88 } (va_Pc [.ref (sw_ad g 33), .int a1, .int a2, .int a3] (sw_Pr g o d M)) (va_Qi Q (sw_Po g o d) (sw_A g)) 0 0 (sw_A g) := by
  refine sw_met (by decide) (Nat.le_of_ble_eq_true rfl) ?_
  intro p e s m args below meth c ls hx hb hr hts hown hml hlocks hW hl
  have hown : s.vm.findClass RX7 = some m.cls := hown
  have hl : lv_has ls 4 [(0, .ref (sw_ad g 33)), (1, .int a1), (2, .int a2), (3, .int a3)] := hl
  unfold wX7_grade at h
  refine lv_aload_n hx hb dX7_grade_0 rfl (lv_at hl 0 rfl) ?_
  refine sw_kv (rest := []) (sw_runV (As := []) (rest := []) hx hb hml hown hts (kX7_keep l g o d M _ h) cv_X7_keep q_974 rfl rfl ⟨(Nat.le_of_ble_eq_true rfl), (Nat.le_of_ble_eq_true rfl)⟩ hW (Nat.le_of_ble_eq_true rfl) sl_33 rfl rfl hl.1 rfl (Nat.le_of_ble_eq_true rfl) dX7_grade_1 ⟨(Nat.le_of_ble_eq_true rfl), (Nat.le_of_ble_eq_true rfl)⟩) hW (fun  M1 H locs h hW => ?_)
  refine lv_aload_n hx hb dX7_grade_4 rfl (lv_at hl 0 rfl) ?_
  refine lv_aload_n hx hb dX7_grade_5 rfl (lv_at hl 0 rfl) ?_
  refine lv_iload_n hx hb dX7_grade_6 rfl (lv_at hl 1 rfl) ?_
  refine lv_iload_n hx hb dX7_grade_7 rfl (lv_at hl 2 rfl) ?_
  refine lv_iload_n hx hb dX7_grade_8 rfl (lv_at hl 3 rfl) ?_
  refine sw_ki (rest := [.ref (sw_ad g 33)]) (sw_runV (As := [.int a1, .int a2, .int a3]) (rest := [.ref (sw_ad g 33)]) hx hb hml hown hts (kX7_doGrade l g o d a1 a2 a3 M1 _ h) cv_X7_doGrade q_1078 rfl rfl ⟨(Nat.le_of_ble_eq_true rfl), (Nat.le_of_ble_eq_true rfl)⟩ hW (Nat.le_of_ble_eq_true rfl) sl_33 rfl rfl hl.1 rfl (Nat.le_of_ble_eq_true rfl) dX7_grade_9 ⟨(Nat.le_of_ble_eq_true rfl), (Nat.le_of_ble_eq_true rfl)⟩) hW (fun r2 M3 H locs h hW => ?_)
  refine sw_ki (rest := []) (sw_runV (As := [.int r2]) (rest := []) hx hb hml hown hts (kX7_ends l g o d r2 M3 _ h) cv_X7_ends q_992 rfl rfl ⟨(Nat.le_of_ble_eq_true rfl), (Nat.le_of_ble_eq_true rfl)⟩ hW (Nat.le_of_ble_eq_true rfl) sl_33 rfl rfl hl.1 rfl (Nat.le_of_ble_eq_true rfl) dX7_grade_12 ⟨(Nat.le_of_ble_eq_true rfl), (Nat.le_of_ble_eq_true rfl)⟩) hW (fun r4 M5 H locs h hW => ?_)
  exact sw_ri hx hb hr hlocks hW rfl h dX7_grade_15

theorem cv_X7_doThreshold : sw_cV yX7_doThreshold RX7 cX7_doThreshold 3 (some .int) 1 := ⟨q_1089, q_1394, q_9, q_1090, by decide +kernel⟩
def wX7_doThreshold (a1 : Int32) (M : sM) (Q : Int32 → sM → Prop) : Prop :=
  wX7_in a1 (0 : Int32) (20 : Int32) (fun r1 => (r1 = 0 → (wX7_fails (1 : Int32) M (fun r5 M6 => Q r5 M6))) ∧ (¬ r1 = 0 → (∀ v3 : Int32, v3 = (M 34 ((2 : Int32)).toNatClampNeg) → (∀ M4 : sM, M4 = sw_ms M 34 ((2 : Int32)).toNatClampNeg a1 → (Q v3 M4)))))
set_option maxRecDepth 20000 in
theorem kX7_doThreshold (l : Launch) (g : sG) (o : Nat → Int64) (d : Nat → UInt64) (a1 : Int32) (M : sM) (Q : Int32 → sM → Prop) (h : wX7_doThreshold a1 M Q) : Met l yX7_doThreshold (sw_ws yX7_doThreshold cX7_doThreshold 3 (some .int)) { frames := 1, cells := 0, slots := 0, locals := 22 } (va_Pc [.ref (sw_ad g 33), .int a1] (sw_Pr g o d M)) (va_Qi Q (sw_Po g o d) (sw_A g)) 0 0 (sw_A g) := by
  refine sw_met (by decide) (Nat.le_of_ble_eq_true rfl) ?_
  intro p e s m args below meth c ls hx hb hr hts hown hml hlocks hW hl
  have hown : s.vm.findClass RX7 = some m.cls := hown
  have hl : lv_has ls 3 [(0, .ref (sw_ad g 33)), (1, .int a1)] := hl
  unfold wX7_doThreshold at h
  refine lv_iload_n hx hb dX7_doThreshold_0 rfl (lv_at hl 1 rfl) ?_
  refine lv_iconst (v := 0) hx hb dX7_doThreshold_1 (by decide) ?_
  refine lv_bipush (v := 20) hx hb dX7_doThreshold_2 (by decide) ?_
  refine sw_ki (rest := []) (sw_runS (As := [.int a1, .int (0 : Int32), .int (20 : Int32)]) (rest := []) hx hb hml hown hts (kX7_in l g o d a1 (0 : Int32) (20 : Int32) M _ h) cs_X7_in q_986 rfl rfl ⟨(Nat.le_of_ble_eq_true rfl), (Nat.le_of_ble_eq_true rfl)⟩ hW rfl hl.1 rfl (Nat.le_of_ble_eq_true rfl) dX7_doThreshold_4 ⟨(Nat.le_of_ble_eq_true rfl), (Nat.le_of_ble_eq_true rfl)⟩) hW (fun r1 M7 H locs h hW => ?_)
  obtain ⟨h, eM7⟩ := h
  rw [eM7] at hW
  refine lv_if_ne (tgt := 16) hx hb dX7_doThreshold_7 (by decide) (fun k2 => ?_) (fun k2 => ?_)
  · have h := h.2 k2
    refine lv_aload_n hx hb dX7_doThreshold_16 rfl (lv_at hl 0 rfl) ?_
    refine sw_gr (j := 0) (r := 34) hx hb hts hown hW rfl qf_7 (Nat.le_of_ble_eq_true rfl) sl_33 rfl (Nat.le_of_ble_eq_true rfl) q_944 dX7_doThreshold_17 ?_
    refine lv_iconst (v := 2) hx hb dX7_doThreshold_20 (by decide) ?_
    refine sw_ia (n := 228) hx hb hW (Nat.le_of_ble_eq_true rfl) sl_34 (vp_in_iff.mpr (by decide)) dX7_doThreshold_21 ?_
    refine lv_topi (fun v3 ev3 => ?_)
    have h := h v3 ev3
    refine lv_istore_n (lv' := [(2, .int v3), (0, .ref (sw_ad g 33)), (1, .int a1)]) hx hb dX7_doThreshold_22 rfl hl (Nat.le_of_ble_eq_true rfl) rfl (fun ls hl => ?_)
    refine lv_aload_n hx hb dX7_doThreshold_23 rfl (lv_at hl 1 rfl) ?_
    refine sw_gr (j := 0) (r := 34) hx hb hts hown hW rfl qf_7 (Nat.le_of_ble_eq_true rfl) sl_33 rfl (Nat.le_of_ble_eq_true rfl) q_944 dX7_doThreshold_24 ?_
    refine lv_iconst (v := 2) hx hb dX7_doThreshold_27 (by decide) ?_
    refine lv_iload_n hx hb dX7_doThreshold_28 rfl (lv_at hl 2 rfl) ?_
    refine sw_is (n := 228) hx hb hW (Nat.le_of_ble_eq_true rfl) sl_34 (vp_in_iff.mpr (by decide)) dX7_doThreshold_29 (fun H locs hW => ?_)
    obtain ⟨M4, eM4⟩ : ∃ z : sM, z = sw_ms M 34 ((2 : Int32)).toNatClampNeg a1 := ⟨_, rfl⟩
    rw [← eM4] at hW
    have h := h M4 eM4
    refine lv_iload_n hx hb dX7_doThreshold_30 rfl (lv_at hl 0 rfl) ?_
    exact sw_ri hx hb hr hlocks hW rfl h dX7_doThreshold_31
  · have h := h.1 k2
    refine lv_aload_n hx hb dX7_doThreshold_10 rfl (lv_at hl 0 rfl) ?_
    refine lv_iconst (v := 1) hx hb dX7_doThreshold_11 (by decide) ?_
    refine sw_ki (rest := []) (sw_runV (As := [.int (1 : Int32)]) (rest := []) hx hb hml hown hts (kX7_fails l g o d (1 : Int32) M _ h) cv_X7_fails q_989 rfl rfl ⟨(Nat.le_of_ble_eq_true rfl), (Nat.le_of_ble_eq_true rfl)⟩ hW (Nat.le_of_ble_eq_true rfl) sl_33 rfl rfl hl.1 rfl (Nat.le_of_ble_eq_true rfl) dX7_doThreshold_12 ⟨(Nat.le_of_ble_eq_true rfl), (Nat.le_of_ble_eq_true rfl)⟩) hW (fun r5 M6 H locs h hW => ?_)
    exact sw_ri hx hb hr hlocks hW rfl h dX7_doThreshold_15

theorem cv_X7_setThreshold : sw_cV yX7_setThreshold RX7 cX7_setThreshold 2 (some .int) 1 := ⟨q_1085, q_1086, q_9, q_1087, by decide +kernel⟩
def wX7_setThreshold (a1 : Int32) (M : sM) (Q : Int32 → sM → Prop) : Prop :=
  wX7_keep M (fun M1 => wX7_doThreshold a1 M1 (fun r2 M3 => wX7_ends r2 M3 (fun r4 M5 => Q r4 M5)))
set_option maxRecDepth 20000 in
theorem kX7_setThreshold (l : Launch) (g : sG) (o : Nat → Int64) (d : Nat → UInt64) (a1 : Int32) (M : sM) (Q : Int32 → sM → Prop) (h : wX7_setThreshold a1 M Q) : Met l yX7_setThreshold (sw_ws yX7_setThreshold cX7_setThreshold 2 (some .int)) { frames := 2, cells := 0, slots := 0, locals := 61 } (va_Pc [.ref (sw_ad g 33), .int a1] (sw_Pr g o d M)) (va_Qi Q (sw_Po g o d) (sw_A g)) 0 0 (sw_A g) := by
  refine sw_met (by decide) (Nat.le_of_ble_eq_true rfl) ?_
  intro p e s m args below meth c ls hx hb hr hts hown hml hlocks hW hl
  have hown : s.vm.findClass RX7 = some m.cls := hown
  have hl : lv_has ls 2 [(0, .ref (sw_ad g 33)), (1, .int a1)] := hl
  unfold wX7_setThreshold at h
  refine lv_aload_n hx hb dX7_setThreshold_0 rfl (lv_at hl 0 rfl) ?_
  refine sw_kv (rest := []) (sw_runV (As := []) (rest := []) hx hb hml hown hts (kX7_keep l g o d M _ h) cv_X7_keep q_974 rfl rfl ⟨(Nat.le_of_ble_eq_true rfl), (Nat.le_of_ble_eq_true rfl)⟩ hW (Nat.le_of_ble_eq_true rfl) sl_33 rfl rfl hl.1 rfl (Nat.le_of_ble_eq_true rfl) dX7_setThreshold_1 ⟨(Nat.le_of_ble_eq_true rfl), (Nat.le_of_ble_eq_true rfl)⟩) hW (fun  M1 H locs h hW => ?_)
  refine lv_aload_n hx hb dX7_setThreshold_4 rfl (lv_at hl 0 rfl) ?_
  refine lv_aload_n hx hb dX7_setThreshold_5 rfl (lv_at hl 0 rfl) ?_
  refine lv_iload_n hx hb dX7_setThreshold_6 rfl (lv_at hl 1 rfl) ?_
  refine sw_ki (rest := [.ref (sw_ad g 33)]) (sw_runV (As := [.int a1]) (rest := [.ref (sw_ad g 33)]) hx hb hml hown hts (kX7_doThreshold l g o d a1 M1 _ h) cv_X7_doThreshold q_1088 rfl rfl ⟨(Nat.le_of_ble_eq_true rfl), (Nat.le_of_ble_eq_true rfl)⟩ hW (Nat.le_of_ble_eq_true rfl) sl_33 rfl rfl hl.1 rfl (Nat.le_of_ble_eq_true rfl) dX7_setThreshold_7 ⟨(Nat.le_of_ble_eq_true rfl), (Nat.le_of_ble_eq_true rfl)⟩) hW (fun r2 M3 H locs h hW => ?_)
  refine sw_ki (rest := []) (sw_runV (As := [.int r2]) (rest := []) hx hb hml hown hts (kX7_ends l g o d r2 M3 _ h) cv_X7_ends q_992 rfl rfl ⟨(Nat.le_of_ble_eq_true rfl), (Nat.le_of_ble_eq_true rfl)⟩ hW (Nat.le_of_ble_eq_true rfl) sl_33 rfl rfl hl.1 rfl (Nat.le_of_ble_eq_true rfl) dX7_setThreshold_10 ⟨(Nat.le_of_ble_eq_true rfl), (Nat.le_of_ble_eq_true rfl)⟩) hW (fun r4 M5 H locs h hW => ?_)
  exact sw_ri hx hb hr hlocks hW rfl h dX7_setThreshold_13

theorem cv_X7_canSit : sw_cV yX7_canSit RX7 cX7_canSit 3 (some .boolean) 2 := ⟨q_1110, q_1399, q_9, q_1111, by decide +kernel⟩
def wX7_canSit (a1 : Int32) (a2 : Int32) (M : sM) (Q : Int32 → Prop) : Prop :=
  wX7_neutral a1 a2 M (fun r1 => (r1 = 0 → (Q (0 : Int32))) ∧ (¬ r1 = 0 → (wX7_assigned a1 a2 M (fun r3 => (r3 = 0 → (Q (1 : Int32))) ∧ (¬ r3 = 0 → (Q (0 : Int32)))))))
set_option maxRecDepth 20000 in
theorem kX7_canSit (l : Launch) (g : sG) (o : Nat → Int64) (d : Nat → UInt64) (a1 : Int32) (a2 : Int32) (M : sM) (Q : Int32 → Prop) (h : wX7_canSit a1 a2 M Q) : Met l yX7_canSit (sw_ws yX7_canSit cX7_canSit 3 (some .boolean)) { frames := 2, cells := 0, slots := 0, locals := 45 } (va_Pc [.ref (sw_ad g 33), .int a1, .int a2] (sw_Pr g o d M)) (va_Qi (fun r M1 => Q r ∧ M1 = M) (sw_Po g o d) (sw_A g)) 0 0 (sw_A g) := by
  refine sw_met (by decide) (Nat.le_of_ble_eq_true rfl) ?_
  intro p e s m args below meth c ls hx hb hr hts hown hml hlocks hW hl
  have hown : s.vm.findClass RX7 = some m.cls := hown
  have hl : lv_has ls 3 [(0, .ref (sw_ad g 33)), (1, .int a1), (2, .int a2)] := hl
  unfold wX7_canSit at h
  refine lv_aload_n hx hb dX7_canSit_0 rfl (lv_at hl 0 rfl) ?_
  refine lv_iload_n hx hb dX7_canSit_1 rfl (lv_at hl 1 rfl) ?_
  refine lv_iload_n hx hb dX7_canSit_2 rfl (lv_at hl 2 rfl) ?_
  refine sw_ki (rest := []) (sw_runV (As := [.int a1, .int a2]) (rest := []) hx hb hml hown hts (kX7_neutral l g o d a1 a2 M _ h) cv_X7_neutral q_1027 rfl rfl ⟨(Nat.le_of_ble_eq_true rfl), (Nat.le_of_ble_eq_true rfl)⟩ hW (Nat.le_of_ble_eq_true rfl) sl_33 rfl rfl hl.1 rfl (Nat.le_of_ble_eq_true rfl) dX7_canSit_3 ⟨(Nat.le_of_ble_eq_true rfl), (Nat.le_of_ble_eq_true rfl)⟩) hW (fun r1 M6 H locs h hW => ?_)
  obtain ⟨h, eM6⟩ := h
  rw [eM6] at hW
  refine lv_if_eq (tgt := 22) hx hb dX7_canSit_6 (by decide) (fun k2 => ?_) (fun k2 => ?_)
  · have h := h.1 k2
    refine lv_iconst (v := 0) hx hb dX7_canSit_22 (by decide) ?_
    exact sw_ri hx hb hr hlocks hW (by decide) ⟨h, rfl⟩ dX7_canSit_23
  · have h := h.2 k2
    refine lv_aload_n hx hb dX7_canSit_9 rfl (lv_at hl 0 rfl) ?_
    refine lv_iload_n hx hb dX7_canSit_10 rfl (lv_at hl 1 rfl) ?_
    refine lv_iload_n hx hb dX7_canSit_11 rfl (lv_at hl 2 rfl) ?_
    refine sw_ki (rest := []) (sw_runV (As := [.int a1, .int a2]) (rest := []) hx hb hml hown hts (kX7_assigned l g o d a1 a2 M _ h) cv_X7_assigned q_1021 rfl rfl ⟨(Nat.le_of_ble_eq_true rfl), (Nat.le_of_ble_eq_true rfl)⟩ hW (Nat.le_of_ble_eq_true rfl) sl_33 rfl rfl hl.1 rfl (Nat.le_of_ble_eq_true rfl) dX7_canSit_12 ⟨(Nat.le_of_ble_eq_true rfl), (Nat.le_of_ble_eq_true rfl)⟩) hW (fun r3 M5 H locs h hW => ?_)
    obtain ⟨h, eM5⟩ := h
    rw [eM5] at hW
    refine lv_if_ne (tgt := 22) hx hb dX7_canSit_15 (by decide) (fun k4 => ?_) (fun k4 => ?_)
    · have h := h.2 k4
      refine lv_iconst (v := 0) hx hb dX7_canSit_22 (by decide) ?_
      exact sw_ri hx hb hr hlocks hW (by decide) ⟨h, rfl⟩ dX7_canSit_23
    · have h := h.1 k4
      refine lv_iconst (v := 1) hx hb dX7_canSit_18 (by decide) ?_
      refine lv_goto (tgt := 23) hx hb dX7_canSit_19 (by decide) ?_
      exact sw_ri hx hb hr hlocks hW (by decide) ⟨h, rfl⟩ dX7_canSit_23

def jX7_panels_191 (x3_12 : Int32) (x4_12 : Int32) (t0_156 : Int32) (N12 : Int32 → Int32 → sM → Prop) (M_191 : sM) : Prop :=
  (t0_156 = 0 → (∀ v7 : Int32, v7 = (x3_12 + (0 : Int32)) → (∀ v8 : Int32, v8 = x4_12 + (1 : Int32) → (N12 v7 v8 M_191)))) ∧ (¬ t0_156 = 0 → (∀ v9 : Int32, v9 = (x3_12 + (1 : Int32)) → (∀ v10 : Int32, v10 = x4_12 + (1 : Int32) → (N12 v9 v10 M_191))))
def jX7_panels_156 (x3_12 : Int32) (x4_12 : Int32) (M_12 : sM) (v3 : Int32) (v4 : Int32) (v5 : Int32) (N12 : Int32 → Int32 → sM → Prop) (t0_156 : Int32) : Prop :=
  (t0_156 = 0 → (jX7_panels_191 x3_12 x4_12 t0_156 N12 M_12)) ∧ (¬ t0_156 = 0 → ((x3_12 = 0 → (∀ M13 : sM, M13 = sw_ms M_12 42 ((0 : Int32)).toNatClampNeg v3 → (∀ M14 : sM, M14 = sw_ms M13 42 ((1 : Int32)).toNatClampNeg v4 → (∀ M15 : sM, M15 = sw_ms M14 42 ((2 : Int32)).toNatClampNeg v5 → (jX7_panels_191 x3_12 x4_12 t0_156 N12 M15))))) ∧ (¬ x3_12 = 0 → (jX7_panels_191 x3_12 x4_12 t0_156 N12 M_12))))
def jX7_panels_93 (x3_12 : Int32) (x4_12 : Int32) (M_12 : sM) (v3 : Int32) (v4 : Int32) (v5 : Int32) (N12 : Int32 → Int32 → sM → Prop) (t0_93 : Int32) : Prop :=
  (t0_93 = 0 → (jX7_panels_156 x3_12 x4_12 M_12 v3 v4 v5 N12 (0 : Int32))) ∧ (¬ t0_93 = 0 → (wX7_examiner v3 (0 : Int32) M_12 (fun r17 => wX7_examiner v4 (0 : Int32) M_12 (fun r18 => (r17 = r18 → (jX7_panels_156 x3_12 x4_12 M_12 v3 v4 v5 N12 (0 : Int32))) ∧ (¬ r17 = r18 → (wX7_examiner v3 (0 : Int32) M_12 (fun r20 => wX7_examiner v5 (0 : Int32) M_12 (fun r21 => (r20 = r21 → (jX7_panels_156 x3_12 x4_12 M_12 v3 v4 v5 N12 (0 : Int32))) ∧ (¬ r20 = r21 → (wX7_examiner v4 (0 : Int32) M_12 (fun r23 => wX7_examiner v5 (0 : Int32) M_12 (fun r24 => (r23 = r24 → (jX7_panels_156 x3_12 x4_12 M_12 v3 v4 v5 N12 (0 : Int32))) ∧ (¬ r23 = r24 → (jX7_panels_156 x3_12 x4_12 M_12 v3 v4 v5 N12 (1 : Int32)))))))))))))))
def lX7_panels_12 (a1 : Int32) (v1 : Int32) (K12 : Int32 → sM → Prop) : Nat → Int32 → Int32 → sM → Prop
  | 0, _, _, _ => False
  | n12 + 1, x3_12, x4_12, M_12 => (((v1 * v1) * v1) ≤ x4_12 → (K12 x3_12 M_12)) ∧ (¬ ((v1 * v1) * v1) ≤ x4_12 → (¬ (v1 * v1) = 0 ∧ (∀ v3 : Int32, v3 = (x4_12 / (v1 * v1)) → (¬ v1 = 0 ∧ (¬ v1 = 0 ∧ (∀ v4 : Int32, v4 = ((x4_12 / v1) - (x4_12 / v1) / v1 * v1) → (¬ v1 = 0 ∧ (∀ v5 : Int32, v5 = (x4_12 - x4_12 / v1 * v1) → ((v4 ≤ v3 → (jX7_panels_93 x3_12 x4_12 M_12 v3 v4 v5 (fun x3_12 x4_12 M_12 => lX7_panels_12 a1 v1 K12 n12 x3_12 x4_12 M_12) (0 : Int32))) ∧ (¬ v4 ≤ v3 → ((v5 ≤ v4 → (jX7_panels_93 x3_12 x4_12 M_12 v3 v4 v5 (fun x3_12 x4_12 M_12 => lX7_panels_12 a1 v1 K12 n12 x3_12 x4_12 M_12) (0 : Int32))) ∧ (¬ v5 ≤ v4 → (wX7_canSit v3 a1 M_12 (fun r34 => (r34 = 0 → (jX7_panels_93 x3_12 x4_12 M_12 v3 v4 v5 (fun x3_12 x4_12 M_12 => lX7_panels_12 a1 v1 K12 n12 x3_12 x4_12 M_12) (0 : Int32))) ∧ (¬ r34 = 0 → (wX7_canSit v4 a1 M_12 (fun r36 => (r36 = 0 → (jX7_panels_93 x3_12 x4_12 M_12 v3 v4 v5 (fun x3_12 x4_12 M_12 => lX7_panels_12 a1 v1 K12 n12 x3_12 x4_12 M_12) (0 : Int32))) ∧ (¬ r36 = 0 → (wX7_canSit v5 a1 M_12 (fun r38 => (r38 = 0 → (jX7_panels_93 x3_12 x4_12 M_12 v3 v4 v5 (fun x3_12 x4_12 M_12 => lX7_panels_12 a1 v1 K12 n12 x3_12 x4_12 M_12) (0 : Int32))) ∧ (¬ r38 = 0 → (jX7_panels_93 x3_12 x4_12 M_12 v3 v4 v5 (fun x3_12 x4_12 M_12 => lX7_panels_12 a1 v1 K12 n12 x3_12 x4_12 M_12) (1 : Int32)))))))))))))))))))))))
theorem cv_X7_panels : sw_cV yX7_panels RX7 cX7_panels 9 (some .int) 1 := ⟨q_1107, q_1398, q_9, q_1108, by decide +kernel⟩
def wX7_panels (a1 : Int32) (M : sM) (Q : Int32 → sM → Prop) : Prop :=
  ∀ v1 : Int32, v1 = (M 34 ((1 : Int32)).toNatClampNeg) → (∃ n12, lX7_panels_12 a1 v1 (fun x3_12k M_12k => Q x3_12k M_12k) n12 (0 : Int32) (0 : Int32) M)
set_option maxRecDepth 20000 in
theorem kX7_panels (l : Launch) (g : sG) (o : Nat → Int64) (d : Nat → UInt64) (a1 : Int32) (M : sM) (Q : Int32 → sM → Prop) (h : wX7_panels a1 M Q) : Met l yX7_panels (sw_ws yX7_panels cX7_panels 9 (some .int)) { frames := 3, cells := 0, slots := 0, locals := 67 } (va_Pc [.ref (sw_ad g 33), .int a1] (sw_Pr g o d M)) (va_Qi Q (sw_Po g o d) (sw_A g)) 0 0 (sw_A g) := by
  refine sw_met (by decide) (Nat.le_of_ble_eq_true rfl) ?_
  intro p e s m args below meth c ls hx hb hr hts hown hml hlocks hW hl
  have hown : s.vm.findClass RX7 = some m.cls := hown
  have hl : lv_has ls 9 [(0, .ref (sw_ad g 33)), (1, .int a1)] := hl
  unfold wX7_panels at h
  refine lv_aload_n hx hb dX7_panels_0 rfl (lv_at hl 0 rfl) ?_
  refine sw_gr (j := 0) (r := 34) hx hb hts hown hW rfl qf_7 (Nat.le_of_ble_eq_true rfl) sl_33 rfl (Nat.le_of_ble_eq_true rfl) q_944 dX7_panels_1 ?_
  refine lv_iconst (v := 1) hx hb dX7_panels_4 (by decide) ?_
  refine sw_ia (n := 228) hx hb hW (Nat.le_of_ble_eq_true rfl) sl_34 (vp_in_iff.mpr (by decide)) dX7_panels_5 ?_
  refine lv_topi (fun v1 ev1 => ?_)
  have h := h v1 ev1
  refine lv_istore_n (lv' := [(2, .int v1), (0, .ref (sw_ad g 33)), (1, .int a1)]) hx hb dX7_panels_6 rfl hl (Nat.le_of_ble_eq_true rfl) rfl (fun ls hl => ?_)
  refine lv_iconst (v := 0) hx hb dX7_panels_7 (by decide) ?_
  refine lv_istore_n (lv' := [(3, .int (0 : Int32)), (2, .int v1), (0, .ref (sw_ad g 33)), (1, .int a1)]) hx hb dX7_panels_8 rfl hl (Nat.le_of_ble_eq_true rfl) rfl (fun ls hl => ?_)
  refine lv_iconst (v := 0) hx hb dX7_panels_9 (by decide) ?_
  refine lv_istore (lv' := [(4, .int (0 : Int32)), (3, .int (0 : Int32)), (2, .int v1), (0, .ref (sw_ad g 33)), (1, .int a1)]) hx hb dX7_panels_10 hl (Nat.le_of_ble_eq_true rfl) rfl (fun ls hl => ?_)
  obtain ⟨n12, h⟩ := h
  refine sw_lp_iiM (hd := 12) (Lf := fun x3_12 x4_12 M_12 => [(0, .ref (sw_ad g 33)), (1, .int a1), (2, .int v1), (3, .int x3_12), (4, .int x4_12)]) h hW (lv_sub hl [3, 4, 2, 1, 0] rfl) (fun _ _ _ h => h) (fun n12 ih12 x3_12 x4_12 M_12 H locs ls h hW hl => ?_)
  rw [lX7_panels_12.eq_2] at h
  refine lv_iload hx hb dX7_panels_12 (lv_at hl 4 rfl) ?_
  refine lv_iload_n hx hb dX7_panels_14 rfl (lv_at hl 2 rfl) ?_
  refine lv_iload_n hx hb dX7_panels_15 rfl (lv_at hl 2 rfl) ?_
  refine lv_imul hx hb dX7_panels_16 ?_
  refine lv_iload_n hx hb dX7_panels_17 rfl (lv_at hl 2 rfl) ?_
  refine lv_imul hx hb dX7_panels_18 ?_
  refine lv_icmp_ge (tgt := 210) hx hb dX7_panels_19 (by decide) (fun k2 => ?_) (fun k2 => ?_)
  · have h := h.1 k2
    refine lv_iload_n hx hb dX7_panels_210 rfl (lv_at hl 3 rfl) ?_
    exact sw_ri hx hb hr hlocks hW rfl h dX7_panels_211
  · have h := h.2 k2
    refine lv_iload hx hb dX7_panels_22 (lv_at hl 4 rfl) ?_
    refine lv_iload_n hx hb dX7_panels_24 rfl (lv_at hl 2 rfl) ?_
    refine lv_iload_n hx hb dX7_panels_25 rfl (lv_at hl 2 rfl) ?_
    refine lv_imul hx hb dX7_panels_26 ?_
    have z46 := h.1
    have h := h.2
    refine lv_idiv hx hb dX7_panels_27 z46 ?_
    refine lv_topi (fun v3 ev3 => ?_)
    have h := h v3 ev3
    refine lv_istore (lv' := [(5, .int v3), (0, .ref (sw_ad g 33)), (1, .int a1), (2, .int v1), (3, .int x3_12), (4, .int x4_12)]) hx hb dX7_panels_28 hl (Nat.le_of_ble_eq_true rfl) rfl (fun ls hl => ?_)
    refine lv_iload hx hb dX7_panels_30 (lv_at hl 5 rfl) ?_
    refine lv_iload_n hx hb dX7_panels_32 rfl (lv_at hl 3 rfl) ?_
    have z45 := h.1
    have h := h.2
    refine lv_idiv hx hb dX7_panels_33 z45 ?_
    refine lv_iload_n hx hb dX7_panels_34 rfl (lv_at hl 3 rfl) ?_
    have z44 := h.1
    have h := h.2
    refine lv_irem hx hb dX7_panels_35 z44 ?_
    refine lv_topi (fun v4 ev4 => ?_)
    have h := h v4 ev4
    refine lv_istore (lv' := [(6, .int v4), (5, .int v3), (0, .ref (sw_ad g 33)), (1, .int a1), (2, .int v1), (3, .int x3_12), (4, .int x4_12)]) hx hb dX7_panels_36 hl (Nat.le_of_ble_eq_true rfl) rfl (fun ls hl => ?_)
    refine lv_iload hx hb dX7_panels_38 (lv_at hl 6 rfl) ?_
    refine lv_iload_n hx hb dX7_panels_40 rfl (lv_at hl 4 rfl) ?_
    have z43 := h.1
    have h := h.2
    refine lv_irem hx hb dX7_panels_41 z43 ?_
    refine lv_topi (fun v5 ev5 => ?_)
    have h := h v5 ev5
    refine lv_istore (lv' := [(7, .int v5), (6, .int v4), (5, .int v3), (0, .ref (sw_ad g 33)), (1, .int a1), (2, .int v1), (3, .int x3_12), (4, .int x4_12)]) hx hb dX7_panels_42 hl (Nat.le_of_ble_eq_true rfl) rfl (fun ls hl => ?_)
    refine lv_iload hx hb dX7_panels_44 (lv_at hl 2 rfl) ?_
    refine lv_iload hx hb dX7_panels_46 (lv_at hl 1 rfl) ?_
    refine sw_jn_i (g := g) (o := o) (d := d) (nL := 9) (M := M_12) (jp := 93) (J := fun t0_93 => jX7_panels_93 x3_12 x4_12 M_12 v3 v4 v5 (fun x3_12 x4_12 M_12 => lX7_panels_12 a1 v1 (fun x3_12k M_12k => Q x3_12k M_12k) n12 x3_12 x4_12 M_12) t0_93) (Lf := fun t0_93 => [(0, .ref (sw_ad g 33)), (1, .int a1), (2, .int v1), (3, .int x3_12), (4, .int x4_12), (5, .int v3), (6, .int v4), (7, .int v5)]) (Sf := fun t0_93 => [.int t0_93]) (fun t0_93 H locs ls h hW hl => ?_) (fun hJ93 => ?_)
    · unfold jX7_panels_93 at h
      refine lv_istore (lv' := [(8, .int t0_93), (0, .ref (sw_ad g 33)), (1, .int a1), (2, .int v1), (3, .int x3_12), (4, .int x4_12), (5, .int v3), (6, .int v4), (7, .int v5)]) hx hb dX7_panels_93 hl (Nat.le_of_ble_eq_true rfl) rfl (fun ls hl => ?_)
      refine lv_iload hx hb dX7_panels_95 (lv_at hl 0 rfl) ?_
      refine sw_jn_i (g := g) (o := o) (d := d) (nL := 9) (M := M_12) (jp := 156) (J := fun t0_156 => jX7_panels_156 x3_12 x4_12 M_12 v3 v4 v5 (fun x3_12 x4_12 M_12 => lX7_panels_12 a1 v1 (fun x3_12k M_12k => Q x3_12k M_12k) n12 x3_12 x4_12 M_12) t0_156) (Lf := fun t0_156 => [(0, .ref (sw_ad g 33)), (1, .int a1), (2, .int v1), (3, .int x3_12), (4, .int x4_12), (5, .int v3), (6, .int v4), (7, .int v5)]) (Sf := fun t0_156 => [.int t0_156]) (fun t0_156 H locs ls h hW hl => ?_) (fun hJ156 => ?_)
      · unfold jX7_panels_156 at h
        refine lv_istore (lv' := [(8, .int t0_156), (0, .ref (sw_ad g 33)), (1, .int a1), (2, .int v1), (3, .int x3_12), (4, .int x4_12), (5, .int v3), (6, .int v4), (7, .int v5)]) hx hb dX7_panels_156 hl (Nat.le_of_ble_eq_true rfl) rfl (fun ls hl => ?_)
        refine lv_iload hx hb dX7_panels_158 (lv_at hl 0 rfl) ?_
        refine sw_jn_M (g := g) (o := o) (d := d) (nL := 9) (jp := 191) (J := fun M_191 => jX7_panels_191 x3_12 x4_12 t0_156 (fun x3_12 x4_12 M_12 => lX7_panels_12 a1 v1 (fun x3_12k M_12k => Q x3_12k M_12k) n12 x3_12 x4_12 M_12) M_191) (Lf := fun M_191 => [(0, .ref (sw_ad g 33)), (1, .int a1), (2, .int v1), (3, .int x3_12), (4, .int x4_12), (8, .int t0_156)]) (Sf := fun M_191 => []) (fun M_191 H locs ls h hW hl => ?_) (fun hJ191 => ?_)
        · unfold jX7_panels_191 at h
          refine lv_iload_n hx hb dX7_panels_191 rfl (lv_at hl 3 rfl) ?_
          refine lv_iload hx hb dX7_panels_192 (lv_at hl 5 rfl) ?_
          refine lv_if_eq (tgt := 201) hx hb dX7_panels_194 (by decide) (fun k6 => ?_) (fun k6 => ?_)
          · have h := h.1 k6
            refine lv_iconst (v := 0) hx hb dX7_panels_201 (by decide) ?_
            refine lv_iadd hx hb dX7_panels_202 ?_
            refine lv_topi (fun v7 ev7 => ?_)
            have h := h v7 ev7
            refine lv_istore_n (lv' := [(3, .int v7), (0, .ref (sw_ad g 33)), (1, .int a1), (2, .int v1), (4, .int x4_12), (8, .int t0_156)]) hx hb dX7_panels_203 rfl hl (Nat.le_of_ble_eq_true rfl) rfl (fun ls hl => ?_)
            obtain ⟨v8, ev8⟩ : ∃ z : Int32, z = x4_12 + (1 : Int32) := ⟨_, rfl⟩
            have h := h v8 ev8
            refine lv_iinc (v := v8) (lv' := [(4, .int v8), (3, .int v7), (0, .ref (sw_ad g 33)), (1, .int a1), (2, .int v1), (8, .int t0_156)]) hx hb dX7_panels_204 hl (k := 4) rfl (by rw [ev8]; rfl) (Nat.le_of_ble_eq_true rfl) rfl (fun ls hl => ?_)
            refine lv_goto (tgt := 12) hx hb dX7_panels_207 (by decide) ?_
            exact ih12 _ _ _ _ _ _ h hW (lv_sub hl [2, 3, 4, 1, 0] rfl)
          · have h := h.2 k6
            refine lv_iconst (v := 1) hx hb dX7_panels_197 (by decide) ?_
            refine lv_goto (tgt := 202) hx hb dX7_panels_198 (by decide) ?_
            refine lv_iadd hx hb dX7_panels_202 ?_
            refine lv_topi (fun v9 ev9 => ?_)
            have h := h v9 ev9
            refine lv_istore_n (lv' := [(3, .int v9), (0, .ref (sw_ad g 33)), (1, .int a1), (2, .int v1), (4, .int x4_12), (8, .int t0_156)]) hx hb dX7_panels_203 rfl hl (Nat.le_of_ble_eq_true rfl) rfl (fun ls hl => ?_)
            obtain ⟨v10, ev10⟩ : ∃ z : Int32, z = x4_12 + (1 : Int32) := ⟨_, rfl⟩
            have h := h v10 ev10
            refine lv_iinc (v := v10) (lv' := [(4, .int v10), (3, .int v9), (0, .ref (sw_ad g 33)), (1, .int a1), (2, .int v1), (8, .int t0_156)]) hx hb dX7_panels_204 hl (k := 4) rfl (by rw [ev10]; rfl) (Nat.le_of_ble_eq_true rfl) rfl (fun ls hl => ?_)
            refine lv_goto (tgt := 12) hx hb dX7_panels_207 (by decide) ?_
            exact ih12 _ _ _ _ _ _ h hW (lv_sub hl [2, 3, 4, 1, 0] rfl)
        · refine lv_if_eq (tgt := 191) hx hb dX7_panels_160 (by decide) (fun k11 => ?_) (fun k11 => ?_)
          · have h := h.1 k11
            exact hJ191 _ _ _ _ h hW (lv_sub hl [1, 2, 3, 4, 5, 0] rfl)
          · have h := h.2 k11
            refine lv_iload_n hx hb dX7_panels_163 rfl (lv_at hl 4 rfl) ?_
            refine lv_if_ne (tgt := 191) hx hb dX7_panels_164 (by decide) (fun k12 => ?_) (fun k12 => ?_)
            · have h := h.2 k12
              exact hJ191 _ _ _ _ h hW (lv_sub hl [1, 2, 3, 4, 5, 0] rfl)
            · have h := h.1 k12
              refine lv_aload_n hx hb dX7_panels_167 rfl (lv_at hl 1 rfl) ?_
              refine sw_gr (j := 11) (r := 42) hx hb hts hown hW rfl qf_7 (Nat.le_of_ble_eq_true rfl) sl_33 rfl (Nat.le_of_ble_eq_true rfl) q_955 dX7_panels_168 ?_
              refine lv_iconst (v := 0) hx hb dX7_panels_171 (by decide) ?_
              refine lv_iload hx hb dX7_panels_172 (lv_at hl 6 rfl) ?_
              refine sw_is (n := 3) hx hb hW (Nat.le_of_ble_eq_true rfl) sl_42 (vp_in_iff.mpr (by decide)) dX7_panels_174 (fun H locs hW => ?_)
              obtain ⟨M13, eM13⟩ : ∃ z : sM, z = sw_ms M_12 42 ((0 : Int32)).toNatClampNeg v3 := ⟨_, rfl⟩
              rw [← eM13] at hW
              have h := h M13 eM13
              refine lv_aload_n hx hb dX7_panels_175 rfl (lv_at hl 1 rfl) ?_
              refine sw_gr (j := 11) (r := 42) hx hb hts hown hW rfl qf_7 (Nat.le_of_ble_eq_true rfl) sl_33 rfl (Nat.le_of_ble_eq_true rfl) q_955 dX7_panels_176 ?_
              refine lv_iconst (v := 1) hx hb dX7_panels_179 (by decide) ?_
              refine lv_iload hx hb dX7_panels_180 (lv_at hl 7 rfl) ?_
              refine sw_is (n := 3) hx hb hW (Nat.le_of_ble_eq_true rfl) sl_42 (vp_in_iff.mpr (by decide)) dX7_panels_182 (fun H locs hW => ?_)
              obtain ⟨M14, eM14⟩ : ∃ z : sM, z = sw_ms M13 42 ((1 : Int32)).toNatClampNeg v4 := ⟨_, rfl⟩
              rw [← eM14] at hW
              have h := h M14 eM14
              refine lv_aload_n hx hb dX7_panels_183 rfl (lv_at hl 1 rfl) ?_
              refine sw_gr (j := 11) (r := 42) hx hb hts hown hW rfl qf_7 (Nat.le_of_ble_eq_true rfl) sl_33 rfl (Nat.le_of_ble_eq_true rfl) q_955 dX7_panels_184 ?_
              refine lv_iconst (v := 2) hx hb dX7_panels_187 (by decide) ?_
              refine lv_iload hx hb dX7_panels_188 (lv_at hl 8 rfl) ?_
              refine sw_is (n := 3) hx hb hW (Nat.le_of_ble_eq_true rfl) sl_42 (vp_in_iff.mpr (by decide)) dX7_panels_190 (fun H locs hW => ?_)
              obtain ⟨M15, eM15⟩ : ∃ z : sM, z = sw_ms M14 42 ((2 : Int32)).toNatClampNeg v5 := ⟨_, rfl⟩
              rw [← eM15] at hW
              have h := h M15 eM15
              exact hJ191 _ _ _ _ h hW (lv_sub hl [1, 2, 3, 4, 5, 0] rfl)
      · refine lv_if_eq (tgt := 155) hx hb dX7_panels_97 (by decide) (fun k16 => ?_) (fun k16 => ?_)
        · have h := h.1 k16
          refine lv_iconst (v := 0) hx hb dX7_panels_155 (by decide) ?_
          exact hJ156 _ _ _ _ h hW (lv_sub hl [1, 2, 3, 4, 5, 6, 7, 8] rfl)
        · have h := h.2 k16
          refine lv_aload_n hx hb dX7_panels_100 rfl (lv_at hl 1 rfl) ?_
          refine lv_iload hx hb dX7_panels_101 (lv_at hl 6 rfl) ?_
          refine lv_iconst (v := 0) hx hb dX7_panels_103 (by decide) ?_
          refine sw_ki (rest := []) (sw_runV (As := [.int v3, .int (0 : Int32)]) (rest := []) hx hb hml hown hts (kX7_examiner l g o d v3 (0 : Int32) M_12 _ h) cv_X7_examiner q_1030 rfl rfl ⟨(Nat.le_of_ble_eq_true rfl), (Nat.le_of_ble_eq_true rfl)⟩ hW (Nat.le_of_ble_eq_true rfl) sl_33 rfl rfl hl.1 rfl (Nat.le_of_ble_eq_true rfl) dX7_panels_104 ⟨(Nat.le_of_ble_eq_true rfl), (Nat.le_of_ble_eq_true rfl)⟩) hW (fun r17 M31 H locs h hW => ?_)
          obtain ⟨h, eM31⟩ := h
          rw [eM31] at hW
          refine lv_aload_n hx hb dX7_panels_107 rfl (lv_at hl 1 rfl) ?_
          refine lv_iload hx hb dX7_panels_108 (lv_at hl 7 rfl) ?_
          refine lv_iconst (v := 0) hx hb dX7_panels_110 (by decide) ?_
          refine sw_ki (rest := [.int r17]) (sw_runV (As := [.int v4, .int (0 : Int32)]) (rest := [.int r17]) hx hb hml hown hts (kX7_examiner l g o d v4 (0 : Int32) M_12 _ h) cv_X7_examiner q_1030 rfl rfl ⟨(Nat.le_of_ble_eq_true rfl), (Nat.le_of_ble_eq_true rfl)⟩ hW (Nat.le_of_ble_eq_true rfl) sl_33 rfl rfl hl.1 rfl (Nat.le_of_ble_eq_true rfl) dX7_panels_111 ⟨(Nat.le_of_ble_eq_true rfl), (Nat.le_of_ble_eq_true rfl)⟩) hW (fun r18 M30 H locs h hW => ?_)
          obtain ⟨h, eM30⟩ := h
          rw [eM30] at hW
          refine lv_icmp_eq (tgt := 155) hx hb dX7_panels_114 (by decide) (fun k19 => ?_) (fun k19 => ?_)
          · have h := h.1 k19
            refine lv_iconst (v := 0) hx hb dX7_panels_155 (by decide) ?_
            exact hJ156 _ _ _ _ h hW (lv_sub hl [1, 2, 3, 4, 5, 6, 7, 8] rfl)
          · have h := h.2 k19
            refine lv_aload_n hx hb dX7_panels_117 rfl (lv_at hl 1 rfl) ?_
            refine lv_iload hx hb dX7_panels_118 (lv_at hl 6 rfl) ?_
            refine lv_iconst (v := 0) hx hb dX7_panels_120 (by decide) ?_
            refine sw_ki (rest := []) (sw_runV (As := [.int v3, .int (0 : Int32)]) (rest := []) hx hb hml hown hts (kX7_examiner l g o d v3 (0 : Int32) M_12 _ h) cv_X7_examiner q_1030 rfl rfl ⟨(Nat.le_of_ble_eq_true rfl), (Nat.le_of_ble_eq_true rfl)⟩ hW (Nat.le_of_ble_eq_true rfl) sl_33 rfl rfl hl.1 rfl (Nat.le_of_ble_eq_true rfl) dX7_panels_121 ⟨(Nat.le_of_ble_eq_true rfl), (Nat.le_of_ble_eq_true rfl)⟩) hW (fun r20 M29 H locs h hW => ?_)
            obtain ⟨h, eM29⟩ := h
            rw [eM29] at hW
            refine lv_aload_n hx hb dX7_panels_124 rfl (lv_at hl 1 rfl) ?_
            refine lv_iload hx hb dX7_panels_125 (lv_at hl 8 rfl) ?_
            refine lv_iconst (v := 0) hx hb dX7_panels_127 (by decide) ?_
            refine sw_ki (rest := [.int r20]) (sw_runV (As := [.int v5, .int (0 : Int32)]) (rest := [.int r20]) hx hb hml hown hts (kX7_examiner l g o d v5 (0 : Int32) M_12 _ h) cv_X7_examiner q_1030 rfl rfl ⟨(Nat.le_of_ble_eq_true rfl), (Nat.le_of_ble_eq_true rfl)⟩ hW (Nat.le_of_ble_eq_true rfl) sl_33 rfl rfl hl.1 rfl (Nat.le_of_ble_eq_true rfl) dX7_panels_128 ⟨(Nat.le_of_ble_eq_true rfl), (Nat.le_of_ble_eq_true rfl)⟩) hW (fun r21 M28 H locs h hW => ?_)
            obtain ⟨h, eM28⟩ := h
            rw [eM28] at hW
            refine lv_icmp_eq (tgt := 155) hx hb dX7_panels_131 (by decide) (fun k22 => ?_) (fun k22 => ?_)
            · have h := h.1 k22
              refine lv_iconst (v := 0) hx hb dX7_panels_155 (by decide) ?_
              exact hJ156 _ _ _ _ h hW (lv_sub hl [1, 2, 3, 4, 5, 6, 7, 8] rfl)
            · have h := h.2 k22
              refine lv_aload_n hx hb dX7_panels_134 rfl (lv_at hl 1 rfl) ?_
              refine lv_iload hx hb dX7_panels_135 (lv_at hl 7 rfl) ?_
              refine lv_iconst (v := 0) hx hb dX7_panels_137 (by decide) ?_
              refine sw_ki (rest := []) (sw_runV (As := [.int v4, .int (0 : Int32)]) (rest := []) hx hb hml hown hts (kX7_examiner l g o d v4 (0 : Int32) M_12 _ h) cv_X7_examiner q_1030 rfl rfl ⟨(Nat.le_of_ble_eq_true rfl), (Nat.le_of_ble_eq_true rfl)⟩ hW (Nat.le_of_ble_eq_true rfl) sl_33 rfl rfl hl.1 rfl (Nat.le_of_ble_eq_true rfl) dX7_panels_138 ⟨(Nat.le_of_ble_eq_true rfl), (Nat.le_of_ble_eq_true rfl)⟩) hW (fun r23 M27 H locs h hW => ?_)
              obtain ⟨h, eM27⟩ := h
              rw [eM27] at hW
              refine lv_aload_n hx hb dX7_panels_141 rfl (lv_at hl 1 rfl) ?_
              refine lv_iload hx hb dX7_panels_142 (lv_at hl 8 rfl) ?_
              refine lv_iconst (v := 0) hx hb dX7_panels_144 (by decide) ?_
              refine sw_ki (rest := [.int r23]) (sw_runV (As := [.int v5, .int (0 : Int32)]) (rest := [.int r23]) hx hb hml hown hts (kX7_examiner l g o d v5 (0 : Int32) M_12 _ h) cv_X7_examiner q_1030 rfl rfl ⟨(Nat.le_of_ble_eq_true rfl), (Nat.le_of_ble_eq_true rfl)⟩ hW (Nat.le_of_ble_eq_true rfl) sl_33 rfl rfl hl.1 rfl (Nat.le_of_ble_eq_true rfl) dX7_panels_145 ⟨(Nat.le_of_ble_eq_true rfl), (Nat.le_of_ble_eq_true rfl)⟩) hW (fun r24 M26 H locs h hW => ?_)
              obtain ⟨h, eM26⟩ := h
              rw [eM26] at hW
              refine lv_icmp_eq (tgt := 155) hx hb dX7_panels_148 (by decide) (fun k25 => ?_) (fun k25 => ?_)
              · have h := h.1 k25
                refine lv_iconst (v := 0) hx hb dX7_panels_155 (by decide) ?_
                exact hJ156 _ _ _ _ h hW (lv_sub hl [1, 2, 3, 4, 5, 6, 7, 8] rfl)
              · have h := h.2 k25
                refine lv_iconst (v := 1) hx hb dX7_panels_151 (by decide) ?_
                refine lv_goto (tgt := 156) hx hb dX7_panels_152 (by decide) ?_
                exact hJ156 _ _ _ _ h hW (lv_sub hl [1, 2, 3, 4, 5, 6, 7, 8] rfl)
    · refine lv_icmp_ge (tgt := 92) hx hb dX7_panels_48 (by decide) (fun k32 => ?_) (fun k32 => ?_)
      · have h := h.1 k32
        refine lv_iconst (v := 0) hx hb dX7_panels_92 (by decide) ?_
        exact hJ93 _ _ _ _ h hW (lv_sub hl [3, 4, 5, 6, 7, 2, 1, 0] rfl)
      · have h := h.2 k32
        refine lv_iload hx hb dX7_panels_51 (lv_at hl 1 rfl) ?_
        refine lv_iload hx hb dX7_panels_53 (lv_at hl 0 rfl) ?_
        refine lv_icmp_ge (tgt := 92) hx hb dX7_panels_55 (by decide) (fun k33 => ?_) (fun k33 => ?_)
        · have h := h.1 k33
          refine lv_iconst (v := 0) hx hb dX7_panels_92 (by decide) ?_
          exact hJ93 _ _ _ _ h hW (lv_sub hl [3, 4, 5, 6, 7, 2, 1, 0] rfl)
        · have h := h.2 k33
          refine lv_aload_n hx hb dX7_panels_58 rfl (lv_at hl 3 rfl) ?_
          refine lv_iload hx hb dX7_panels_59 (lv_at hl 2 rfl) ?_
          refine lv_iload_n hx hb dX7_panels_61 rfl (lv_at hl 4 rfl) ?_
          refine sw_ki (rest := []) (sw_runV (As := [.int v3, .int a1]) (rest := []) hx hb hml hown hts (kX7_canSit l g o d v3 a1 M_12 _ h) cv_X7_canSit q_1109 rfl rfl ⟨(Nat.le_of_ble_eq_true rfl), (Nat.le_of_ble_eq_true rfl)⟩ hW (Nat.le_of_ble_eq_true rfl) sl_33 rfl rfl hl.1 rfl (Nat.le_of_ble_eq_true rfl) dX7_panels_62 ⟨(Nat.le_of_ble_eq_true rfl), (Nat.le_of_ble_eq_true rfl)⟩) hW (fun r34 M42 H locs h hW => ?_)
          obtain ⟨h, eM42⟩ := h
          rw [eM42] at hW
          refine lv_if_eq (tgt := 92) hx hb dX7_panels_65 (by decide) (fun k35 => ?_) (fun k35 => ?_)
          · have h := h.1 k35
            refine lv_iconst (v := 0) hx hb dX7_panels_92 (by decide) ?_
            exact hJ93 _ _ _ _ h hW (lv_sub hl [3, 4, 5, 6, 7, 2, 1, 0] rfl)
          · have h := h.2 k35
            refine lv_aload_n hx hb dX7_panels_68 rfl (lv_at hl 3 rfl) ?_
            refine lv_iload hx hb dX7_panels_69 (lv_at hl 1 rfl) ?_
            refine lv_iload_n hx hb dX7_panels_71 rfl (lv_at hl 4 rfl) ?_
            refine sw_ki (rest := []) (sw_runV (As := [.int v4, .int a1]) (rest := []) hx hb hml hown hts (kX7_canSit l g o d v4 a1 M_12 _ h) cv_X7_canSit q_1109 rfl rfl ⟨(Nat.le_of_ble_eq_true rfl), (Nat.le_of_ble_eq_true rfl)⟩ hW (Nat.le_of_ble_eq_true rfl) sl_33 rfl rfl hl.1 rfl (Nat.le_of_ble_eq_true rfl) dX7_panels_72 ⟨(Nat.le_of_ble_eq_true rfl), (Nat.le_of_ble_eq_true rfl)⟩) hW (fun r36 M41 H locs h hW => ?_)
            obtain ⟨h, eM41⟩ := h
            rw [eM41] at hW
            refine lv_if_eq (tgt := 92) hx hb dX7_panels_75 (by decide) (fun k37 => ?_) (fun k37 => ?_)
            · have h := h.1 k37
              refine lv_iconst (v := 0) hx hb dX7_panels_92 (by decide) ?_
              exact hJ93 _ _ _ _ h hW (lv_sub hl [3, 4, 5, 6, 7, 2, 1, 0] rfl)
            · have h := h.2 k37
              refine lv_aload_n hx hb dX7_panels_78 rfl (lv_at hl 3 rfl) ?_
              refine lv_iload hx hb dX7_panels_79 (lv_at hl 0 rfl) ?_
              refine lv_iload_n hx hb dX7_panels_81 rfl (lv_at hl 4 rfl) ?_
              refine sw_ki (rest := []) (sw_runV (As := [.int v5, .int a1]) (rest := []) hx hb hml hown hts (kX7_canSit l g o d v5 a1 M_12 _ h) cv_X7_canSit q_1109 rfl rfl ⟨(Nat.le_of_ble_eq_true rfl), (Nat.le_of_ble_eq_true rfl)⟩ hW (Nat.le_of_ble_eq_true rfl) sl_33 rfl rfl hl.1 rfl (Nat.le_of_ble_eq_true rfl) dX7_panels_82 ⟨(Nat.le_of_ble_eq_true rfl), (Nat.le_of_ble_eq_true rfl)⟩) hW (fun r38 M40 H locs h hW => ?_)
              obtain ⟨h, eM40⟩ := h
              rw [eM40] at hW
              refine lv_if_eq (tgt := 92) hx hb dX7_panels_85 (by decide) (fun k39 => ?_) (fun k39 => ?_)
              · have h := h.1 k39
                refine lv_iconst (v := 0) hx hb dX7_panels_92 (by decide) ?_
                exact hJ93 _ _ _ _ h hW (lv_sub hl [3, 4, 5, 6, 7, 2, 1, 0] rfl)
              · have h := h.2 k39
                refine lv_iconst (v := 1) hx hb dX7_panels_88 (by decide) ?_
                refine lv_goto (tgt := 93) hx hb dX7_panels_89 (by decide) ?_
                exact hJ93 _ _ _ _ h hW (lv_sub hl [3, 4, 5, 6, 7, 2, 1, 0] rfl)

def lX7_doAppeal_78 (r3 : Int32) (M14 : sM) (K78 : Int32 → Prop) : Nat → Int32 → Int32 → Prop
  | 0, _, _ => False
  | n78 + 1, x3_78, x6_78 => ((3 : Int32) ≤ x6_78 → (K78 x3_78)) ∧ (¬ (3 : Int32) ≤ x6_78 → (vp_in x6_78 3 ∧ (∀ v32 : Int32, v32 = (M14 42 (x6_78).toNatClampNeg) → (wX7_examiner v32 (3 : Int32) M14 (fun r33 => (r33 < ((M14 34 ((2 : Int32)).toNatClampNeg) - r3) → (∀ v35 : Int32, v35 = (x3_78 + (0 : Int32)) → (∀ v36 : Int32, v36 = x6_78 + (1 : Int32) → ((fun x3_78 x6_78 => lX7_doAppeal_78 r3 M14 K78 n78 x3_78 x6_78) v35 v36)))) ∧ (¬ r33 < ((M14 34 ((2 : Int32)).toNatClampNeg) - r3) → (∀ v37 : Int32, v37 = (x3_78 + (1 : Int32)) → (∀ v38 : Int32, v38 = x6_78 + (1 : Int32) → ((fun x3_78 x6_78 => lX7_doAppeal_78 r3 M14 K78 n78 x3_78 x6_78) v37 v38)))))))))
theorem cv_X7_doAppeal : sw_cV yX7_doAppeal RX7 cX7_doAppeal 8 (some .int) 1 := ⟨q_1096, q_1395, q_9, q_1097, by decide +kernel⟩
def wX7_doAppeal (a1 : Int32) (M : sM) (Q : Int32 → sM → Prop) : Prop :=
  wX7_isDoor a1 M (fun r1 => (r1 = 0 → (wX7_fails (1 : Int32) M (fun r47 M48 => Q r47 M48))) ∧ (¬ r1 = 0 → (wX7_resultOf a1 M (fun r3 => (r3 < 0 → (wX7_fails (2 : Int32) M (fun r5 M6 => Q r5 M6))) ∧ (¬ r3 < 0 → (wX7_hasPassed a1 M (fun r7 => (r7 = 0 → (wX7_door a1 (2 : Int32) M (fun r11 => (r11 = (1 : Int32) → (wX7_fails (2 : Int32) M (fun r42 M43 => Q r42 M43))) ∧ (¬ r11 = (1 : Int32) → (wX7_panels a1 M (fun r13 M14 => (r13 = 0 → (wX7_fails (3 : Int32) M14 (fun r40 M41 => Q r40 M41))) ∧ (¬ r13 = 0 → (∃ n78, lX7_doAppeal_78 r3 M14 (fun x3_78k => vp_in (((4 : Int32) + ((5 : Int32) * a1)) + (2 : Int32)) 228 ∧ (∀ M17 : sM, M17 = sw_ms M14 34 ((((4 : Int32) + ((5 : Int32) * a1)) + (2 : Int32))).toNatClampNeg (1 : Int32) → ((x3_78k < (2 : Int32) → (vp_in (((4 : Int32) + ((5 : Int32) * a1)) + (3 : Int32)) 228 ∧ (∀ M20 : sM, M20 = sw_ms M17 34 ((((4 : Int32) + ((5 : Int32) * a1)) + (3 : Int32))).toNatClampNeg (0 : Int32) → (Q x3_78k M20)))) ∧ (¬ x3_78k < (2 : Int32) → (vp_in (((4 : Int32) + ((5 : Int32) * a1)) + (3 : Int32)) 228 ∧ (∀ M22 : sM, M22 = sw_ms M17 34 ((((4 : Int32) + ((5 : Int32) * a1)) + (3 : Int32))).toNatClampNeg (1 : Int32) → (Q x3_78k M22))))))) n78 (0 : Int32) (0 : Int32))))))))) ∧ (¬ r7 = 0 → (wX7_fails (2 : Int32) M (fun r9 M10 => Q r9 M10))))))))))
set_option maxRecDepth 20000 in
theorem kX7_doAppeal (l : Launch) (g : sG) (o : Nat → Int64) (d : Nat → UInt64) (a1 : Int32) (M : sM) (Q : Int32 → sM → Prop) (h : wX7_doAppeal a1 M Q) : Met l yX7_doAppeal (sw_ws yX7_doAppeal cX7_doAppeal 8 (some .int)) { frames := 4, cells := 0, slots := 0, locals := 95 } (va_Pc [.ref (sw_ad g 33), .int a1] (sw_Pr g o d M)) (va_Qi Q (sw_Po g o d) (sw_A g)) 0 0 (sw_A g) := by
  refine sw_met (by decide) (Nat.le_of_ble_eq_true rfl) ?_
  intro p e s m args below meth c ls hx hb hr hts hown hml hlocks hW hl
  have hown : s.vm.findClass RX7 = some m.cls := hown
  have hl : lv_has ls 8 [(0, .ref (sw_ad g 33)), (1, .int a1)] := hl
  unfold wX7_doAppeal at h
  refine lv_aload_n hx hb dX7_doAppeal_0 rfl (lv_at hl 0 rfl) ?_
  refine lv_iload_n hx hb dX7_doAppeal_1 rfl (lv_at hl 1 rfl) ?_
  refine sw_ki (rest := []) (sw_runV (As := [.int a1]) (rest := []) hx hb hml hown hts (kX7_isDoor l g o d a1 M _ h) cv_X7_isDoor q_1015 rfl rfl ⟨(Nat.le_of_ble_eq_true rfl), (Nat.le_of_ble_eq_true rfl)⟩ hW (Nat.le_of_ble_eq_true rfl) sl_33 rfl rfl hl.1 rfl (Nat.le_of_ble_eq_true rfl) dX7_doAppeal_2 ⟨(Nat.le_of_ble_eq_true rfl), (Nat.le_of_ble_eq_true rfl)⟩) hW (fun r1 M49 H locs h hW => ?_)
  obtain ⟨h, eM49⟩ := h
  rw [eM49] at hW
  refine lv_if_ne (tgt := 14) hx hb dX7_doAppeal_5 (by decide) (fun k2 => ?_) (fun k2 => ?_)
  · have h := h.2 k2
    refine lv_aload_n hx hb dX7_doAppeal_14 rfl (lv_at hl 0 rfl) ?_
    refine lv_iload_n hx hb dX7_doAppeal_15 rfl (lv_at hl 1 rfl) ?_
    refine sw_ki (rest := []) (sw_runV (As := [.int a1]) (rest := []) hx hb hml hown hts (kX7_resultOf l g o d a1 M _ h) cv_X7_resultOf q_1098 rfl rfl ⟨(Nat.le_of_ble_eq_true rfl), (Nat.le_of_ble_eq_true rfl)⟩ hW (Nat.le_of_ble_eq_true rfl) sl_33 rfl rfl hl.1 rfl (Nat.le_of_ble_eq_true rfl) dX7_doAppeal_16 ⟨(Nat.le_of_ble_eq_true rfl), (Nat.le_of_ble_eq_true rfl)⟩) hW (fun r3 M46 H locs h hW => ?_)
    obtain ⟨h, eM46⟩ := h
    rw [eM46] at hW
    refine lv_istore_n (lv' := [(2, .int r3), (0, .ref (sw_ad g 33)), (1, .int a1)]) hx hb dX7_doAppeal_19 rfl hl (Nat.le_of_ble_eq_true rfl) rfl (fun ls hl => ?_)
    refine lv_iload_n hx hb dX7_doAppeal_20 rfl (lv_at hl 0 rfl) ?_
    refine lv_if_lt (tgt := 42) hx hb dX7_doAppeal_21 (by decide) (fun k4 => ?_) (fun k4 => ?_)
    · have h := h.1 k4
      refine lv_aload_n hx hb dX7_doAppeal_42 rfl (lv_at hl 1 rfl) ?_
      refine lv_iconst (v := 2) hx hb dX7_doAppeal_43 (by decide) ?_
      refine sw_ki (rest := []) (sw_runV (As := [.int (2 : Int32)]) (rest := []) hx hb hml hown hts (kX7_fails l g o d (2 : Int32) M _ h) cv_X7_fails q_989 rfl rfl ⟨(Nat.le_of_ble_eq_true rfl), (Nat.le_of_ble_eq_true rfl)⟩ hW (Nat.le_of_ble_eq_true rfl) sl_33 rfl rfl hl.1 rfl (Nat.le_of_ble_eq_true rfl) dX7_doAppeal_44 ⟨(Nat.le_of_ble_eq_true rfl), (Nat.le_of_ble_eq_true rfl)⟩) hW (fun r5 M6 H locs h hW => ?_)
      exact sw_ri hx hb hr hlocks hW rfl h dX7_doAppeal_47
    · have h := h.2 k4
      refine lv_aload_n hx hb dX7_doAppeal_24 rfl (lv_at hl 1 rfl) ?_
      refine lv_iload_n hx hb dX7_doAppeal_25 rfl (lv_at hl 2 rfl) ?_
      refine sw_ki (rest := []) (sw_runV (As := [.int a1]) (rest := []) hx hb hml hown hts (kX7_hasPassed l g o d a1 M _ h) cv_X7_hasPassed q_1103 rfl rfl ⟨(Nat.le_of_ble_eq_true rfl), (Nat.le_of_ble_eq_true rfl)⟩ hW (Nat.le_of_ble_eq_true rfl) sl_33 rfl rfl hl.1 rfl (Nat.le_of_ble_eq_true rfl) dX7_doAppeal_26 ⟨(Nat.le_of_ble_eq_true rfl), (Nat.le_of_ble_eq_true rfl)⟩) hW (fun r7 M45 H locs h hW => ?_)
      obtain ⟨h, eM45⟩ := h
      rw [eM45] at hW
      refine lv_if_ne (tgt := 42) hx hb dX7_doAppeal_29 (by decide) (fun k8 => ?_) (fun k8 => ?_)
      · have h := h.2 k8
        refine lv_aload_n hx hb dX7_doAppeal_42 rfl (lv_at hl 1 rfl) ?_
        refine lv_iconst (v := 2) hx hb dX7_doAppeal_43 (by decide) ?_
        refine sw_ki (rest := []) (sw_runV (As := [.int (2 : Int32)]) (rest := []) hx hb hml hown hts (kX7_fails l g o d (2 : Int32) M _ h) cv_X7_fails q_989 rfl rfl ⟨(Nat.le_of_ble_eq_true rfl), (Nat.le_of_ble_eq_true rfl)⟩ hW (Nat.le_of_ble_eq_true rfl) sl_33 rfl rfl hl.1 rfl (Nat.le_of_ble_eq_true rfl) dX7_doAppeal_44 ⟨(Nat.le_of_ble_eq_true rfl), (Nat.le_of_ble_eq_true rfl)⟩) hW (fun r9 M10 H locs h hW => ?_)
        exact sw_ri hx hb hr hlocks hW rfl h dX7_doAppeal_47
      · have h := h.1 k8
        refine lv_aload_n hx hb dX7_doAppeal_32 rfl (lv_at hl 1 rfl) ?_
        refine lv_iload_n hx hb dX7_doAppeal_33 rfl (lv_at hl 2 rfl) ?_
        refine lv_iconst (v := 2) hx hb dX7_doAppeal_34 (by decide) ?_
        refine sw_ki (rest := []) (sw_runV (As := [.int a1, .int (2 : Int32)]) (rest := []) hx hb hml hown hts (kX7_door l g o d a1 (2 : Int32) M _ h) cv_X7_door q_1033 rfl rfl ⟨(Nat.le_of_ble_eq_true rfl), (Nat.le_of_ble_eq_true rfl)⟩ hW (Nat.le_of_ble_eq_true rfl) sl_33 rfl rfl hl.1 rfl (Nat.le_of_ble_eq_true rfl) dX7_doAppeal_35 ⟨(Nat.le_of_ble_eq_true rfl), (Nat.le_of_ble_eq_true rfl)⟩) hW (fun r11 M44 H locs h hW => ?_)
        obtain ⟨h, eM44⟩ := h
        rw [eM44] at hW
        refine lv_iconst (v := 1) hx hb dX7_doAppeal_38 (by decide) ?_
        refine lv_icmp_ne (tgt := 48) hx hb dX7_doAppeal_39 (by decide) (fun k12 => ?_) (fun k12 => ?_)
        · have h := h.2 k12
          refine lv_aload_n hx hb dX7_doAppeal_48 rfl (lv_at hl 1 rfl) ?_
          refine lv_iload_n hx hb dX7_doAppeal_49 rfl (lv_at hl 2 rfl) ?_
          refine sw_ki (rest := []) (sw_runV (As := [.int a1]) (rest := []) hx hb hml hown hts (kX7_panels l g o d a1 M _ h) cv_X7_panels q_1106 rfl rfl ⟨(Nat.le_of_ble_eq_true rfl), (Nat.le_of_ble_eq_true rfl)⟩ hW (Nat.le_of_ble_eq_true rfl) sl_33 rfl rfl hl.1 rfl (Nat.le_of_ble_eq_true rfl) dX7_doAppeal_50 ⟨(Nat.le_of_ble_eq_true rfl), (Nat.le_of_ble_eq_true rfl)⟩) hW (fun r13 M14 H locs h hW => ?_)
          refine lv_if_ne (tgt := 62) hx hb dX7_doAppeal_53 (by decide) (fun k15 => ?_) (fun k15 => ?_)
          · have h := h.2 k15
            refine lv_iconst (v := 0) hx hb dX7_doAppeal_62 (by decide) ?_
            refine lv_istore_n (lv' := [(3, .int (0 : Int32)), (2, .int r3), (0, .ref (sw_ad g 33)), (1, .int a1)]) hx hb dX7_doAppeal_63 rfl hl (Nat.le_of_ble_eq_true rfl) rfl (fun ls hl => ?_)
            refine lv_aload_n hx hb dX7_doAppeal_64 rfl (lv_at hl 2 rfl) ?_
            refine sw_gr (j := 11) (r := 42) hx hb hts hown hW rfl qf_7 (Nat.le_of_ble_eq_true rfl) sl_33 rfl (Nat.le_of_ble_eq_true rfl) q_955 dX7_doAppeal_65 ?_
            refine lv_astore (lv' := [(4, .ref (sw_ad g 42)), (3, .int (0 : Int32)), (2, .int r3), (0, .ref (sw_ad g 33)), (1, .int a1)]) hx hb dX7_doAppeal_68 hl (Nat.le_of_ble_eq_true rfl) rfl (fun ls hl => ?_)
            refine lv_aload hx hb dX7_doAppeal_70 (lv_at hl 0 rfl) ?_
            refine sw_alen (v := 3) (n := 3) (t := 1) hx hb hW (Nat.le_of_ble_eq_true rfl) sl_42 rfl rfl dX7_doAppeal_72 ?_
            refine lv_istore (lv' := [(5, .int (3 : Int32)), (4, .ref (sw_ad g 42)), (3, .int (0 : Int32)), (2, .int r3), (0, .ref (sw_ad g 33)), (1, .int a1)]) hx hb dX7_doAppeal_73 hl (Nat.le_of_ble_eq_true rfl) rfl (fun ls hl => ?_)
            refine lv_iconst (v := 0) hx hb dX7_doAppeal_75 (by decide) ?_
            refine lv_istore (lv' := [(6, .int (0 : Int32)), (5, .int (3 : Int32)), (4, .ref (sw_ad g 42)), (3, .int (0 : Int32)), (2, .int r3), (0, .ref (sw_ad g 33)), (1, .int a1)]) hx hb dX7_doAppeal_76 hl (Nat.le_of_ble_eq_true rfl) rfl (fun ls hl => ?_)
            obtain ⟨n78, h⟩ := h
            refine sw_lp_ii (hd := 78) (Lf := fun x3_78 x6_78 => [(0, .ref (sw_ad g 33)), (1, .int a1), (2, .int r3), (3, .int x3_78), (4, .ref (sw_ad g 42)), (5, .int (3 : Int32)), (6, .int x6_78)]) h hW (lv_sub hl [5, 6, 4, 3, 2, 1, 0] rfl) (fun _ _ h => h) (fun n78 ih78 x3_78 x6_78 H locs ls h hW hl => ?_)
            rw [lX7_doAppeal_78.eq_2] at h
            refine lv_iload hx hb dX7_doAppeal_78 (lv_at hl 6 rfl) ?_
            refine lv_iload hx hb dX7_doAppeal_80 (lv_at hl 5 rfl) ?_
            refine lv_icmp_ge (tgt := 124) hx hb dX7_doAppeal_82 (by decide) (fun k23 => ?_) (fun k23 => ?_)
            · have h := h.1 k23
              refine lv_aload_n hx hb dX7_doAppeal_124 rfl (lv_at hl 0 rfl) ?_
              refine sw_gr (j := 0) (r := 34) hx hb hts hown hW rfl qf_7 (Nat.le_of_ble_eq_true rfl) sl_33 rfl (Nat.le_of_ble_eq_true rfl) q_944 dX7_doAppeal_125 ?_
              refine lv_iconst (v := 4) hx hb dX7_doAppeal_128 (by decide) ?_
              refine lv_iconst (v := 5) hx hb dX7_doAppeal_129 (by decide) ?_
              refine lv_iload_n hx hb dX7_doAppeal_130 rfl (lv_at hl 1 rfl) ?_
              refine lv_imul hx hb dX7_doAppeal_131 ?_
              refine lv_iadd hx hb dX7_doAppeal_132 ?_
              refine lv_iconst (v := 2) hx hb dX7_doAppeal_133 (by decide) ?_
              refine lv_iadd hx hb dX7_doAppeal_134 ?_
              refine lv_iconst (v := 1) hx hb dX7_doAppeal_135 (by decide) ?_
              have b24 := h.1
              have h := h.2
              refine sw_is (n := 228) hx hb hW (Nat.le_of_ble_eq_true rfl) sl_34 b24 dX7_doAppeal_136 (fun H locs hW => ?_)
              obtain ⟨M25, eM25⟩ : ∃ z : sM, z = sw_ms M14 34 ((((4 : Int32) + ((5 : Int32) * a1)) + (2 : Int32))).toNatClampNeg (1 : Int32) := ⟨_, rfl⟩
              rw [← eM25] at hW
              have h := h M25 eM25
              refine lv_aload_n hx hb dX7_doAppeal_137 rfl (lv_at hl 0 rfl) ?_
              refine sw_gr (j := 0) (r := 34) hx hb hts hown hW rfl qf_7 (Nat.le_of_ble_eq_true rfl) sl_33 rfl (Nat.le_of_ble_eq_true rfl) q_944 dX7_doAppeal_138 ?_
              refine lv_iconst (v := 4) hx hb dX7_doAppeal_141 (by decide) ?_
              refine lv_iconst (v := 5) hx hb dX7_doAppeal_142 (by decide) ?_
              refine lv_iload_n hx hb dX7_doAppeal_143 rfl (lv_at hl 1 rfl) ?_
              refine lv_imul hx hb dX7_doAppeal_144 ?_
              refine lv_iadd hx hb dX7_doAppeal_145 ?_
              refine lv_iconst (v := 3) hx hb dX7_doAppeal_146 (by decide) ?_
              refine lv_iadd hx hb dX7_doAppeal_147 ?_
              refine lv_iload_n hx hb dX7_doAppeal_148 rfl (lv_at hl 3 rfl) ?_
              refine lv_iconst (v := 2) hx hb dX7_doAppeal_149 (by decide) ?_
              refine lv_icmp_lt (tgt := 157) hx hb dX7_doAppeal_150 (by decide) (fun k26 => ?_) (fun k26 => ?_)
              · have h := h.1 k26
                refine lv_iconst (v := 0) hx hb dX7_doAppeal_157 (by decide) ?_
                have b27 := h.1
                have h := h.2
                refine sw_is (n := 228) hx hb hW (Nat.le_of_ble_eq_true rfl) sl_34 b27 dX7_doAppeal_158 (fun H locs hW => ?_)
                obtain ⟨M28, eM28⟩ : ∃ z : sM, z = sw_ms M25 34 ((((4 : Int32) + ((5 : Int32) * a1)) + (3 : Int32))).toNatClampNeg (0 : Int32) := ⟨_, rfl⟩
                rw [← eM28] at hW
                have h := h M28 eM28
                refine lv_iload_n hx hb dX7_doAppeal_159 rfl (lv_at hl 3 rfl) ?_
                exact sw_ri hx hb hr hlocks hW rfl h dX7_doAppeal_160
              · have h := h.2 k26
                refine lv_iconst (v := 1) hx hb dX7_doAppeal_153 (by decide) ?_
                refine lv_goto (tgt := 158) hx hb dX7_doAppeal_154 (by decide) ?_
                have b29 := h.1
                have h := h.2
                refine sw_is (n := 228) hx hb hW (Nat.le_of_ble_eq_true rfl) sl_34 b29 dX7_doAppeal_158 (fun H locs hW => ?_)
                obtain ⟨M30, eM30⟩ : ∃ z : sM, z = sw_ms M25 34 ((((4 : Int32) + ((5 : Int32) * a1)) + (3 : Int32))).toNatClampNeg (1 : Int32) := ⟨_, rfl⟩
                rw [← eM30] at hW
                have h := h M30 eM30
                refine lv_iload_n hx hb dX7_doAppeal_159 rfl (lv_at hl 3 rfl) ?_
                exact sw_ri hx hb hr hlocks hW rfl h dX7_doAppeal_160
            · have h := h.2 k23
              refine lv_aload hx hb dX7_doAppeal_85 (lv_at hl 4 rfl) ?_
              refine lv_iload hx hb dX7_doAppeal_87 (lv_at hl 6 rfl) ?_
              have b31 := h.1
              have h := h.2
              refine sw_ia (n := 3) hx hb hW (Nat.le_of_ble_eq_true rfl) sl_42 b31 dX7_doAppeal_89 ?_
              refine lv_topi (fun v32 ev32 => ?_)
              have h := h v32 ev32
              refine lv_istore (lv' := [(7, .int v32), (0, .ref (sw_ad g 33)), (1, .int a1), (2, .int r3), (3, .int x3_78), (4, .ref (sw_ad g 42)), (5, .int (3 : Int32)), (6, .int x6_78)]) hx hb dX7_doAppeal_90 hl (Nat.le_of_ble_eq_true rfl) rfl (fun ls hl => ?_)
              refine lv_iload_n hx hb dX7_doAppeal_92 rfl (lv_at hl 4 rfl) ?_
              refine lv_aload_n hx hb dX7_doAppeal_93 rfl (lv_at hl 1 rfl) ?_
              refine lv_iload hx hb dX7_doAppeal_94 (lv_at hl 0 rfl) ?_
              refine lv_iconst (v := 3) hx hb dX7_doAppeal_96 (by decide) ?_
              refine sw_ki (rest := [.int x3_78]) (sw_runV (As := [.int v32, .int (3 : Int32)]) (rest := [.int x3_78]) hx hb hml hown hts (kX7_examiner l g o d v32 (3 : Int32) M14 _ h) cv_X7_examiner q_1030 rfl rfl ⟨(Nat.le_of_ble_eq_true rfl), (Nat.le_of_ble_eq_true rfl)⟩ hW (Nat.le_of_ble_eq_true rfl) sl_33 rfl rfl hl.1 rfl (Nat.le_of_ble_eq_true rfl) dX7_doAppeal_97 ⟨(Nat.le_of_ble_eq_true rfl), (Nat.le_of_ble_eq_true rfl)⟩) hW (fun r33 M39 H locs h hW => ?_)
              obtain ⟨h, eM39⟩ := h
              rw [eM39] at hW
              refine lv_aload_n hx hb dX7_doAppeal_100 rfl (lv_at hl 1 rfl) ?_
              refine sw_gr (j := 0) (r := 34) hx hb hts hown hW rfl qf_7 (Nat.le_of_ble_eq_true rfl) sl_33 rfl (Nat.le_of_ble_eq_true rfl) q_944 dX7_doAppeal_101 ?_
              refine lv_iconst (v := 2) hx hb dX7_doAppeal_104 (by decide) ?_
              refine sw_ia (n := 228) hx hb hW (Nat.le_of_ble_eq_true rfl) sl_34 (vp_in_iff.mpr (by decide)) dX7_doAppeal_105 ?_
              refine lv_iload_n hx hb dX7_doAppeal_106 rfl (lv_at hl 3 rfl) ?_
              refine lv_isub hx hb dX7_doAppeal_107 ?_
              refine lv_icmp_lt (tgt := 115) hx hb dX7_doAppeal_108 (by decide) (fun k34 => ?_) (fun k34 => ?_)
              · have h := h.1 k34
                refine lv_iconst (v := 0) hx hb dX7_doAppeal_115 (by decide) ?_
                refine lv_iadd hx hb dX7_doAppeal_116 ?_
                refine lv_topi (fun v35 ev35 => ?_)
                have h := h v35 ev35
                refine lv_istore_n (lv' := [(3, .int v35), (7, .int v32), (0, .ref (sw_ad g 33)), (1, .int a1), (2, .int r3), (4, .ref (sw_ad g 42)), (5, .int (3 : Int32)), (6, .int x6_78)]) hx hb dX7_doAppeal_117 rfl hl (Nat.le_of_ble_eq_true rfl) rfl (fun ls hl => ?_)
                obtain ⟨v36, ev36⟩ : ∃ z : Int32, z = x6_78 + (1 : Int32) := ⟨_, rfl⟩
                have h := h v36 ev36
                refine lv_iinc (v := v36) (lv' := [(6, .int v36), (3, .int v35), (7, .int v32), (0, .ref (sw_ad g 33)), (1, .int a1), (2, .int r3), (4, .ref (sw_ad g 42)), (5, .int (3 : Int32))]) hx hb dX7_doAppeal_118 hl (k := 7) rfl (by rw [ev36]; rfl) (Nat.le_of_ble_eq_true rfl) rfl (fun ls hl => ?_)
                refine lv_goto (tgt := 78) hx hb dX7_doAppeal_121 (by decide) ?_
                exact ih78 _ _ _ _ _ h hW (lv_sub hl [3, 4, 5, 1, 6, 7, 0] rfl)
              · have h := h.2 k34
                refine lv_iconst (v := 1) hx hb dX7_doAppeal_111 (by decide) ?_
                refine lv_goto (tgt := 116) hx hb dX7_doAppeal_112 (by decide) ?_
                refine lv_iadd hx hb dX7_doAppeal_116 ?_
                refine lv_topi (fun v37 ev37 => ?_)
                have h := h v37 ev37
                refine lv_istore_n (lv' := [(3, .int v37), (7, .int v32), (0, .ref (sw_ad g 33)), (1, .int a1), (2, .int r3), (4, .ref (sw_ad g 42)), (5, .int (3 : Int32)), (6, .int x6_78)]) hx hb dX7_doAppeal_117 rfl hl (Nat.le_of_ble_eq_true rfl) rfl (fun ls hl => ?_)
                obtain ⟨v38, ev38⟩ : ∃ z : Int32, z = x6_78 + (1 : Int32) := ⟨_, rfl⟩
                have h := h v38 ev38
                refine lv_iinc (v := v38) (lv' := [(6, .int v38), (3, .int v37), (7, .int v32), (0, .ref (sw_ad g 33)), (1, .int a1), (2, .int r3), (4, .ref (sw_ad g 42)), (5, .int (3 : Int32))]) hx hb dX7_doAppeal_118 hl (k := 7) rfl (by rw [ev38]; rfl) (Nat.le_of_ble_eq_true rfl) rfl (fun ls hl => ?_)
                refine lv_goto (tgt := 78) hx hb dX7_doAppeal_121 (by decide) ?_
                exact ih78 _ _ _ _ _ h hW (lv_sub hl [3, 4, 5, 1, 6, 7, 0] rfl)
          · have h := h.1 k15
            refine lv_aload_n hx hb dX7_doAppeal_56 rfl (lv_at hl 1 rfl) ?_
            refine lv_iconst (v := 3) hx hb dX7_doAppeal_57 (by decide) ?_
            refine sw_ki (rest := []) (sw_runV (As := [.int (3 : Int32)]) (rest := []) hx hb hml hown hts (kX7_fails l g o d (3 : Int32) M14 _ h) cv_X7_fails q_989 rfl rfl ⟨(Nat.le_of_ble_eq_true rfl), (Nat.le_of_ble_eq_true rfl)⟩ hW (Nat.le_of_ble_eq_true rfl) sl_33 rfl rfl hl.1 rfl (Nat.le_of_ble_eq_true rfl) dX7_doAppeal_58 ⟨(Nat.le_of_ble_eq_true rfl), (Nat.le_of_ble_eq_true rfl)⟩) hW (fun r40 M41 H locs h hW => ?_)
            exact sw_ri hx hb hr hlocks hW rfl h dX7_doAppeal_61
        · have h := h.1 k12
          refine lv_aload_n hx hb dX7_doAppeal_42 rfl (lv_at hl 1 rfl) ?_
          refine lv_iconst (v := 2) hx hb dX7_doAppeal_43 (by decide) ?_
          refine sw_ki (rest := []) (sw_runV (As := [.int (2 : Int32)]) (rest := []) hx hb hml hown hts (kX7_fails l g o d (2 : Int32) M _ h) cv_X7_fails q_989 rfl rfl ⟨(Nat.le_of_ble_eq_true rfl), (Nat.le_of_ble_eq_true rfl)⟩ hW (Nat.le_of_ble_eq_true rfl) sl_33 rfl rfl hl.1 rfl (Nat.le_of_ble_eq_true rfl) dX7_doAppeal_44 ⟨(Nat.le_of_ble_eq_true rfl), (Nat.le_of_ble_eq_true rfl)⟩) hW (fun r42 M43 H locs h hW => ?_)
          exact sw_ri hx hb hr hlocks hW rfl h dX7_doAppeal_47
  · have h := h.1 k2
    refine lv_aload_n hx hb dX7_doAppeal_8 rfl (lv_at hl 0 rfl) ?_
    refine lv_iconst (v := 1) hx hb dX7_doAppeal_9 (by decide) ?_
    refine sw_ki (rest := []) (sw_runV (As := [.int (1 : Int32)]) (rest := []) hx hb hml hown hts (kX7_fails l g o d (1 : Int32) M _ h) cv_X7_fails q_989 rfl rfl ⟨(Nat.le_of_ble_eq_true rfl), (Nat.le_of_ble_eq_true rfl)⟩ hW (Nat.le_of_ble_eq_true rfl) sl_33 rfl rfl hl.1 rfl (Nat.le_of_ble_eq_true rfl) dX7_doAppeal_10 ⟨(Nat.le_of_ble_eq_true rfl), (Nat.le_of_ble_eq_true rfl)⟩) hW (fun r47 M48 H locs h hW => ?_)
    exact sw_ri hx hb hr hlocks hW rfl h dX7_doAppeal_13

theorem cv_X7_appeal : sw_cV yX7_appeal RX7 cX7_appeal 2 (some .int) 1 := ⟨q_1092, q_1093, q_9, q_1094, by decide +kernel⟩
def wX7_appeal (a1 : Int32) (M : sM) (Q : Int32 → sM → Prop) : Prop :=
  wX7_keep M (fun M1 => wX7_doAppeal a1 M1 (fun r2 M3 => wX7_ends r2 M3 (fun r4 M5 => Q r4 M5)))
set_option maxRecDepth 20000 in
theorem kX7_appeal (l : Launch) (g : sG) (o : Nat → Int64) (d : Nat → UInt64) (a1 : Int32) (M : sM) (Q : Int32 → sM → Prop) (h : wX7_appeal a1 M Q) : Met l yX7_appeal (sw_ws yX7_appeal cX7_appeal 2 (some .int)) { frames := 5, cells := 0, slots := 0, locals := 122 } (va_Pc [.ref (sw_ad g 33), .int a1] (sw_Pr g o d M)) (va_Qi Q (sw_Po g o d) (sw_A g)) 0 0 (sw_A g) := by
  refine sw_met (by decide) (Nat.le_of_ble_eq_true rfl) ?_
  intro p e s m args below meth c ls hx hb hr hts hown hml hlocks hW hl
  have hown : s.vm.findClass RX7 = some m.cls := hown
  have hl : lv_has ls 2 [(0, .ref (sw_ad g 33)), (1, .int a1)] := hl
  unfold wX7_appeal at h
  refine lv_aload_n hx hb dX7_appeal_0 rfl (lv_at hl 0 rfl) ?_
  refine sw_kv (rest := []) (sw_runV (As := []) (rest := []) hx hb hml hown hts (kX7_keep l g o d M _ h) cv_X7_keep q_974 rfl rfl ⟨(Nat.le_of_ble_eq_true rfl), (Nat.le_of_ble_eq_true rfl)⟩ hW (Nat.le_of_ble_eq_true rfl) sl_33 rfl rfl hl.1 rfl (Nat.le_of_ble_eq_true rfl) dX7_appeal_1 ⟨(Nat.le_of_ble_eq_true rfl), (Nat.le_of_ble_eq_true rfl)⟩) hW (fun  M1 H locs h hW => ?_)
  refine lv_aload_n hx hb dX7_appeal_4 rfl (lv_at hl 0 rfl) ?_
  refine lv_aload_n hx hb dX7_appeal_5 rfl (lv_at hl 0 rfl) ?_
  refine lv_iload_n hx hb dX7_appeal_6 rfl (lv_at hl 1 rfl) ?_
  refine sw_ki (rest := [.ref (sw_ad g 33)]) (sw_runV (As := [.int a1]) (rest := [.ref (sw_ad g 33)]) hx hb hml hown hts (kX7_doAppeal l g o d a1 M1 _ h) cv_X7_doAppeal q_1095 rfl rfl ⟨(Nat.le_of_ble_eq_true rfl), (Nat.le_of_ble_eq_true rfl)⟩ hW (Nat.le_of_ble_eq_true rfl) sl_33 rfl rfl hl.1 rfl (Nat.le_of_ble_eq_true rfl) dX7_appeal_7 ⟨(Nat.le_of_ble_eq_true rfl), (Nat.le_of_ble_eq_true rfl)⟩) hW (fun r2 M3 H locs h hW => ?_)
  refine sw_ki (rest := []) (sw_runV (As := [.int r2]) (rest := []) hx hb hml hown hts (kX7_ends l g o d r2 M3 _ h) cv_X7_ends q_992 rfl rfl ⟨(Nat.le_of_ble_eq_true rfl), (Nat.le_of_ble_eq_true rfl)⟩ hW (Nat.le_of_ble_eq_true rfl) sl_33 rfl rfl hl.1 rfl (Nat.le_of_ble_eq_true rfl) dX7_appeal_10 ⟨(Nat.le_of_ble_eq_true rfl), (Nat.le_of_ble_eq_true rfl)⟩) hW (fun r4 M5 H locs h hW => ?_)
  exact sw_ri hx hb hr hlocks hW rfl h dX7_appeal_13

theorem cv_X7_doAward : sw_cV yX7_doAward RX7 cX7_doAward 3 (some .int) 1 := ⟨q_1117, q_1400, q_9, q_1118, by decide +kernel⟩
def wX7_doAward (a1 : Int32) (M : sM) (Q : Int32 → sM → Prop) : Prop :=
  wX7_isDoor a1 M (fun r1 => (r1 = 0 → (wX7_fails (1 : Int32) M (fun r21 M22 => Q r21 M22))) ∧ (¬ r1 = 0 → (wX7_door a1 (4 : Int32) M (fun r3 => (r3 ≤ 0 → (wX7_entitled a1 M (fun r5 => (r5 = 0 → (wX7_fails (3 : Int32) M (fun r15 M16 => Q r15 M16))) ∧ (¬ r5 = 0 → (∀ v7 : Int32, v7 = (M 34 ((3 : Int32)).toNatClampNeg) → (vp_in ((212 : Int32) + ((2 : Int32) * v7)) 228 ∧ (∀ M9 : sM, M9 = sw_ms M 34 (((212 : Int32) + ((2 : Int32) * v7))).toNatClampNeg a1 → (vp_in (((212 : Int32) + ((2 : Int32) * v7)) + (1 : Int32)) 228 ∧ (∀ M11 : sM, M11 = sw_ms M9 34 ((((212 : Int32) + ((2 : Int32) * v7)) + (1 : Int32))).toNatClampNeg (0 : Int32) → (∀ M12 : sM, M12 = sw_ms M11 34 ((3 : Int32)).toNatClampNeg ((M11 34 ((3 : Int32)).toNatClampNeg) + (1 : Int32)) → (vp_in (((4 : Int32) + ((5 : Int32) * a1)) + (4 : Int32)) 228 ∧ (∀ M14 : sM, M14 = sw_ms M12 34 ((((4 : Int32) + ((5 : Int32) * a1)) + (4 : Int32))).toNatClampNeg (v7 + (1 : Int32)) → (Q (v7 + (1 : Int32)) M14))))))))))))) ∧ (¬ r3 ≤ 0 → (wX7_fails (2 : Int32) M (fun r18 M19 => Q r18 M19)))))))
set_option maxRecDepth 20000 in
theorem kX7_doAward (l : Launch) (g : sG) (o : Nat → Int64) (d : Nat → UInt64) (a1 : Int32) (M : sM) (Q : Int32 → sM → Prop) (h : wX7_doAward a1 M Q) : Met l yX7_doAward (sw_ws yX7_doAward cX7_doAward 3 (some .int)) { frames := 5, cells := 0, slots := 0, locals := 115 } (va_Pc [.ref (sw_ad g 33), .int a1] (sw_Pr g o d M)) (va_Qi Q (sw_Po g o d) (sw_A g)) 0 0 (sw_A g) := by
  refine sw_met (by decide) (Nat.le_of_ble_eq_true rfl) ?_
  intro p e s m args below meth c ls hx hb hr hts hown hml hlocks hW hl
  have hown : s.vm.findClass RX7 = some m.cls := hown
  have hl : lv_has ls 3 [(0, .ref (sw_ad g 33)), (1, .int a1)] := hl
  unfold wX7_doAward at h
  refine lv_aload_n hx hb dX7_doAward_0 rfl (lv_at hl 0 rfl) ?_
  refine lv_iload_n hx hb dX7_doAward_1 rfl (lv_at hl 1 rfl) ?_
  refine sw_ki (rest := []) (sw_runV (As := [.int a1]) (rest := []) hx hb hml hown hts (kX7_isDoor l g o d a1 M _ h) cv_X7_isDoor q_1015 rfl rfl ⟨(Nat.le_of_ble_eq_true rfl), (Nat.le_of_ble_eq_true rfl)⟩ hW (Nat.le_of_ble_eq_true rfl) sl_33 rfl rfl hl.1 rfl (Nat.le_of_ble_eq_true rfl) dX7_doAward_2 ⟨(Nat.le_of_ble_eq_true rfl), (Nat.le_of_ble_eq_true rfl)⟩) hW (fun r1 M23 H locs h hW => ?_)
  obtain ⟨h, eM23⟩ := h
  rw [eM23] at hW
  refine lv_if_ne (tgt := 14) hx hb dX7_doAward_5 (by decide) (fun k2 => ?_) (fun k2 => ?_)
  · have h := h.2 k2
    refine lv_aload_n hx hb dX7_doAward_14 rfl (lv_at hl 0 rfl) ?_
    refine lv_iload_n hx hb dX7_doAward_15 rfl (lv_at hl 1 rfl) ?_
    refine lv_iconst (v := 4) hx hb dX7_doAward_16 (by decide) ?_
    refine sw_ki (rest := []) (sw_runV (As := [.int a1, .int (4 : Int32)]) (rest := []) hx hb hml hown hts (kX7_door l g o d a1 (4 : Int32) M _ h) cv_X7_door q_1033 rfl rfl ⟨(Nat.le_of_ble_eq_true rfl), (Nat.le_of_ble_eq_true rfl)⟩ hW (Nat.le_of_ble_eq_true rfl) sl_33 rfl rfl hl.1 rfl (Nat.le_of_ble_eq_true rfl) dX7_doAward_17 ⟨(Nat.le_of_ble_eq_true rfl), (Nat.le_of_ble_eq_true rfl)⟩) hW (fun r3 M20 H locs h hW => ?_)
    obtain ⟨h, eM20⟩ := h
    rw [eM20] at hW
    refine lv_if_le (tgt := 29) hx hb dX7_doAward_20 (by decide) (fun k4 => ?_) (fun k4 => ?_)
    · have h := h.1 k4
      refine lv_aload_n hx hb dX7_doAward_29 rfl (lv_at hl 0 rfl) ?_
      refine lv_iload_n hx hb dX7_doAward_30 rfl (lv_at hl 1 rfl) ?_
      refine sw_ki (rest := []) (sw_runV (As := [.int a1]) (rest := []) hx hb hml hown hts (kX7_entitled l g o d a1 M _ h) cv_X7_entitled q_1119 rfl rfl ⟨(Nat.le_of_ble_eq_true rfl), (Nat.le_of_ble_eq_true rfl)⟩ hW (Nat.le_of_ble_eq_true rfl) sl_33 rfl rfl hl.1 rfl (Nat.le_of_ble_eq_true rfl) dX7_doAward_31 ⟨(Nat.le_of_ble_eq_true rfl), (Nat.le_of_ble_eq_true rfl)⟩) hW (fun r5 M17 H locs h hW => ?_)
      obtain ⟨h, eM17⟩ := h
      rw [eM17] at hW
      refine lv_if_ne (tgt := 43) hx hb dX7_doAward_34 (by decide) (fun k6 => ?_) (fun k6 => ?_)
      · have h := h.2 k6
        refine lv_aload_n hx hb dX7_doAward_43 rfl (lv_at hl 0 rfl) ?_
        refine sw_gr (j := 0) (r := 34) hx hb hts hown hW rfl qf_7 (Nat.le_of_ble_eq_true rfl) sl_33 rfl (Nat.le_of_ble_eq_true rfl) q_944 dX7_doAward_44 ?_
        refine lv_iconst (v := 3) hx hb dX7_doAward_47 (by decide) ?_
        refine sw_ia (n := 228) hx hb hW (Nat.le_of_ble_eq_true rfl) sl_34 (vp_in_iff.mpr (by decide)) dX7_doAward_48 ?_
        refine lv_topi (fun v7 ev7 => ?_)
        have h := h v7 ev7
        refine lv_istore_n (lv' := [(2, .int v7), (0, .ref (sw_ad g 33)), (1, .int a1)]) hx hb dX7_doAward_49 rfl hl (Nat.le_of_ble_eq_true rfl) rfl (fun ls hl => ?_)
        refine lv_aload_n hx hb dX7_doAward_50 rfl (lv_at hl 1 rfl) ?_
        refine sw_gr (j := 0) (r := 34) hx hb hts hown hW rfl qf_7 (Nat.le_of_ble_eq_true rfl) sl_33 rfl (Nat.le_of_ble_eq_true rfl) q_944 dX7_doAward_51 ?_
        refine lv_sipush (v := 212) hx hb dX7_doAward_54 (by decide) ?_
        refine lv_iconst (v := 2) hx hb dX7_doAward_57 (by decide) ?_
        refine lv_iload_n hx hb dX7_doAward_58 rfl (lv_at hl 0 rfl) ?_
        refine lv_imul hx hb dX7_doAward_59 ?_
        refine lv_iadd hx hb dX7_doAward_60 ?_
        refine lv_iload_n hx hb dX7_doAward_61 rfl (lv_at hl 2 rfl) ?_
        have b8 := h.1
        have h := h.2
        refine sw_is (n := 228) hx hb hW (Nat.le_of_ble_eq_true rfl) sl_34 b8 dX7_doAward_62 (fun H locs hW => ?_)
        obtain ⟨M9, eM9⟩ : ∃ z : sM, z = sw_ms M 34 (((212 : Int32) + ((2 : Int32) * v7))).toNatClampNeg a1 := ⟨_, rfl⟩
        rw [← eM9] at hW
        have h := h M9 eM9
        refine lv_aload_n hx hb dX7_doAward_63 rfl (lv_at hl 1 rfl) ?_
        refine sw_gr (j := 0) (r := 34) hx hb hts hown hW rfl qf_7 (Nat.le_of_ble_eq_true rfl) sl_33 rfl (Nat.le_of_ble_eq_true rfl) q_944 dX7_doAward_64 ?_
        refine lv_sipush (v := 212) hx hb dX7_doAward_67 (by decide) ?_
        refine lv_iconst (v := 2) hx hb dX7_doAward_70 (by decide) ?_
        refine lv_iload_n hx hb dX7_doAward_71 rfl (lv_at hl 0 rfl) ?_
        refine lv_imul hx hb dX7_doAward_72 ?_
        refine lv_iadd hx hb dX7_doAward_73 ?_
        refine lv_iconst (v := 1) hx hb dX7_doAward_74 (by decide) ?_
        refine lv_iadd hx hb dX7_doAward_75 ?_
        refine lv_iconst (v := 0) hx hb dX7_doAward_76 (by decide) ?_
        have b10 := h.1
        have h := h.2
        refine sw_is (n := 228) hx hb hW (Nat.le_of_ble_eq_true rfl) sl_34 b10 dX7_doAward_77 (fun H locs hW => ?_)
        obtain ⟨M11, eM11⟩ : ∃ z : sM, z = sw_ms M9 34 ((((212 : Int32) + ((2 : Int32) * v7)) + (1 : Int32))).toNatClampNeg (0 : Int32) := ⟨_, rfl⟩
        rw [← eM11] at hW
        have h := h M11 eM11
        refine lv_aload_n hx hb dX7_doAward_78 rfl (lv_at hl 1 rfl) ?_
        refine sw_gr (j := 0) (r := 34) hx hb hts hown hW rfl qf_7 (Nat.le_of_ble_eq_true rfl) sl_33 rfl (Nat.le_of_ble_eq_true rfl) q_944 dX7_doAward_79 ?_
        refine lv_iconst (v := 3) hx hb dX7_doAward_82 (by decide) ?_
        refine lv_dup2_11 hx hb dX7_doAward_83 rfl rfl ?_
        refine sw_ia (n := 228) hx hb hW (Nat.le_of_ble_eq_true rfl) sl_34 (vp_in_iff.mpr (by decide)) dX7_doAward_84 ?_
        refine lv_iconst (v := 1) hx hb dX7_doAward_85 (by decide) ?_
        refine lv_iadd hx hb dX7_doAward_86 ?_
        refine sw_is (n := 228) hx hb hW (Nat.le_of_ble_eq_true rfl) sl_34 (vp_in_iff.mpr (by decide)) dX7_doAward_87 (fun H locs hW => ?_)
        obtain ⟨M12, eM12⟩ : ∃ z : sM, z = sw_ms M11 34 ((3 : Int32)).toNatClampNeg ((M11 34 ((3 : Int32)).toNatClampNeg) + (1 : Int32)) := ⟨_, rfl⟩
        rw [← eM12] at hW
        have h := h M12 eM12
        refine lv_aload_n hx hb dX7_doAward_88 rfl (lv_at hl 1 rfl) ?_
        refine sw_gr (j := 0) (r := 34) hx hb hts hown hW rfl qf_7 (Nat.le_of_ble_eq_true rfl) sl_33 rfl (Nat.le_of_ble_eq_true rfl) q_944 dX7_doAward_89 ?_
        refine lv_iconst (v := 4) hx hb dX7_doAward_92 (by decide) ?_
        refine lv_iconst (v := 5) hx hb dX7_doAward_93 (by decide) ?_
        refine lv_iload_n hx hb dX7_doAward_94 rfl (lv_at hl 2 rfl) ?_
        refine lv_imul hx hb dX7_doAward_95 ?_
        refine lv_iadd hx hb dX7_doAward_96 ?_
        refine lv_iconst (v := 4) hx hb dX7_doAward_97 (by decide) ?_
        refine lv_iadd hx hb dX7_doAward_98 ?_
        refine lv_iload_n hx hb dX7_doAward_99 rfl (lv_at hl 0 rfl) ?_
        refine lv_iconst (v := 1) hx hb dX7_doAward_100 (by decide) ?_
        refine lv_iadd hx hb dX7_doAward_101 ?_
        have b13 := h.1
        have h := h.2
        refine sw_is (n := 228) hx hb hW (Nat.le_of_ble_eq_true rfl) sl_34 b13 dX7_doAward_102 (fun H locs hW => ?_)
        obtain ⟨M14, eM14⟩ : ∃ z : sM, z = sw_ms M12 34 ((((4 : Int32) + ((5 : Int32) * a1)) + (4 : Int32))).toNatClampNeg (v7 + (1 : Int32)) := ⟨_, rfl⟩
        rw [← eM14] at hW
        have h := h M14 eM14
        refine lv_iload_n hx hb dX7_doAward_103 rfl (lv_at hl 0 rfl) ?_
        refine lv_iconst (v := 1) hx hb dX7_doAward_104 (by decide) ?_
        refine lv_iadd hx hb dX7_doAward_105 ?_
        exact sw_ri hx hb hr hlocks hW rfl h dX7_doAward_106
      · have h := h.1 k6
        refine lv_aload_n hx hb dX7_doAward_37 rfl (lv_at hl 0 rfl) ?_
        refine lv_iconst (v := 3) hx hb dX7_doAward_38 (by decide) ?_
        refine sw_ki (rest := []) (sw_runV (As := [.int (3 : Int32)]) (rest := []) hx hb hml hown hts (kX7_fails l g o d (3 : Int32) M _ h) cv_X7_fails q_989 rfl rfl ⟨(Nat.le_of_ble_eq_true rfl), (Nat.le_of_ble_eq_true rfl)⟩ hW (Nat.le_of_ble_eq_true rfl) sl_33 rfl rfl hl.1 rfl (Nat.le_of_ble_eq_true rfl) dX7_doAward_39 ⟨(Nat.le_of_ble_eq_true rfl), (Nat.le_of_ble_eq_true rfl)⟩) hW (fun r15 M16 H locs h hW => ?_)
        exact sw_ri hx hb hr hlocks hW rfl h dX7_doAward_42
    · have h := h.2 k4
      refine lv_aload_n hx hb dX7_doAward_23 rfl (lv_at hl 0 rfl) ?_
      refine lv_iconst (v := 2) hx hb dX7_doAward_24 (by decide) ?_
      refine sw_ki (rest := []) (sw_runV (As := [.int (2 : Int32)]) (rest := []) hx hb hml hown hts (kX7_fails l g o d (2 : Int32) M _ h) cv_X7_fails q_989 rfl rfl ⟨(Nat.le_of_ble_eq_true rfl), (Nat.le_of_ble_eq_true rfl)⟩ hW (Nat.le_of_ble_eq_true rfl) sl_33 rfl rfl hl.1 rfl (Nat.le_of_ble_eq_true rfl) dX7_doAward_25 ⟨(Nat.le_of_ble_eq_true rfl), (Nat.le_of_ble_eq_true rfl)⟩) hW (fun r18 M19 H locs h hW => ?_)
      exact sw_ri hx hb hr hlocks hW rfl h dX7_doAward_28
  · have h := h.1 k2
    refine lv_aload_n hx hb dX7_doAward_8 rfl (lv_at hl 0 rfl) ?_
    refine lv_iconst (v := 1) hx hb dX7_doAward_9 (by decide) ?_
    refine sw_ki (rest := []) (sw_runV (As := [.int (1 : Int32)]) (rest := []) hx hb hml hown hts (kX7_fails l g o d (1 : Int32) M _ h) cv_X7_fails q_989 rfl rfl ⟨(Nat.le_of_ble_eq_true rfl), (Nat.le_of_ble_eq_true rfl)⟩ hW (Nat.le_of_ble_eq_true rfl) sl_33 rfl rfl hl.1 rfl (Nat.le_of_ble_eq_true rfl) dX7_doAward_10 ⟨(Nat.le_of_ble_eq_true rfl), (Nat.le_of_ble_eq_true rfl)⟩) hW (fun r21 M22 H locs h hW => ?_)
    exact sw_ri hx hb hr hlocks hW rfl h dX7_doAward_13

theorem cv_X7_award : sw_cV yX7_award RX7 cX7_award 2 (some .int) 1 := ⟨q_1113, q_1114, q_9, q_1115, by decide +kernel⟩
def wX7_award (a1 : Int32) (M : sM) (Q : Int32 → sM → Prop) : Prop :=
  wX7_keep M (fun M1 => wX7_doAward a1 M1 (fun r2 M3 => wX7_ends r2 M3 (fun r4 M5 => Q r4 M5)))
set_option maxRecDepth 20000 in
theorem kX7_award (l : Launch) (g : sG) (o : Nat → Int64) (d : Nat → UInt64) (a1 : Int32) (M : sM) (Q : Int32 → sM → Prop) (h : wX7_award a1 M Q) : Met l yX7_award (sw_ws yX7_award cX7_award 2 (some .int)) { frames := 6, cells := 0, slots := 0, locals := 137 } (va_Pc [.ref (sw_ad g 33), .int a1] (sw_Pr g o d M)) (va_Qi Q (sw_Po g o d) (sw_A g)) 0 0 (sw_A g) := by
  refine sw_met (by decide) (Nat.le_of_ble_eq_true rfl) ?_
  intro p e s m args below meth c ls hx hb hr hts hown hml hlocks hW hl
  have hown : s.vm.findClass RX7 = some m.cls := hown
  have hl : lv_has ls 2 [(0, .ref (sw_ad g 33)), (1, .int a1)] := hl
  unfold wX7_award at h
  refine lv_aload_n hx hb dX7_award_0 rfl (lv_at hl 0 rfl) ?_
  refine sw_kv (rest := []) (sw_runV (As := []) (rest := []) hx hb hml hown hts (kX7_keep l g o d M _ h) cv_X7_keep q_974 rfl rfl ⟨(Nat.le_of_ble_eq_true rfl), (Nat.le_of_ble_eq_true rfl)⟩ hW (Nat.le_of_ble_eq_true rfl) sl_33 rfl rfl hl.1 rfl (Nat.le_of_ble_eq_true rfl) dX7_award_1 ⟨(Nat.le_of_ble_eq_true rfl), (Nat.le_of_ble_eq_true rfl)⟩) hW (fun  M1 H locs h hW => ?_)
  refine lv_aload_n hx hb dX7_award_4 rfl (lv_at hl 0 rfl) ?_
  refine lv_aload_n hx hb dX7_award_5 rfl (lv_at hl 0 rfl) ?_
  refine lv_iload_n hx hb dX7_award_6 rfl (lv_at hl 1 rfl) ?_
  refine sw_ki (rest := [.ref (sw_ad g 33)]) (sw_runV (As := [.int a1]) (rest := [.ref (sw_ad g 33)]) hx hb hml hown hts (kX7_doAward l g o d a1 M1 _ h) cv_X7_doAward q_1116 rfl rfl ⟨(Nat.le_of_ble_eq_true rfl), (Nat.le_of_ble_eq_true rfl)⟩ hW (Nat.le_of_ble_eq_true rfl) sl_33 rfl rfl hl.1 rfl (Nat.le_of_ble_eq_true rfl) dX7_award_7 ⟨(Nat.le_of_ble_eq_true rfl), (Nat.le_of_ble_eq_true rfl)⟩) hW (fun r2 M3 H locs h hW => ?_)
  refine sw_ki (rest := []) (sw_runV (As := [.int r2]) (rest := []) hx hb hml hown hts (kX7_ends l g o d r2 M3 _ h) cv_X7_ends q_992 rfl rfl ⟨(Nat.le_of_ble_eq_true rfl), (Nat.le_of_ble_eq_true rfl)⟩ hW (Nat.le_of_ble_eq_true rfl) sl_33 rfl rfl hl.1 rfl (Nat.le_of_ble_eq_true rfl) dX7_award_10 ⟨(Nat.le_of_ble_eq_true rfl), (Nat.le_of_ble_eq_true rfl)⟩) hW (fun r4 M5 H locs h hW => ?_)
  exact sw_ri hx hb hr hlocks hW rfl h dX7_award_13

theorem cv_X7_isEntry : sw_cV yX7_isEntry RX7 cX7_isEntry 2 (some .boolean) 1 := ⟨q_1130, q_1403, q_9, q_1131, by decide +kernel⟩
def wX7_isEntry (a1 : Int32) (M : sM) (Q : Int32 → Prop) : Prop :=
  wX7_in a1 (1 : Int32) (M 34 ((3 : Int32)).toNatClampNeg) (fun r1 => narrow .boolean (.int r1) = .int r1 ∧ (Q r1))
set_option maxRecDepth 20000 in
theorem kX7_isEntry (l : Launch) (g : sG) (o : Nat → Int64) (d : Nat → UInt64) (a1 : Int32) (M : sM) (Q : Int32 → Prop) (h : wX7_isEntry a1 M Q) : Met l yX7_isEntry (sw_ws yX7_isEntry cX7_isEntry 2 (some .boolean)) { frames := 1, cells := 0, slots := 0, locals := 22 } (va_Pc [.ref (sw_ad g 33), .int a1] (sw_Pr g o d M)) (va_Qi (fun r M1 => Q r ∧ M1 = M) (sw_Po g o d) (sw_A g)) 0 0 (sw_A g) := by
  refine sw_met (by decide) (Nat.le_of_ble_eq_true rfl) ?_
  intro p e s m args below meth c ls hx hb hr hts hown hml hlocks hW hl
  have hown : s.vm.findClass RX7 = some m.cls := hown
  have hl : lv_has ls 2 [(0, .ref (sw_ad g 33)), (1, .int a1)] := hl
  unfold wX7_isEntry at h
  refine lv_iload_n hx hb dX7_isEntry_0 rfl (lv_at hl 1 rfl) ?_
  refine lv_iconst (v := 1) hx hb dX7_isEntry_1 (by decide) ?_
  refine lv_aload_n hx hb dX7_isEntry_2 rfl (lv_at hl 0 rfl) ?_
  refine sw_gr (j := 0) (r := 34) hx hb hts hown hW rfl qf_7 (Nat.le_of_ble_eq_true rfl) sl_33 rfl (Nat.le_of_ble_eq_true rfl) q_944 dX7_isEntry_3 ?_
  refine lv_iconst (v := 3) hx hb dX7_isEntry_6 (by decide) ?_
  refine sw_ia (n := 228) hx hb hW (Nat.le_of_ble_eq_true rfl) sl_34 (vp_in_iff.mpr (by decide)) dX7_isEntry_7 ?_
  refine sw_ki (rest := []) (sw_runS (As := [.int a1, .int (1 : Int32), .int (M 34 ((3 : Int32)).toNatClampNeg)]) (rest := []) hx hb hml hown hts (kX7_in l g o d a1 (1 : Int32) (M 34 ((3 : Int32)).toNatClampNeg) M _ h) cs_X7_in q_986 rfl rfl ⟨(Nat.le_of_ble_eq_true rfl), (Nat.le_of_ble_eq_true rfl)⟩ hW rfl hl.1 rfl (Nat.le_of_ble_eq_true rfl) dX7_isEntry_8 ⟨(Nat.le_of_ble_eq_true rfl), (Nat.le_of_ble_eq_true rfl)⟩) hW (fun r1 M2 H locs h hW => ?_)
  obtain ⟨h, eM2⟩ := h
  rw [eM2] at hW
  exact sw_ri hx hb hr hlocks hW h.1 ⟨h.2, rfl⟩ dX7_isEntry_11

theorem cv_X7_revoked : sw_cV yX7_revoked RX7 cX7_revoked 2 (some .boolean) 1 := ⟨q_1133, q_1404, q_9, q_1134, by decide +kernel⟩
def wX7_revoked (a1 : Int32) (M : sM) (Q : Int32 → Prop) : Prop :=
  vp_in (((212 : Int32) + ((2 : Int32) * a1)) - (1 : Int32)) 228 ∧ (((M 34 ((((212 : Int32) + ((2 : Int32) * a1)) - (1 : Int32))).toNatClampNeg) = (1 : Int32) → (Q (1 : Int32))) ∧ (¬ (M 34 ((((212 : Int32) + ((2 : Int32) * a1)) - (1 : Int32))).toNatClampNeg) = (1 : Int32) → (Q (0 : Int32))))
set_option maxRecDepth 20000 in
theorem kX7_revoked (l : Launch) (g : sG) (o : Nat → Int64) (d : Nat → UInt64) (a1 : Int32) (M : sM) (Q : Int32 → Prop) (h : wX7_revoked a1 M Q) : Met l yX7_revoked (sw_ws yX7_revoked cX7_revoked 2 (some .boolean)) { frames := 0, cells := 0, slots := 0, locals := 0 } (va_Pc [.ref (sw_ad g 33), .int a1] (sw_Pr g o d M)) (va_Qi (fun r M1 => Q r ∧ M1 = M) (sw_Po g o d) (sw_A g)) 0 0 (sw_A g) := by
  refine sw_met (by decide) (Nat.le_of_ble_eq_true rfl) ?_
  intro p e s m args below meth c ls hx hb hr hts hown hml hlocks hW hl
  have hown : s.vm.findClass RX7 = some m.cls := hown
  have hl : lv_has ls 2 [(0, .ref (sw_ad g 33)), (1, .int a1)] := hl
  unfold wX7_revoked at h
  refine lv_aload_n hx hb dX7_revoked_0 rfl (lv_at hl 0 rfl) ?_
  refine sw_gr (j := 0) (r := 34) hx hb hts hown hW rfl qf_7 (Nat.le_of_ble_eq_true rfl) sl_33 rfl (Nat.le_of_ble_eq_true rfl) q_944 dX7_revoked_1 ?_
  refine lv_sipush (v := 212) hx hb dX7_revoked_4 (by decide) ?_
  refine lv_iconst (v := 2) hx hb dX7_revoked_7 (by decide) ?_
  refine lv_iload_n hx hb dX7_revoked_8 rfl (lv_at hl 1 rfl) ?_
  refine lv_imul hx hb dX7_revoked_9 ?_
  refine lv_iadd hx hb dX7_revoked_10 ?_
  refine lv_iconst (v := 1) hx hb dX7_revoked_11 (by decide) ?_
  refine lv_isub hx hb dX7_revoked_12 ?_
  have b1 := h.1
  have h := h.2
  refine sw_ia (n := 228) hx hb hW (Nat.le_of_ble_eq_true rfl) sl_34 b1 dX7_revoked_13 ?_
  refine lv_iconst (v := 1) hx hb dX7_revoked_14 (by decide) ?_
  refine lv_icmp_ne (tgt := 22) hx hb dX7_revoked_15 (by decide) (fun k2 => ?_) (fun k2 => ?_)
  · have h := h.2 k2
    refine lv_iconst (v := 0) hx hb dX7_revoked_22 (by decide) ?_
    exact sw_ri hx hb hr hlocks hW (by decide) ⟨h, rfl⟩ dX7_revoked_23
  · have h := h.1 k2
    refine lv_iconst (v := 1) hx hb dX7_revoked_18 (by decide) ?_
    refine lv_goto (tgt := 23) hx hb dX7_revoked_19 (by decide) ?_
    exact sw_ri hx hb hr hlocks hW (by decide) ⟨h, rfl⟩ dX7_revoked_23

theorem cv_X7_doRevoke : sw_cV yX7_doRevoke RX7 cX7_doRevoke 2 (some .int) 1 := ⟨q_1127, q_1402, q_9, q_1128, by decide +kernel⟩
def wX7_doRevoke (a1 : Int32) (M : sM) (Q : Int32 → sM → Prop) : Prop :=
  wX7_isEntry a1 M (fun r1 => (r1 = 0 → (wX7_fails (1 : Int32) M (fun r11 M12 => Q r11 M12))) ∧ (¬ r1 = 0 → (wX7_revoked a1 M (fun r3 => (r3 = 0 → (vp_in (((212 : Int32) + ((2 : Int32) * a1)) - (1 : Int32)) 228 ∧ (∀ M6 : sM, M6 = sw_ms M 34 ((((212 : Int32) + ((2 : Int32) * a1)) - (1 : Int32))).toNatClampNeg (1 : Int32) → (vp_in (((212 : Int32) + ((2 : Int32) * a1)) - (2 : Int32)) 228 ∧ (Q (M6 34 ((((212 : Int32) + ((2 : Int32) * a1)) - (2 : Int32))).toNatClampNeg) M6))))) ∧ (¬ r3 = 0 → (wX7_fails (2 : Int32) M (fun r8 M9 => Q r8 M9)))))))
set_option maxRecDepth 20000 in
theorem kX7_doRevoke (l : Launch) (g : sG) (o : Nat → Int64) (d : Nat → UInt64) (a1 : Int32) (M : sM) (Q : Int32 → sM → Prop) (h : wX7_doRevoke a1 M Q) : Met l yX7_doRevoke (sw_ws yX7_doRevoke cX7_doRevoke 2 (some .int)) { frames := 2, cells := 0, slots := 0, locals := 43 } (va_Pc [.ref (sw_ad g 33), .int a1] (sw_Pr g o d M)) (va_Qi Q (sw_Po g o d) (sw_A g)) 0 0 (sw_A g) := by
  refine sw_met (by decide) (Nat.le_of_ble_eq_true rfl) ?_
  intro p e s m args below meth c ls hx hb hr hts hown hml hlocks hW hl
  have hown : s.vm.findClass RX7 = some m.cls := hown
  have hl : lv_has ls 2 [(0, .ref (sw_ad g 33)), (1, .int a1)] := hl
  unfold wX7_doRevoke at h
  refine lv_aload_n hx hb dX7_doRevoke_0 rfl (lv_at hl 0 rfl) ?_
  refine lv_iload_n hx hb dX7_doRevoke_1 rfl (lv_at hl 1 rfl) ?_
  refine sw_ki (rest := []) (sw_runV (As := [.int a1]) (rest := []) hx hb hml hown hts (kX7_isEntry l g o d a1 M _ h) cv_X7_isEntry q_1129 rfl rfl ⟨(Nat.le_of_ble_eq_true rfl), (Nat.le_of_ble_eq_true rfl)⟩ hW (Nat.le_of_ble_eq_true rfl) sl_33 rfl rfl hl.1 rfl (Nat.le_of_ble_eq_true rfl) dX7_doRevoke_2 ⟨(Nat.le_of_ble_eq_true rfl), (Nat.le_of_ble_eq_true rfl)⟩) hW (fun r1 M13 H locs h hW => ?_)
  obtain ⟨h, eM13⟩ := h
  rw [eM13] at hW
  refine lv_if_ne (tgt := 14) hx hb dX7_doRevoke_5 (by decide) (fun k2 => ?_) (fun k2 => ?_)
  · have h := h.2 k2
    refine lv_aload_n hx hb dX7_doRevoke_14 rfl (lv_at hl 0 rfl) ?_
    refine lv_iload_n hx hb dX7_doRevoke_15 rfl (lv_at hl 1 rfl) ?_
    refine sw_ki (rest := []) (sw_runV (As := [.int a1]) (rest := []) hx hb hml hown hts (kX7_revoked l g o d a1 M _ h) cv_X7_revoked q_1132 rfl rfl ⟨(Nat.le_of_ble_eq_true rfl), (Nat.le_of_ble_eq_true rfl)⟩ hW (Nat.le_of_ble_eq_true rfl) sl_33 rfl rfl hl.1 rfl (Nat.le_of_ble_eq_true rfl) dX7_doRevoke_16 ⟨(Nat.le_of_ble_eq_true rfl), (Nat.le_of_ble_eq_true rfl)⟩) hW (fun r3 M10 H locs h hW => ?_)
    obtain ⟨h, eM10⟩ := h
    rw [eM10] at hW
    refine lv_if_eq (tgt := 28) hx hb dX7_doRevoke_19 (by decide) (fun k4 => ?_) (fun k4 => ?_)
    · have h := h.1 k4
      refine lv_aload_n hx hb dX7_doRevoke_28 rfl (lv_at hl 0 rfl) ?_
      refine sw_gr (j := 0) (r := 34) hx hb hts hown hW rfl qf_7 (Nat.le_of_ble_eq_true rfl) sl_33 rfl (Nat.le_of_ble_eq_true rfl) q_944 dX7_doRevoke_29 ?_
      refine lv_sipush (v := 212) hx hb dX7_doRevoke_32 (by decide) ?_
      refine lv_iconst (v := 2) hx hb dX7_doRevoke_35 (by decide) ?_
      refine lv_iload_n hx hb dX7_doRevoke_36 rfl (lv_at hl 1 rfl) ?_
      refine lv_imul hx hb dX7_doRevoke_37 ?_
      refine lv_iadd hx hb dX7_doRevoke_38 ?_
      refine lv_iconst (v := 1) hx hb dX7_doRevoke_39 (by decide) ?_
      refine lv_isub hx hb dX7_doRevoke_40 ?_
      refine lv_iconst (v := 1) hx hb dX7_doRevoke_41 (by decide) ?_
      have b5 := h.1
      have h := h.2
      refine sw_is (n := 228) hx hb hW (Nat.le_of_ble_eq_true rfl) sl_34 b5 dX7_doRevoke_42 (fun H locs hW => ?_)
      obtain ⟨M6, eM6⟩ : ∃ z : sM, z = sw_ms M 34 ((((212 : Int32) + ((2 : Int32) * a1)) - (1 : Int32))).toNatClampNeg (1 : Int32) := ⟨_, rfl⟩
      rw [← eM6] at hW
      have h := h M6 eM6
      refine lv_aload_n hx hb dX7_doRevoke_43 rfl (lv_at hl 0 rfl) ?_
      refine sw_gr (j := 0) (r := 34) hx hb hts hown hW rfl qf_7 (Nat.le_of_ble_eq_true rfl) sl_33 rfl (Nat.le_of_ble_eq_true rfl) q_944 dX7_doRevoke_44 ?_
      refine lv_sipush (v := 212) hx hb dX7_doRevoke_47 (by decide) ?_
      refine lv_iconst (v := 2) hx hb dX7_doRevoke_50 (by decide) ?_
      refine lv_iload_n hx hb dX7_doRevoke_51 rfl (lv_at hl 1 rfl) ?_
      refine lv_imul hx hb dX7_doRevoke_52 ?_
      refine lv_iadd hx hb dX7_doRevoke_53 ?_
      refine lv_iconst (v := 2) hx hb dX7_doRevoke_54 (by decide) ?_
      refine lv_isub hx hb dX7_doRevoke_55 ?_
      have b7 := h.1
      have h := h.2
      refine sw_ia (n := 228) hx hb hW (Nat.le_of_ble_eq_true rfl) sl_34 b7 dX7_doRevoke_56 ?_
      exact sw_ri hx hb hr hlocks hW rfl h dX7_doRevoke_57
    · have h := h.2 k4
      refine lv_aload_n hx hb dX7_doRevoke_22 rfl (lv_at hl 0 rfl) ?_
      refine lv_iconst (v := 2) hx hb dX7_doRevoke_23 (by decide) ?_
      refine sw_ki (rest := []) (sw_runV (As := [.int (2 : Int32)]) (rest := []) hx hb hml hown hts (kX7_fails l g o d (2 : Int32) M _ h) cv_X7_fails q_989 rfl rfl ⟨(Nat.le_of_ble_eq_true rfl), (Nat.le_of_ble_eq_true rfl)⟩ hW (Nat.le_of_ble_eq_true rfl) sl_33 rfl rfl hl.1 rfl (Nat.le_of_ble_eq_true rfl) dX7_doRevoke_24 ⟨(Nat.le_of_ble_eq_true rfl), (Nat.le_of_ble_eq_true rfl)⟩) hW (fun r8 M9 H locs h hW => ?_)
      exact sw_ri hx hb hr hlocks hW rfl h dX7_doRevoke_27
  · have h := h.1 k2
    refine lv_aload_n hx hb dX7_doRevoke_8 rfl (lv_at hl 0 rfl) ?_
    refine lv_iconst (v := 1) hx hb dX7_doRevoke_9 (by decide) ?_
    refine sw_ki (rest := []) (sw_runV (As := [.int (1 : Int32)]) (rest := []) hx hb hml hown hts (kX7_fails l g o d (1 : Int32) M _ h) cv_X7_fails q_989 rfl rfl ⟨(Nat.le_of_ble_eq_true rfl), (Nat.le_of_ble_eq_true rfl)⟩ hW (Nat.le_of_ble_eq_true rfl) sl_33 rfl rfl hl.1 rfl (Nat.le_of_ble_eq_true rfl) dX7_doRevoke_10 ⟨(Nat.le_of_ble_eq_true rfl), (Nat.le_of_ble_eq_true rfl)⟩) hW (fun r11 M12 H locs h hW => ?_)
    exact sw_ri hx hb hr hlocks hW rfl h dX7_doRevoke_13

theorem cv_X7_revoke : sw_cV yX7_revoke RX7 cX7_revoke 2 (some .int) 1 := ⟨q_1123, q_1124, q_9, q_1125, by decide +kernel⟩
def wX7_revoke (a1 : Int32) (M : sM) (Q : Int32 → sM → Prop) : Prop :=
  wX7_keep M (fun M1 => wX7_doRevoke a1 M1 (fun r2 M3 => wX7_ends r2 M3 (fun r4 M5 => Q r4 M5)))
set_option maxRecDepth 20000 in
theorem kX7_revoke (l : Launch) (g : sG) (o : Nat → Int64) (d : Nat → UInt64) (a1 : Int32) (M : sM) (Q : Int32 → sM → Prop) (h : wX7_revoke a1 M Q) : Met l yX7_revoke (sw_ws yX7_revoke cX7_revoke 2 (some .int)) { frames := 3, cells := 0, slots := 0, locals := 64 } (va_Pc [.ref (sw_ad g 33), .int a1] (sw_Pr g o d M)) (va_Qi Q (sw_Po g o d) (sw_A g)) 0 0 (sw_A g) := by
  refine sw_met (by decide) (Nat.le_of_ble_eq_true rfl) ?_
  intro p e s m args below meth c ls hx hb hr hts hown hml hlocks hW hl
  have hown : s.vm.findClass RX7 = some m.cls := hown
  have hl : lv_has ls 2 [(0, .ref (sw_ad g 33)), (1, .int a1)] := hl
  unfold wX7_revoke at h
  refine lv_aload_n hx hb dX7_revoke_0 rfl (lv_at hl 0 rfl) ?_
  refine sw_kv (rest := []) (sw_runV (As := []) (rest := []) hx hb hml hown hts (kX7_keep l g o d M _ h) cv_X7_keep q_974 rfl rfl ⟨(Nat.le_of_ble_eq_true rfl), (Nat.le_of_ble_eq_true rfl)⟩ hW (Nat.le_of_ble_eq_true rfl) sl_33 rfl rfl hl.1 rfl (Nat.le_of_ble_eq_true rfl) dX7_revoke_1 ⟨(Nat.le_of_ble_eq_true rfl), (Nat.le_of_ble_eq_true rfl)⟩) hW (fun  M1 H locs h hW => ?_)
  refine lv_aload_n hx hb dX7_revoke_4 rfl (lv_at hl 0 rfl) ?_
  refine lv_aload_n hx hb dX7_revoke_5 rfl (lv_at hl 0 rfl) ?_
  refine lv_iload_n hx hb dX7_revoke_6 rfl (lv_at hl 1 rfl) ?_
  refine sw_ki (rest := [.ref (sw_ad g 33)]) (sw_runV (As := [.int a1]) (rest := [.ref (sw_ad g 33)]) hx hb hml hown hts (kX7_doRevoke l g o d a1 M1 _ h) cv_X7_doRevoke q_1126 rfl rfl ⟨(Nat.le_of_ble_eq_true rfl), (Nat.le_of_ble_eq_true rfl)⟩ hW (Nat.le_of_ble_eq_true rfl) sl_33 rfl rfl hl.1 rfl (Nat.le_of_ble_eq_true rfl) dX7_revoke_7 ⟨(Nat.le_of_ble_eq_true rfl), (Nat.le_of_ble_eq_true rfl)⟩) hW (fun r2 M3 H locs h hW => ?_)
  refine sw_ki (rest := []) (sw_runV (As := [.int r2]) (rest := []) hx hb hml hown hts (kX7_ends l g o d r2 M3 _ h) cv_X7_ends q_992 rfl rfl ⟨(Nat.le_of_ble_eq_true rfl), (Nat.le_of_ble_eq_true rfl)⟩ hW (Nat.le_of_ble_eq_true rfl) sl_33 rfl rfl hl.1 rfl (Nat.le_of_ble_eq_true rfl) dX7_revoke_10 ⟨(Nat.le_of_ble_eq_true rfl), (Nat.le_of_ble_eq_true rfl)⟩) hW (fun r4 M5 H locs h hW => ?_)
  exact sw_ri hx hb hr hlocks hW rfl h dX7_revoke_13

theorem cv_X7_doorCount : sw_cV yX7_doorCount RX7 cX7_doorCount 1 (some .int) 0 := ⟨q_1136, q_1137, q_9, q_1138, by decide +kernel⟩
def wX7_doorCount  (M : sM) (Q : Int32 → sM → Prop) : Prop :=
  ∀ M1 : sM, M1 = sw_ms M 33 6 (0 : Int32) → (Q (M1 34 ((0 : Int32)).toNatClampNeg) M1)
set_option maxRecDepth 20000 in
theorem kX7_doorCount (l : Launch) (g : sG) (o : Nat → Int64) (d : Nat → UInt64)  (M : sM) (Q : Int32 → sM → Prop) (h : wX7_doorCount  M Q) : Met l yX7_doorCount (sw_ws yX7_doorCount cX7_doorCount 1 (some .int)) { frames := 0, cells := 0, slots := 0, locals := 0 } (va_Pc [.ref (sw_ad g 33)] (sw_Pr g o d M)) (va_Qi Q (sw_Po g o d) (sw_A g)) 0 0 (sw_A g) := by
  refine sw_met (by decide) (Nat.le_of_ble_eq_true rfl) ?_
  intro p e s m args below meth c ls hx hb hr hts hown hml hlocks hW hl
  have hown : s.vm.findClass RX7 = some m.cls := hown
  have hl : lv_has ls 1 [(0, .ref (sw_ad g 33))] := hl
  unfold wX7_doorCount at h
  refine lv_aload_n hx hb dX7_doorCount_0 rfl (lv_at hl 0 rfl) ?_
  refine lv_iconst (v := 0) hx hb dX7_doorCount_1 (by decide) ?_
  refine sw_pi (j := 6) hx hb hts hown hW rfl qf_7 tyX7 tyX7_ok nmX7 (Nat.le_of_ble_eq_true rfl) sl_33 rfl (Nat.le_of_ble_eq_true rfl) q_950 rfl rfl rfl dX7_doorCount_2 (fun H locs hW => ?_)
  obtain ⟨M1, eM1⟩ : ∃ z : sM, z = sw_ms M 33 6 (0 : Int32) := ⟨_, rfl⟩
  rw [← eM1] at hW
  have h := h M1 eM1
  refine lv_aload_n hx hb dX7_doorCount_5 rfl (lv_at hl 0 rfl) ?_
  refine sw_gr (j := 0) (r := 34) hx hb hts hown hW rfl qf_7 (Nat.le_of_ble_eq_true rfl) sl_33 rfl (Nat.le_of_ble_eq_true rfl) q_944 dX7_doorCount_6 ?_
  refine lv_iconst (v := 0) hx hb dX7_doorCount_9 (by decide) ?_
  refine sw_ia (n := 228) hx hb hW (Nat.le_of_ble_eq_true rfl) sl_34 (vp_in_iff.mpr (by decide)) dX7_doorCount_10 ?_
  exact sw_ri hx hb hr hlocks hW rfl h dX7_doorCount_11

theorem cv_X7_frameOfDoor : sw_cV yX7_frameOfDoor RX7 cX7_frameOfDoor 2 (some .char) 1 := ⟨q_1140, q_1141, q_9, q_1142, by decide +kernel⟩
def wX7_frameOfDoor (a1 : Int32) (M : sM) (Q : Int32 → sM → Prop) : Prop :=
  wX7_isDoor a1 M (fun r1 => wX7_isThere r1 M (fun r2 M3 => (r2 = 0 → (narrow .char (.int (32 : Int32)) = .int (32 : Int32) ∧ (Q (32 : Int32) M3))) ∧ (¬ r2 = 0 → (wX7_door a1 (0 : Int32) M3 (fun r5 => ∀ v6 : Int32, v6 = ((r5).toUInt32 % 65536).toInt32 → (narrow .char (.int v6) = .int v6 ∧ (Q v6 M3)))))))
set_option maxRecDepth 20000 in
theorem kX7_frameOfDoor (l : Launch) (g : sG) (o : Nat → Int64) (d : Nat → UInt64) (a1 : Int32) (M : sM) (Q : Int32 → sM → Prop) (h : wX7_frameOfDoor a1 M Q) : Met l yX7_frameOfDoor (sw_ws yX7_frameOfDoor cX7_frameOfDoor 2 (some .char)) { frames := 2, cells := 0, slots := 0, locals := 43 } (va_Pc [.ref (sw_ad g 33), .int a1] (sw_Pr g o d M)) (va_Qi Q (sw_Po g o d) (sw_A g)) 0 0 (sw_A g) := by
  refine sw_met (by decide) (Nat.le_of_ble_eq_true rfl) ?_
  intro p e s m args below meth c ls hx hb hr hts hown hml hlocks hW hl
  have hown : s.vm.findClass RX7 = some m.cls := hown
  have hl : lv_has ls 2 [(0, .ref (sw_ad g 33)), (1, .int a1)] := hl
  unfold wX7_frameOfDoor at h
  refine lv_aload_n hx hb dX7_frameOfDoor_0 rfl (lv_at hl 0 rfl) ?_
  refine lv_aload_n hx hb dX7_frameOfDoor_1 rfl (lv_at hl 0 rfl) ?_
  refine lv_iload_n hx hb dX7_frameOfDoor_2 rfl (lv_at hl 1 rfl) ?_
  refine sw_ki (rest := [.ref (sw_ad g 33)]) (sw_runV (As := [.int a1]) (rest := [.ref (sw_ad g 33)]) hx hb hml hown hts (kX7_isDoor l g o d a1 M _ h) cv_X7_isDoor q_1015 rfl rfl ⟨(Nat.le_of_ble_eq_true rfl), (Nat.le_of_ble_eq_true rfl)⟩ hW (Nat.le_of_ble_eq_true rfl) sl_33 rfl rfl hl.1 rfl (Nat.le_of_ble_eq_true rfl) dX7_frameOfDoor_3 ⟨(Nat.le_of_ble_eq_true rfl), (Nat.le_of_ble_eq_true rfl)⟩) hW (fun r1 M8 H locs h hW => ?_)
  obtain ⟨h, eM8⟩ := h
  rw [eM8] at hW
  refine sw_ki (rest := []) (sw_runV (As := [.int r1]) (rest := []) hx hb hml hown hts (kX7_isThere l g o d r1 M _ h) cv_X7_isThere q_1143 rfl rfl ⟨(Nat.le_of_ble_eq_true rfl), (Nat.le_of_ble_eq_true rfl)⟩ hW (Nat.le_of_ble_eq_true rfl) sl_33 rfl rfl hl.1 rfl (Nat.le_of_ble_eq_true rfl) dX7_frameOfDoor_6 ⟨(Nat.le_of_ble_eq_true rfl), (Nat.le_of_ble_eq_true rfl)⟩) hW (fun r2 M3 H locs h hW => ?_)
  refine lv_if_eq (tgt := 22) hx hb dX7_frameOfDoor_9 (by decide) (fun k4 => ?_) (fun k4 => ?_)
  · have h := h.1 k4
    refine lv_bipush (v := 32) hx hb dX7_frameOfDoor_22 (by decide) ?_
    exact sw_ri hx hb hr hlocks hW h.1 h.2 dX7_frameOfDoor_24
  · have h := h.2 k4
    refine lv_aload_n hx hb dX7_frameOfDoor_12 rfl (lv_at hl 0 rfl) ?_
    refine lv_iload_n hx hb dX7_frameOfDoor_13 rfl (lv_at hl 1 rfl) ?_
    refine lv_iconst (v := 0) hx hb dX7_frameOfDoor_14 (by decide) ?_
    refine sw_ki (rest := []) (sw_runV (As := [.int a1, .int (0 : Int32)]) (rest := []) hx hb hml hown hts (kX7_door l g o d a1 (0 : Int32) M3 _ h) cv_X7_door q_1033 rfl rfl ⟨(Nat.le_of_ble_eq_true rfl), (Nat.le_of_ble_eq_true rfl)⟩ hW (Nat.le_of_ble_eq_true rfl) sl_33 rfl rfl hl.1 rfl (Nat.le_of_ble_eq_true rfl) dX7_frameOfDoor_15 ⟨(Nat.le_of_ble_eq_true rfl), (Nat.le_of_ble_eq_true rfl)⟩) hW (fun r5 M7 H locs h hW => ?_)
    obtain ⟨h, eM7⟩ := h
    rw [eM7] at hW
    refine lv_i2c hx hb dX7_frameOfDoor_18 rfl ?_
    refine lv_topi (fun v6 ev6 => ?_)
    have h := h v6 ev6
    refine lv_goto (tgt := 24) hx hb dX7_frameOfDoor_19 (by decide) ?_
    exact sw_ri hx hb hr hlocks hW h.1 h.2 dX7_frameOfDoor_24

theorem cv_X7_topic : sw_cV yX7_topic RX7 cX7_topic 2 (some .int) 1 := ⟨q_1147, q_1148, q_9, q_1149, by decide +kernel⟩
def wX7_topic (a1 : Int32) (M : sM) (Q : Int32 → sM → Prop) : Prop :=
  wX7_isDoor a1 M (fun r1 => wX7_isThere r1 M (fun r2 M3 => (r2 = 0 → (Q (0 : Int32) M3)) ∧ (¬ r2 = 0 → (wX7_door a1 (1 : Int32) M3 (fun r5 => Q r5 M3)))))
set_option maxRecDepth 20000 in
theorem kX7_topic (l : Launch) (g : sG) (o : Nat → Int64) (d : Nat → UInt64) (a1 : Int32) (M : sM) (Q : Int32 → sM → Prop) (h : wX7_topic a1 M Q) : Met l yX7_topic (sw_ws yX7_topic cX7_topic 2 (some .int)) { frames := 2, cells := 0, slots := 0, locals := 43 } (va_Pc [.ref (sw_ad g 33), .int a1] (sw_Pr g o d M)) (va_Qi Q (sw_Po g o d) (sw_A g)) 0 0 (sw_A g) := by
  refine sw_met (by decide) (Nat.le_of_ble_eq_true rfl) ?_
  intro p e s m args below meth c ls hx hb hr hts hown hml hlocks hW hl
  have hown : s.vm.findClass RX7 = some m.cls := hown
  have hl : lv_has ls 2 [(0, .ref (sw_ad g 33)), (1, .int a1)] := hl
  unfold wX7_topic at h
  refine lv_aload_n hx hb dX7_topic_0 rfl (lv_at hl 0 rfl) ?_
  refine lv_aload_n hx hb dX7_topic_1 rfl (lv_at hl 0 rfl) ?_
  refine lv_iload_n hx hb dX7_topic_2 rfl (lv_at hl 1 rfl) ?_
  refine sw_ki (rest := [.ref (sw_ad g 33)]) (sw_runV (As := [.int a1]) (rest := [.ref (sw_ad g 33)]) hx hb hml hown hts (kX7_isDoor l g o d a1 M _ h) cv_X7_isDoor q_1015 rfl rfl ⟨(Nat.le_of_ble_eq_true rfl), (Nat.le_of_ble_eq_true rfl)⟩ hW (Nat.le_of_ble_eq_true rfl) sl_33 rfl rfl hl.1 rfl (Nat.le_of_ble_eq_true rfl) dX7_topic_3 ⟨(Nat.le_of_ble_eq_true rfl), (Nat.le_of_ble_eq_true rfl)⟩) hW (fun r1 M7 H locs h hW => ?_)
  obtain ⟨h, eM7⟩ := h
  rw [eM7] at hW
  refine sw_ki (rest := []) (sw_runV (As := [.int r1]) (rest := []) hx hb hml hown hts (kX7_isThere l g o d r1 M _ h) cv_X7_isThere q_1143 rfl rfl ⟨(Nat.le_of_ble_eq_true rfl), (Nat.le_of_ble_eq_true rfl)⟩ hW (Nat.le_of_ble_eq_true rfl) sl_33 rfl rfl hl.1 rfl (Nat.le_of_ble_eq_true rfl) dX7_topic_6 ⟨(Nat.le_of_ble_eq_true rfl), (Nat.le_of_ble_eq_true rfl)⟩) hW (fun r2 M3 H locs h hW => ?_)
  refine lv_if_eq (tgt := 21) hx hb dX7_topic_9 (by decide) (fun k4 => ?_) (fun k4 => ?_)
  · have h := h.1 k4
    refine lv_iconst (v := 0) hx hb dX7_topic_21 (by decide) ?_
    exact sw_ri hx hb hr hlocks hW rfl h dX7_topic_22
  · have h := h.2 k4
    refine lv_aload_n hx hb dX7_topic_12 rfl (lv_at hl 0 rfl) ?_
    refine lv_iload_n hx hb dX7_topic_13 rfl (lv_at hl 1 rfl) ?_
    refine lv_iconst (v := 1) hx hb dX7_topic_14 (by decide) ?_
    refine sw_ki (rest := []) (sw_runV (As := [.int a1, .int (1 : Int32)]) (rest := []) hx hb hml hown hts (kX7_door l g o d a1 (1 : Int32) M3 _ h) cv_X7_door q_1033 rfl rfl ⟨(Nat.le_of_ble_eq_true rfl), (Nat.le_of_ble_eq_true rfl)⟩ hW (Nat.le_of_ble_eq_true rfl) sl_33 rfl rfl hl.1 rfl (Nat.le_of_ble_eq_true rfl) dX7_topic_15 ⟨(Nat.le_of_ble_eq_true rfl), (Nat.le_of_ble_eq_true rfl)⟩) hW (fun r5 M6 H locs h hW => ?_)
    obtain ⟨h, eM6⟩ := h
    rw [eM6] at hW
    refine lv_goto (tgt := 22) hx hb dX7_topic_18 (by decide) ?_
    exact sw_ri hx hb hr hlocks hW rfl h dX7_topic_22

theorem cv_X7_examinersOf : sw_cV yX7_examinersOf RX7 cX7_examinersOf 2 (some .int) 1 := ⟨q_1151, q_1152, q_9, q_1153, by decide +kernel⟩
def wX7_examinersOf (a1 : Int32) (M : sM) (Q : Int32 → sM → Prop) : Prop :=
  wX7_isDoor a1 M (fun r1 => wX7_isThere r1 M (fun r2 M3 => (r2 = 0 → (Q (0 : Int32) M3)) ∧ (¬ r2 = 0 → (wX7_examinersAt a1 M3 (fun r5 => Q r5 M3)))))
set_option maxRecDepth 20000 in
theorem kX7_examinersOf (l : Launch) (g : sG) (o : Nat → Int64) (d : Nat → UInt64) (a1 : Int32) (M : sM) (Q : Int32 → sM → Prop) (h : wX7_examinersOf a1 M Q) : Met l yX7_examinersOf (sw_ws yX7_examinersOf cX7_examinersOf 2 (some .int)) { frames := 2, cells := 0, slots := 0, locals := 46 } (va_Pc [.ref (sw_ad g 33), .int a1] (sw_Pr g o d M)) (va_Qi Q (sw_Po g o d) (sw_A g)) 0 0 (sw_A g) := by
  refine sw_met (by decide) (Nat.le_of_ble_eq_true rfl) ?_
  intro p e s m args below meth c ls hx hb hr hts hown hml hlocks hW hl
  have hown : s.vm.findClass RX7 = some m.cls := hown
  have hl : lv_has ls 2 [(0, .ref (sw_ad g 33)), (1, .int a1)] := hl
  unfold wX7_examinersOf at h
  refine lv_aload_n hx hb dX7_examinersOf_0 rfl (lv_at hl 0 rfl) ?_
  refine lv_aload_n hx hb dX7_examinersOf_1 rfl (lv_at hl 0 rfl) ?_
  refine lv_iload_n hx hb dX7_examinersOf_2 rfl (lv_at hl 1 rfl) ?_
  refine sw_ki (rest := [.ref (sw_ad g 33)]) (sw_runV (As := [.int a1]) (rest := [.ref (sw_ad g 33)]) hx hb hml hown hts (kX7_isDoor l g o d a1 M _ h) cv_X7_isDoor q_1015 rfl rfl ⟨(Nat.le_of_ble_eq_true rfl), (Nat.le_of_ble_eq_true rfl)⟩ hW (Nat.le_of_ble_eq_true rfl) sl_33 rfl rfl hl.1 rfl (Nat.le_of_ble_eq_true rfl) dX7_examinersOf_3 ⟨(Nat.le_of_ble_eq_true rfl), (Nat.le_of_ble_eq_true rfl)⟩) hW (fun r1 M7 H locs h hW => ?_)
  obtain ⟨h, eM7⟩ := h
  rw [eM7] at hW
  refine sw_ki (rest := []) (sw_runV (As := [.int r1]) (rest := []) hx hb hml hown hts (kX7_isThere l g o d r1 M _ h) cv_X7_isThere q_1143 rfl rfl ⟨(Nat.le_of_ble_eq_true rfl), (Nat.le_of_ble_eq_true rfl)⟩ hW (Nat.le_of_ble_eq_true rfl) sl_33 rfl rfl hl.1 rfl (Nat.le_of_ble_eq_true rfl) dX7_examinersOf_6 ⟨(Nat.le_of_ble_eq_true rfl), (Nat.le_of_ble_eq_true rfl)⟩) hW (fun r2 M3 H locs h hW => ?_)
  refine lv_if_eq (tgt := 20) hx hb dX7_examinersOf_9 (by decide) (fun k4 => ?_) (fun k4 => ?_)
  · have h := h.1 k4
    refine lv_iconst (v := 0) hx hb dX7_examinersOf_20 (by decide) ?_
    exact sw_ri hx hb hr hlocks hW rfl h dX7_examinersOf_21
  · have h := h.2 k4
    refine lv_aload_n hx hb dX7_examinersOf_12 rfl (lv_at hl 0 rfl) ?_
    refine lv_iload_n hx hb dX7_examinersOf_13 rfl (lv_at hl 1 rfl) ?_
    refine sw_ki (rest := []) (sw_runV (As := [.int a1]) (rest := []) hx hb hml hown hts (kX7_examinersAt l g o d a1 M3 _ h) cv_X7_examinersAt q_1043 rfl rfl ⟨(Nat.le_of_ble_eq_true rfl), (Nat.le_of_ble_eq_true rfl)⟩ hW (Nat.le_of_ble_eq_true rfl) sl_33 rfl rfl hl.1 rfl (Nat.le_of_ble_eq_true rfl) dX7_examinersOf_14 ⟨(Nat.le_of_ble_eq_true rfl), (Nat.le_of_ble_eq_true rfl)⟩) hW (fun r5 M6 H locs h hW => ?_)
    obtain ⟨h, eM6⟩ := h
    rw [eM6] at hW
    refine lv_goto (tgt := 21) hx hb dX7_examinersOf_17 (by decide) ?_
    exact sw_ri hx hb hr hlocks hW rfl h dX7_examinersOf_21

theorem cv_X7_gradesOf : sw_cV yX7_gradesOf RX7 cX7_gradesOf 2 (some .int) 1 := ⟨q_1155, q_1156, q_9, q_1157, by decide +kernel⟩
def wX7_gradesOf (a1 : Int32) (M : sM) (Q : Int32 → sM → Prop) : Prop :=
  wX7_isDoor a1 M (fun r1 => wX7_isThere r1 M (fun r2 M3 => (r2 = 0 → (Q (0 : Int32) M3)) ∧ (¬ r2 = 0 → (wX7_gradesAt a1 M3 (fun r5 => Q r5 M3)))))
set_option maxRecDepth 20000 in
theorem kX7_gradesOf (l : Launch) (g : sG) (o : Nat → Int64) (d : Nat → UInt64) (a1 : Int32) (M : sM) (Q : Int32 → sM → Prop) (h : wX7_gradesOf a1 M Q) : Met l yX7_gradesOf (sw_ws yX7_gradesOf cX7_gradesOf 2 (some .int)) { frames := 2, cells := 0, slots := 0, locals := 46 } (va_Pc [.ref (sw_ad g 33), .int a1] (sw_Pr g o d M)) (va_Qi Q (sw_Po g o d) (sw_A g)) 0 0 (sw_A g) := by
  refine sw_met (by decide) (Nat.le_of_ble_eq_true rfl) ?_
  intro p e s m args below meth c ls hx hb hr hts hown hml hlocks hW hl
  have hown : s.vm.findClass RX7 = some m.cls := hown
  have hl : lv_has ls 2 [(0, .ref (sw_ad g 33)), (1, .int a1)] := hl
  unfold wX7_gradesOf at h
  refine lv_aload_n hx hb dX7_gradesOf_0 rfl (lv_at hl 0 rfl) ?_
  refine lv_aload_n hx hb dX7_gradesOf_1 rfl (lv_at hl 0 rfl) ?_
  refine lv_iload_n hx hb dX7_gradesOf_2 rfl (lv_at hl 1 rfl) ?_
  refine sw_ki (rest := [.ref (sw_ad g 33)]) (sw_runV (As := [.int a1]) (rest := [.ref (sw_ad g 33)]) hx hb hml hown hts (kX7_isDoor l g o d a1 M _ h) cv_X7_isDoor q_1015 rfl rfl ⟨(Nat.le_of_ble_eq_true rfl), (Nat.le_of_ble_eq_true rfl)⟩ hW (Nat.le_of_ble_eq_true rfl) sl_33 rfl rfl hl.1 rfl (Nat.le_of_ble_eq_true rfl) dX7_gradesOf_3 ⟨(Nat.le_of_ble_eq_true rfl), (Nat.le_of_ble_eq_true rfl)⟩) hW (fun r1 M7 H locs h hW => ?_)
  obtain ⟨h, eM7⟩ := h
  rw [eM7] at hW
  refine sw_ki (rest := []) (sw_runV (As := [.int r1]) (rest := []) hx hb hml hown hts (kX7_isThere l g o d r1 M _ h) cv_X7_isThere q_1143 rfl rfl ⟨(Nat.le_of_ble_eq_true rfl), (Nat.le_of_ble_eq_true rfl)⟩ hW (Nat.le_of_ble_eq_true rfl) sl_33 rfl rfl hl.1 rfl (Nat.le_of_ble_eq_true rfl) dX7_gradesOf_6 ⟨(Nat.le_of_ble_eq_true rfl), (Nat.le_of_ble_eq_true rfl)⟩) hW (fun r2 M3 H locs h hW => ?_)
  refine lv_if_eq (tgt := 20) hx hb dX7_gradesOf_9 (by decide) (fun k4 => ?_) (fun k4 => ?_)
  · have h := h.1 k4
    refine lv_iconst (v := 0) hx hb dX7_gradesOf_20 (by decide) ?_
    exact sw_ri hx hb hr hlocks hW rfl h dX7_gradesOf_21
  · have h := h.2 k4
    refine lv_aload_n hx hb dX7_gradesOf_12 rfl (lv_at hl 0 rfl) ?_
    refine lv_iload_n hx hb dX7_gradesOf_13 rfl (lv_at hl 1 rfl) ?_
    refine sw_ki (rest := []) (sw_runV (As := [.int a1]) (rest := []) hx hb hml hown hts (kX7_gradesAt l g o d a1 M3 _ h) cv_X7_gradesAt q_1081 rfl rfl ⟨(Nat.le_of_ble_eq_true rfl), (Nat.le_of_ble_eq_true rfl)⟩ hW (Nat.le_of_ble_eq_true rfl) sl_33 rfl rfl hl.1 rfl (Nat.le_of_ble_eq_true rfl) dX7_gradesOf_14 ⟨(Nat.le_of_ble_eq_true rfl), (Nat.le_of_ble_eq_true rfl)⟩) hW (fun r5 M6 H locs h hW => ?_)
    obtain ⟨h, eM6⟩ := h
    rw [eM6] at hW
    refine lv_goto (tgt := 21) hx hb dX7_gradesOf_17 (by decide) ?_
    exact sw_ri hx hb hr hlocks hW rfl h dX7_gradesOf_21

def jX7_result_40 (M : sM) (t0_17 : Int32) (Q : Int32 → sM → Prop) (t0_40 : Int32) : Prop :=
  ∀ M3 : sM, M3 = sw_ms M 33 6 t0_40 → (((M3 33 6) ≤ 0 → (Q t0_17 M3)) ∧ (¬ (M3 33 6) ≤ 0 → (Q (0 : Int32) M3)))
def jX7_result_17 (a1 : Int32) (M : sM) (Q : Int32 → sM → Prop) (t0_17 : Int32) : Prop :=
  wX7_isDoor a1 M (fun r2 => (r2 = 0 → (jX7_result_40 M t0_17 Q (1 : Int32))) ∧ (¬ r2 = 0 → ((0 ≤ t0_17 → (jX7_result_40 M t0_17 Q (0 : Int32))) ∧ (¬ 0 ≤ t0_17 → (jX7_result_40 M t0_17 Q (2 : Int32))))))
theorem cv_X7_result : sw_cV yX7_result RX7 cX7_result 3 (some .int) 1 := ⟨q_1159, q_1160, q_9, q_1161, by decide +kernel⟩
def wX7_result (a1 : Int32) (M : sM) (Q : Int32 → sM → Prop) : Prop :=
  wX7_isDoor a1 M (fun r1 => (r1 = 0 → (jX7_result_17 a1 M Q (-1 : Int32))) ∧ (¬ r1 = 0 → (wX7_resultOf a1 M (fun r9 => jX7_result_17 a1 M Q r9))))
set_option maxRecDepth 20000 in
theorem kX7_result (l : Launch) (g : sG) (o : Nat → Int64) (d : Nat → UInt64) (a1 : Int32) (M : sM) (Q : Int32 → sM → Prop) (h : wX7_result a1 M Q) : Met l yX7_result (sw_ws yX7_result cX7_result 3 (some .int)) { frames := 3, cells := 0, slots := 0, locals := 72 } (va_Pc [.ref (sw_ad g 33), .int a1] (sw_Pr g o d M)) (va_Qi Q (sw_Po g o d) (sw_A g)) 0 0 (sw_A g) := by
  refine sw_met (by decide) (Nat.le_of_ble_eq_true rfl) ?_
  intro p e s m args below meth c ls hx hb hr hts hown hml hlocks hW hl
  have hown : s.vm.findClass RX7 = some m.cls := hown
  have hl : lv_has ls 3 [(0, .ref (sw_ad g 33)), (1, .int a1)] := hl
  unfold wX7_result at h
  refine lv_aload_n hx hb dX7_result_0 rfl (lv_at hl 0 rfl) ?_
  refine lv_iload_n hx hb dX7_result_1 rfl (lv_at hl 1 rfl) ?_
  refine sw_ki (rest := []) (sw_runV (As := [.int a1]) (rest := []) hx hb hml hown hts (kX7_isDoor l g o d a1 M _ h) cv_X7_isDoor q_1015 rfl rfl ⟨(Nat.le_of_ble_eq_true rfl), (Nat.le_of_ble_eq_true rfl)⟩ hW (Nat.le_of_ble_eq_true rfl) sl_33 rfl rfl hl.1 rfl (Nat.le_of_ble_eq_true rfl) dX7_result_2 ⟨(Nat.le_of_ble_eq_true rfl), (Nat.le_of_ble_eq_true rfl)⟩) hW (fun r1 M11 H locs h hW => ?_)
  obtain ⟨h, eM11⟩ := h
  rw [eM11] at hW
  refine sw_jn_i (g := g) (o := o) (d := d) (nL := 3) (M := M) (jp := 17) (J := fun t0_17 => jX7_result_17 a1 M Q t0_17) (Lf := fun t0_17 => [(0, .ref (sw_ad g 33)), (1, .int a1)]) (Sf := fun t0_17 => [.int t0_17]) (fun t0_17 H locs ls h hW hl => ?_) (fun hJ17 => ?_)
  · unfold jX7_result_17 at h
    refine lv_istore_n (lv' := [(2, .int t0_17), (0, .ref (sw_ad g 33)), (1, .int a1)]) hx hb dX7_result_17 rfl hl (Nat.le_of_ble_eq_true rfl) rfl (fun ls hl => ?_)
    refine lv_aload_n hx hb dX7_result_18 rfl (lv_at hl 1 rfl) ?_
    refine lv_aload_n hx hb dX7_result_19 rfl (lv_at hl 1 rfl) ?_
    refine lv_iload_n hx hb dX7_result_20 rfl (lv_at hl 2 rfl) ?_
    refine sw_ki (rest := [.ref (sw_ad g 33)]) (sw_runV (As := [.int a1]) (rest := [.ref (sw_ad g 33)]) hx hb hml hown hts (kX7_isDoor l g o d a1 M _ h) cv_X7_isDoor q_1015 rfl rfl ⟨(Nat.le_of_ble_eq_true rfl), (Nat.le_of_ble_eq_true rfl)⟩ hW (Nat.le_of_ble_eq_true rfl) sl_33 rfl rfl hl.1 rfl (Nat.le_of_ble_eq_true rfl) dX7_result_21 ⟨(Nat.le_of_ble_eq_true rfl), (Nat.le_of_ble_eq_true rfl)⟩) hW (fun r2 M7 H locs h hW => ?_)
    obtain ⟨h, eM7⟩ := h
    rw [eM7] at hW
    refine sw_jn_i (g := g) (o := o) (d := d) (nL := 3) (M := M) (jp := 40) (J := fun t0_40 => jX7_result_40 M t0_17 Q t0_40) (Lf := fun t0_40 => [(0, .ref (sw_ad g 33)), (2, .int t0_17)]) (Sf := fun t0_40 => [.int t0_40, .ref (sw_ad g 33)]) (fun t0_40 H locs ls h hW hl => ?_) (fun hJ40 => ?_)
    · unfold jX7_result_40 at h
      refine sw_pi (j := 6) hx hb hts hown hW rfl qf_7 tyX7 tyX7_ok nmX7 (Nat.le_of_ble_eq_true rfl) sl_33 rfl (Nat.le_of_ble_eq_true rfl) q_950 rfl rfl rfl dX7_result_40 (fun H locs hW => ?_)
      obtain ⟨M3, eM3⟩ : ∃ z : sM, z = sw_ms M 33 6 t0_40 := ⟨_, rfl⟩
      rw [← eM3] at hW
      have h := h M3 eM3
      refine lv_aload_n hx hb dX7_result_43 rfl (lv_at hl 0 rfl) ?_
      refine sw_gi (j := 6) hx hb hts hown hW rfl qf_7 (Nat.le_of_ble_eq_true rfl) sl_33 rfl (Nat.le_of_ble_eq_true rfl) q_950 dX7_result_44 ?_
      refine lv_if_le (tgt := 54) hx hb dX7_result_47 (by decide) (fun k4 => ?_) (fun k4 => ?_)
      · have h := h.1 k4
        refine lv_iload_n hx hb dX7_result_54 rfl (lv_at hl 1 rfl) ?_
        exact sw_ri hx hb hr hlocks hW rfl h dX7_result_55
      · have h := h.2 k4
        refine lv_iconst (v := 0) hx hb dX7_result_50 (by decide) ?_
        refine lv_goto (tgt := 55) hx hb dX7_result_51 (by decide) ?_
        exact sw_ri hx hb hr hlocks hW rfl h dX7_result_55
    · refine lv_if_ne (tgt := 31) hx hb dX7_result_24 (by decide) (fun k5 => ?_) (fun k5 => ?_)
      · have h := h.2 k5
        refine lv_iload_n hx hb dX7_result_31 rfl (lv_at hl 0 rfl) ?_
        refine lv_if_ge (tgt := 39) hx hb dX7_result_32 (by decide) (fun k6 => ?_) (fun k6 => ?_)
        · have h := h.1 k6
          refine lv_iconst (v := 0) hx hb dX7_result_39 (by decide) ?_
          exact hJ40 _ _ _ _ h hW (lv_sub hl [1, 0] rfl)
        · have h := h.2 k6
          refine lv_iconst (v := 2) hx hb dX7_result_35 (by decide) ?_
          refine lv_goto (tgt := 40) hx hb dX7_result_36 (by decide) ?_
          exact hJ40 _ _ _ _ h hW (lv_sub hl [1, 0] rfl)
      · have h := h.1 k5
        refine lv_iconst (v := 1) hx hb dX7_result_27 (by decide) ?_
        refine lv_goto (tgt := 40) hx hb dX7_result_28 (by decide) ?_
        exact hJ40 _ _ _ _ h hW (lv_sub hl [1, 0] rfl)
  · refine lv_if_eq (tgt := 16) hx hb dX7_result_5 (by decide) (fun k8 => ?_) (fun k8 => ?_)
    · have h := h.1 k8
      refine lv_iconst (v := -1) hx hb dX7_result_16 (by decide) ?_
      exact hJ17 _ _ _ _ h hW (lv_sub hl [0, 1] rfl)
    · have h := h.2 k8
      refine lv_aload_n hx hb dX7_result_8 rfl (lv_at hl 0 rfl) ?_
      refine lv_iload_n hx hb dX7_result_9 rfl (lv_at hl 1 rfl) ?_
      refine sw_ki (rest := []) (sw_runV (As := [.int a1]) (rest := []) hx hb hml hown hts (kX7_resultOf l g o d a1 M _ h) cv_X7_resultOf q_1098 rfl rfl ⟨(Nat.le_of_ble_eq_true rfl), (Nat.le_of_ble_eq_true rfl)⟩ hW (Nat.le_of_ble_eq_true rfl) sl_33 rfl rfl hl.1 rfl (Nat.le_of_ble_eq_true rfl) dX7_result_10 ⟨(Nat.le_of_ble_eq_true rfl), (Nat.le_of_ble_eq_true rfl)⟩) hW (fun r9 M10 H locs h hW => ?_)
      obtain ⟨h, eM10⟩ := h
      rw [eM10] at hW
      refine lv_goto (tgt := 17) hx hb dX7_result_13 (by decide) ?_
      exact hJ17 _ _ _ _ h hW (lv_sub hl [0, 1] rfl)

theorem cv_X7_passes : sw_cV yX7_passes RX7 cX7_passes 2 (some .boolean) 1 := ⟨q_1163, q_1164, q_9, q_1165, by decide +kernel⟩
def wX7_passes (a1 : Int32) (M : sM) (Q : Int32 → sM → Prop) : Prop :=
  wX7_isDoor a1 M (fun r1 => wX7_isThere r1 M (fun r2 M3 => (r2 = 0 → (Q (0 : Int32) M3)) ∧ (¬ r2 = 0 → (wX7_hasPassed a1 M3 (fun r5 => (r5 = 0 → (Q (0 : Int32) M3)) ∧ (¬ r5 = 0 → (Q (1 : Int32) M3)))))))
set_option maxRecDepth 20000 in
theorem kX7_passes (l : Launch) (g : sG) (o : Nat → Int64) (d : Nat → UInt64) (a1 : Int32) (M : sM) (Q : Int32 → sM → Prop) (h : wX7_passes a1 M Q) : Met l yX7_passes (sw_ws yX7_passes cX7_passes 2 (some .boolean)) { frames := 4, cells := 0, slots := 0, locals := 94 } (va_Pc [.ref (sw_ad g 33), .int a1] (sw_Pr g o d M)) (va_Qi Q (sw_Po g o d) (sw_A g)) 0 0 (sw_A g) := by
  refine sw_met (by decide) (Nat.le_of_ble_eq_true rfl) ?_
  intro p e s m args below meth c ls hx hb hr hts hown hml hlocks hW hl
  have hown : s.vm.findClass RX7 = some m.cls := hown
  have hl : lv_has ls 2 [(0, .ref (sw_ad g 33)), (1, .int a1)] := hl
  unfold wX7_passes at h
  refine lv_aload_n hx hb dX7_passes_0 rfl (lv_at hl 0 rfl) ?_
  refine lv_aload_n hx hb dX7_passes_1 rfl (lv_at hl 0 rfl) ?_
  refine lv_iload_n hx hb dX7_passes_2 rfl (lv_at hl 1 rfl) ?_
  refine sw_ki (rest := [.ref (sw_ad g 33)]) (sw_runV (As := [.int a1]) (rest := [.ref (sw_ad g 33)]) hx hb hml hown hts (kX7_isDoor l g o d a1 M _ h) cv_X7_isDoor q_1015 rfl rfl ⟨(Nat.le_of_ble_eq_true rfl), (Nat.le_of_ble_eq_true rfl)⟩ hW (Nat.le_of_ble_eq_true rfl) sl_33 rfl rfl hl.1 rfl (Nat.le_of_ble_eq_true rfl) dX7_passes_3 ⟨(Nat.le_of_ble_eq_true rfl), (Nat.le_of_ble_eq_true rfl)⟩) hW (fun r1 M8 H locs h hW => ?_)
  obtain ⟨h, eM8⟩ := h
  rw [eM8] at hW
  refine sw_ki (rest := []) (sw_runV (As := [.int r1]) (rest := []) hx hb hml hown hts (kX7_isThere l g o d r1 M _ h) cv_X7_isThere q_1143 rfl rfl ⟨(Nat.le_of_ble_eq_true rfl), (Nat.le_of_ble_eq_true rfl)⟩ hW (Nat.le_of_ble_eq_true rfl) sl_33 rfl rfl hl.1 rfl (Nat.le_of_ble_eq_true rfl) dX7_passes_6 ⟨(Nat.le_of_ble_eq_true rfl), (Nat.le_of_ble_eq_true rfl)⟩) hW (fun r2 M3 H locs h hW => ?_)
  refine lv_if_eq (tgt := 24) hx hb dX7_passes_9 (by decide) (fun k4 => ?_) (fun k4 => ?_)
  · have h := h.1 k4
    refine lv_iconst (v := 0) hx hb dX7_passes_24 (by decide) ?_
    exact sw_ri hx hb hr hlocks hW (by decide) h dX7_passes_25
  · have h := h.2 k4
    refine lv_aload_n hx hb dX7_passes_12 rfl (lv_at hl 0 rfl) ?_
    refine lv_iload_n hx hb dX7_passes_13 rfl (lv_at hl 1 rfl) ?_
    refine sw_ki (rest := []) (sw_runV (As := [.int a1]) (rest := []) hx hb hml hown hts (kX7_hasPassed l g o d a1 M3 _ h) cv_X7_hasPassed q_1103 rfl rfl ⟨(Nat.le_of_ble_eq_true rfl), (Nat.le_of_ble_eq_true rfl)⟩ hW (Nat.le_of_ble_eq_true rfl) sl_33 rfl rfl hl.1 rfl (Nat.le_of_ble_eq_true rfl) dX7_passes_14 ⟨(Nat.le_of_ble_eq_true rfl), (Nat.le_of_ble_eq_true rfl)⟩) hW (fun r5 M7 H locs h hW => ?_)
    obtain ⟨h, eM7⟩ := h
    rw [eM7] at hW
    refine lv_if_eq (tgt := 24) hx hb dX7_passes_17 (by decide) (fun k6 => ?_) (fun k6 => ?_)
    · have h := h.1 k6
      refine lv_iconst (v := 0) hx hb dX7_passes_24 (by decide) ?_
      exact sw_ri hx hb hr hlocks hW (by decide) h dX7_passes_25
    · have h := h.2 k6
      refine lv_iconst (v := 1) hx hb dX7_passes_20 (by decide) ?_
      refine lv_goto (tgt := 25) hx hb dX7_passes_21 (by decide) ?_
      exact sw_ri hx hb hr hlocks hW (by decide) h dX7_passes_25

theorem cv_X7_wasGranted : sw_cV yX7_wasGranted RX7 cX7_wasGranted 2 (some .boolean) 1 := ⟨q_1167, q_1168, q_9, q_1169, by decide +kernel⟩
def wX7_wasGranted (a1 : Int32) (M : sM) (Q : Int32 → sM → Prop) : Prop :=
  wX7_isDoor a1 M (fun r1 => wX7_isThere r1 M (fun r2 M3 => (r2 = 0 → (Q (0 : Int32) M3)) ∧ (¬ r2 = 0 → (wX7_door a1 (3 : Int32) M3 (fun r5 => (r5 = (1 : Int32) → (Q (1 : Int32) M3)) ∧ (¬ r5 = (1 : Int32) → (Q (0 : Int32) M3)))))))
set_option maxRecDepth 20000 in
theorem kX7_wasGranted (l : Launch) (g : sG) (o : Nat → Int64) (d : Nat → UInt64) (a1 : Int32) (M : sM) (Q : Int32 → sM → Prop) (h : wX7_wasGranted a1 M Q) : Met l yX7_wasGranted (sw_ws yX7_wasGranted cX7_wasGranted 2 (some .boolean)) { frames := 2, cells := 0, slots := 0, locals := 43 } (va_Pc [.ref (sw_ad g 33), .int a1] (sw_Pr g o d M)) (va_Qi Q (sw_Po g o d) (sw_A g)) 0 0 (sw_A g) := by
  refine sw_met (by decide) (Nat.le_of_ble_eq_true rfl) ?_
  intro p e s m args below meth c ls hx hb hr hts hown hml hlocks hW hl
  have hown : s.vm.findClass RX7 = some m.cls := hown
  have hl : lv_has ls 2 [(0, .ref (sw_ad g 33)), (1, .int a1)] := hl
  unfold wX7_wasGranted at h
  refine lv_aload_n hx hb dX7_wasGranted_0 rfl (lv_at hl 0 rfl) ?_
  refine lv_aload_n hx hb dX7_wasGranted_1 rfl (lv_at hl 0 rfl) ?_
  refine lv_iload_n hx hb dX7_wasGranted_2 rfl (lv_at hl 1 rfl) ?_
  refine sw_ki (rest := [.ref (sw_ad g 33)]) (sw_runV (As := [.int a1]) (rest := [.ref (sw_ad g 33)]) hx hb hml hown hts (kX7_isDoor l g o d a1 M _ h) cv_X7_isDoor q_1015 rfl rfl ⟨(Nat.le_of_ble_eq_true rfl), (Nat.le_of_ble_eq_true rfl)⟩ hW (Nat.le_of_ble_eq_true rfl) sl_33 rfl rfl hl.1 rfl (Nat.le_of_ble_eq_true rfl) dX7_wasGranted_3 ⟨(Nat.le_of_ble_eq_true rfl), (Nat.le_of_ble_eq_true rfl)⟩) hW (fun r1 M8 H locs h hW => ?_)
  obtain ⟨h, eM8⟩ := h
  rw [eM8] at hW
  refine sw_ki (rest := []) (sw_runV (As := [.int r1]) (rest := []) hx hb hml hown hts (kX7_isThere l g o d r1 M _ h) cv_X7_isThere q_1143 rfl rfl ⟨(Nat.le_of_ble_eq_true rfl), (Nat.le_of_ble_eq_true rfl)⟩ hW (Nat.le_of_ble_eq_true rfl) sl_33 rfl rfl hl.1 rfl (Nat.le_of_ble_eq_true rfl) dX7_wasGranted_6 ⟨(Nat.le_of_ble_eq_true rfl), (Nat.le_of_ble_eq_true rfl)⟩) hW (fun r2 M3 H locs h hW => ?_)
  refine lv_if_eq (tgt := 26) hx hb dX7_wasGranted_9 (by decide) (fun k4 => ?_) (fun k4 => ?_)
  · have h := h.1 k4
    refine lv_iconst (v := 0) hx hb dX7_wasGranted_26 (by decide) ?_
    exact sw_ri hx hb hr hlocks hW (by decide) h dX7_wasGranted_27
  · have h := h.2 k4
    refine lv_aload_n hx hb dX7_wasGranted_12 rfl (lv_at hl 0 rfl) ?_
    refine lv_iload_n hx hb dX7_wasGranted_13 rfl (lv_at hl 1 rfl) ?_
    refine lv_iconst (v := 3) hx hb dX7_wasGranted_14 (by decide) ?_
    refine sw_ki (rest := []) (sw_runV (As := [.int a1, .int (3 : Int32)]) (rest := []) hx hb hml hown hts (kX7_door l g o d a1 (3 : Int32) M3 _ h) cv_X7_door q_1033 rfl rfl ⟨(Nat.le_of_ble_eq_true rfl), (Nat.le_of_ble_eq_true rfl)⟩ hW (Nat.le_of_ble_eq_true rfl) sl_33 rfl rfl hl.1 rfl (Nat.le_of_ble_eq_true rfl) dX7_wasGranted_15 ⟨(Nat.le_of_ble_eq_true rfl), (Nat.le_of_ble_eq_true rfl)⟩) hW (fun r5 M7 H locs h hW => ?_)
    obtain ⟨h, eM7⟩ := h
    rw [eM7] at hW
    refine lv_iconst (v := 1) hx hb dX7_wasGranted_18 (by decide) ?_
    refine lv_icmp_ne (tgt := 26) hx hb dX7_wasGranted_19 (by decide) (fun k6 => ?_) (fun k6 => ?_)
    · have h := h.2 k6
      refine lv_iconst (v := 0) hx hb dX7_wasGranted_26 (by decide) ?_
      exact sw_ri hx hb hr hlocks hW (by decide) h dX7_wasGranted_27
    · have h := h.1 k6
      refine lv_iconst (v := 1) hx hb dX7_wasGranted_22 (by decide) ?_
      refine lv_goto (tgt := 27) hx hb dX7_wasGranted_23 (by decide) ?_
      exact sw_ri hx hb hr hlocks hW (by decide) h dX7_wasGranted_27

theorem cv_X7_isEntitled : sw_cV yX7_isEntitled RX7 cX7_isEntitled 2 (some .boolean) 1 := ⟨q_1171, q_1172, q_9, q_1173, by decide +kernel⟩
def wX7_isEntitled (a1 : Int32) (M : sM) (Q : Int32 → sM → Prop) : Prop :=
  wX7_isDoor a1 M (fun r1 => wX7_isThere r1 M (fun r2 M3 => (r2 = 0 → (Q (0 : Int32) M3)) ∧ (¬ r2 = 0 → (wX7_entitled a1 M3 (fun r5 => (r5 = 0 → (Q (0 : Int32) M3)) ∧ (¬ r5 = 0 → (Q (1 : Int32) M3)))))))
set_option maxRecDepth 20000 in
theorem kX7_isEntitled (l : Launch) (g : sG) (o : Nat → Int64) (d : Nat → UInt64) (a1 : Int32) (M : sM) (Q : Int32 → sM → Prop) (h : wX7_isEntitled a1 M Q) : Met l yX7_isEntitled (sw_ws yX7_isEntitled cX7_isEntitled 2 (some .boolean)) { frames := 5, cells := 0, slots := 0, locals := 115 } (va_Pc [.ref (sw_ad g 33), .int a1] (sw_Pr g o d M)) (va_Qi Q (sw_Po g o d) (sw_A g)) 0 0 (sw_A g) := by
  refine sw_met (by decide) (Nat.le_of_ble_eq_true rfl) ?_
  intro p e s m args below meth c ls hx hb hr hts hown hml hlocks hW hl
  have hown : s.vm.findClass RX7 = some m.cls := hown
  have hl : lv_has ls 2 [(0, .ref (sw_ad g 33)), (1, .int a1)] := hl
  unfold wX7_isEntitled at h
  refine lv_aload_n hx hb dX7_isEntitled_0 rfl (lv_at hl 0 rfl) ?_
  refine lv_aload_n hx hb dX7_isEntitled_1 rfl (lv_at hl 0 rfl) ?_
  refine lv_iload_n hx hb dX7_isEntitled_2 rfl (lv_at hl 1 rfl) ?_
  refine sw_ki (rest := [.ref (sw_ad g 33)]) (sw_runV (As := [.int a1]) (rest := [.ref (sw_ad g 33)]) hx hb hml hown hts (kX7_isDoor l g o d a1 M _ h) cv_X7_isDoor q_1015 rfl rfl ⟨(Nat.le_of_ble_eq_true rfl), (Nat.le_of_ble_eq_true rfl)⟩ hW (Nat.le_of_ble_eq_true rfl) sl_33 rfl rfl hl.1 rfl (Nat.le_of_ble_eq_true rfl) dX7_isEntitled_3 ⟨(Nat.le_of_ble_eq_true rfl), (Nat.le_of_ble_eq_true rfl)⟩) hW (fun r1 M8 H locs h hW => ?_)
  obtain ⟨h, eM8⟩ := h
  rw [eM8] at hW
  refine sw_ki (rest := []) (sw_runV (As := [.int r1]) (rest := []) hx hb hml hown hts (kX7_isThere l g o d r1 M _ h) cv_X7_isThere q_1143 rfl rfl ⟨(Nat.le_of_ble_eq_true rfl), (Nat.le_of_ble_eq_true rfl)⟩ hW (Nat.le_of_ble_eq_true rfl) sl_33 rfl rfl hl.1 rfl (Nat.le_of_ble_eq_true rfl) dX7_isEntitled_6 ⟨(Nat.le_of_ble_eq_true rfl), (Nat.le_of_ble_eq_true rfl)⟩) hW (fun r2 M3 H locs h hW => ?_)
  refine lv_if_eq (tgt := 24) hx hb dX7_isEntitled_9 (by decide) (fun k4 => ?_) (fun k4 => ?_)
  · have h := h.1 k4
    refine lv_iconst (v := 0) hx hb dX7_isEntitled_24 (by decide) ?_
    exact sw_ri hx hb hr hlocks hW (by decide) h dX7_isEntitled_25
  · have h := h.2 k4
    refine lv_aload_n hx hb dX7_isEntitled_12 rfl (lv_at hl 0 rfl) ?_
    refine lv_iload_n hx hb dX7_isEntitled_13 rfl (lv_at hl 1 rfl) ?_
    refine sw_ki (rest := []) (sw_runV (As := [.int a1]) (rest := []) hx hb hml hown hts (kX7_entitled l g o d a1 M3 _ h) cv_X7_entitled q_1119 rfl rfl ⟨(Nat.le_of_ble_eq_true rfl), (Nat.le_of_ble_eq_true rfl)⟩ hW (Nat.le_of_ble_eq_true rfl) sl_33 rfl rfl hl.1 rfl (Nat.le_of_ble_eq_true rfl) dX7_isEntitled_14 ⟨(Nat.le_of_ble_eq_true rfl), (Nat.le_of_ble_eq_true rfl)⟩) hW (fun r5 M7 H locs h hW => ?_)
    obtain ⟨h, eM7⟩ := h
    rw [eM7] at hW
    refine lv_if_eq (tgt := 24) hx hb dX7_isEntitled_17 (by decide) (fun k6 => ?_) (fun k6 => ?_)
    · have h := h.1 k6
      refine lv_iconst (v := 0) hx hb dX7_isEntitled_24 (by decide) ?_
      exact sw_ri hx hb hr hlocks hW (by decide) h dX7_isEntitled_25
    · have h := h.2 k6
      refine lv_iconst (v := 1) hx hb dX7_isEntitled_20 (by decide) ?_
      refine lv_goto (tgt := 25) hx hb dX7_isEntitled_21 (by decide) ?_
      exact sw_ri hx hb hr hlocks hW (by decide) h dX7_isEntitled_25

def jX7_doorAtRank_88 (x4_15 : Int32) (x5_36 : Int32) (x6_36 : Int32) (v15 : Int32) (N36 : Int32 → Int32 → Prop) (t0_88 : Int32) : Prop :=
  (0 < v15 → (∀ v18 : Int32, v18 = (x5_36 + (1 : Int32)) → (∀ v19 : Int32, v19 = x6_36 + (1 : Int32) → (N36 v18 v19)))) ∧ (¬ 0 < v15 → ((v15 = 0 → ((0 < t0_88 → (∀ v24 : Int32, v24 = (x5_36 + (1 : Int32)) → (∀ v25 : Int32, v25 = x6_36 + (1 : Int32) → (N36 v24 v25)))) ∧ (¬ 0 < t0_88 → ((t0_88 = 0 → ((x4_15 ≤ x6_36 → (∀ v30 : Int32, v30 = (x5_36 + (0 : Int32)) → (∀ v31 : Int32, v31 = x6_36 + (1 : Int32) → (N36 v30 v31)))) ∧ (¬ x4_15 ≤ x6_36 → (∀ v32 : Int32, v32 = (x5_36 + (1 : Int32)) → (∀ v33 : Int32, v33 = x6_36 + (1 : Int32) → (N36 v32 v33)))))) ∧ (¬ t0_88 = 0 → (∀ v27 : Int32, v27 = (x5_36 + (0 : Int32)) → (∀ v28 : Int32, v28 = x6_36 + (1 : Int32) → (N36 v27 v28)))))))) ∧ (¬ v15 = 0 → (∀ v21 : Int32, v21 = (x5_36 + (0 : Int32)) → (∀ v22 : Int32, v22 = x6_36 + (1 : Int32) → (N36 v21 v22))))))
def lX7_doorAtRank_36 (M3 : sM) (x4_15 : Int32) (K36 : Int32 → Prop) : Nat → Int32 → Int32 → Prop
  | 0, _, _ => False
  | n36 + 1, x5_36, x6_36 => ((M3 34 ((0 : Int32)).toNatClampNeg) ≤ x6_36 → (K36 x5_36)) ∧ (¬ (M3 34 ((0 : Int32)).toNatClampNeg) ≤ x6_36 → (wX7_resultOf x6_36 M3 (fun r13 => wX7_resultOf x4_15 M3 (fun r14 => ∀ v15 : Int32, v15 = (r13 - r14) → (wX7_resultOf x4_15 M3 (fun r16 => (0 ≤ r16 → (wX7_gradesAt x6_36 M3 (fun r35 => wX7_gradesAt x4_15 M3 (fun r36 => jX7_doorAtRank_88 x4_15 x5_36 x6_36 v15 (fun x5_36 x6_36 => lX7_doorAtRank_36 M3 x4_15 K36 n36 x5_36 x6_36) (r35 - r36))))) ∧ (¬ 0 ≤ r16 → (jX7_doorAtRank_88 x4_15 x5_36 x6_36 v15 (fun x5_36 x6_36 => lX7_doorAtRank_36 M3 x4_15 K36 n36 x5_36 x6_36) (0 : Int32)))))))))
def lX7_doorAtRank_15 (a1 : Int32) (r2 : Int32) (M3 : sM) (K15 : Int32 → Prop) : Nat → Int32 → Int32 → Prop
  | 0, _, _ => False
  | n15 + 1, x2_15, x4_15 => ((M3 34 ((0 : Int32)).toNatClampNeg) ≤ x4_15 → (K15 x2_15)) ∧ (¬ (M3 34 ((0 : Int32)).toNatClampNeg) ≤ x4_15 → ((r2 = 0 → (K15 x2_15)) ∧ (¬ r2 = 0 → (∃ n36, lX7_doorAtRank_36 M3 x4_15 (fun x5_36k => (x5_36k = a1 → (∀ v8 : Int32, v8 = x4_15 + (1 : Int32) → ((fun x2_15 x4_15 => lX7_doorAtRank_15 a1 r2 M3 K15 n15 x2_15 x4_15) x4_15 v8))) ∧ (¬ x5_36k = a1 → (∀ v7 : Int32, v7 = x4_15 + (1 : Int32) → ((fun x2_15 x4_15 => lX7_doorAtRank_15 a1 r2 M3 K15 n15 x2_15 x4_15) x2_15 v7)))) n36 (0 : Int32) (0 : Int32)))))
theorem cv_X7_doorAtRank : sw_cV yX7_doorAtRank RX7 cX7_doorAtRank 9 (some .int) 1 := ⟨q_1175, q_1176, q_9, q_1177, by decide +kernel⟩
def wX7_doorAtRank (a1 : Int32) (M : sM) (Q : Int32 → sM → Prop) : Prop :=
  wX7_isDoor a1 M (fun r1 => wX7_isThere r1 M (fun r2 M3 => ∃ n15, lX7_doorAtRank_15 a1 r2 M3 (fun x2_15k => Q x2_15k M3) n15 (0 : Int32) (0 : Int32)))
set_option maxRecDepth 20000 in
theorem kX7_doorAtRank (l : Launch) (g : sG) (o : Nat → Int64) (d : Nat → UInt64) (a1 : Int32) (M : sM) (Q : Int32 → sM → Prop) (h : wX7_doorAtRank a1 M Q) : Met l yX7_doorAtRank (sw_ws yX7_doorAtRank cX7_doorAtRank 9 (some .int)) { frames := 3, cells := 0, slots := 0, locals := 72 } (va_Pc [.ref (sw_ad g 33), .int a1] (sw_Pr g o d M)) (va_Qi Q (sw_Po g o d) (sw_A g)) 0 0 (sw_A g) := by
  refine sw_met (by decide) (Nat.le_of_ble_eq_true rfl) ?_
  intro p e s m args below meth c ls hx hb hr hts hown hml hlocks hW hl
  have hown : s.vm.findClass RX7 = some m.cls := hown
  have hl : lv_has ls 9 [(0, .ref (sw_ad g 33)), (1, .int a1)] := hl
  unfold wX7_doorAtRank at h
  refine lv_iconst (v := 0) hx hb dX7_doorAtRank_0 (by decide) ?_
  refine lv_istore_n (lv' := [(2, .int (0 : Int32)), (0, .ref (sw_ad g 33)), (1, .int a1)]) hx hb dX7_doorAtRank_1 rfl hl (Nat.le_of_ble_eq_true rfl) rfl (fun ls hl => ?_)
  refine lv_aload_n hx hb dX7_doorAtRank_2 rfl (lv_at hl 1 rfl) ?_
  refine lv_aload_n hx hb dX7_doorAtRank_3 rfl (lv_at hl 1 rfl) ?_
  refine lv_iload_n hx hb dX7_doorAtRank_4 rfl (lv_at hl 2 rfl) ?_
  refine sw_ki (rest := [.ref (sw_ad g 33)]) (sw_runV (As := [.int a1]) (rest := [.ref (sw_ad g 33)]) hx hb hml hown hts (kX7_isDoor l g o d a1 M _ h) cv_X7_isDoor q_1015 rfl rfl ⟨(Nat.le_of_ble_eq_true rfl), (Nat.le_of_ble_eq_true rfl)⟩ hW (Nat.le_of_ble_eq_true rfl) sl_33 rfl rfl hl.1 rfl (Nat.le_of_ble_eq_true rfl) dX7_doorAtRank_5 ⟨(Nat.le_of_ble_eq_true rfl), (Nat.le_of_ble_eq_true rfl)⟩) hW (fun r1 M42 H locs h hW => ?_)
  obtain ⟨h, eM42⟩ := h
  rw [eM42] at hW
  refine sw_ki (rest := []) (sw_runV (As := [.int r1]) (rest := []) hx hb hml hown hts (kX7_isThere l g o d r1 M _ h) cv_X7_isThere q_1143 rfl rfl ⟨(Nat.le_of_ble_eq_true rfl), (Nat.le_of_ble_eq_true rfl)⟩ hW (Nat.le_of_ble_eq_true rfl) sl_33 rfl rfl hl.1 rfl (Nat.le_of_ble_eq_true rfl) dX7_doorAtRank_8 ⟨(Nat.le_of_ble_eq_true rfl), (Nat.le_of_ble_eq_true rfl)⟩) hW (fun r2 M3 H locs h hW => ?_)
  refine lv_istore_n (lv' := [(3, .int r2), (2, .int (0 : Int32)), (0, .ref (sw_ad g 33)), (1, .int a1)]) hx hb dX7_doorAtRank_11 rfl hl (Nat.le_of_ble_eq_true rfl) rfl (fun ls hl => ?_)
  refine lv_iconst (v := 0) hx hb dX7_doorAtRank_12 (by decide) ?_
  refine lv_istore (lv' := [(4, .int (0 : Int32)), (3, .int r2), (2, .int (0 : Int32)), (0, .ref (sw_ad g 33)), (1, .int a1)]) hx hb dX7_doorAtRank_13 hl (Nat.le_of_ble_eq_true rfl) rfl (fun ls hl => ?_)
  obtain ⟨n15, h⟩ := h
  refine sw_lp_ii (hd := 15) (Lf := fun x2_15 x4_15 => [(0, .ref (sw_ad g 33)), (1, .int a1), (2, .int x2_15), (3, .int r2), (4, .int x4_15)]) h hW (lv_sub hl [3, 4, 2, 1, 0] rfl) (fun _ _ h => h) (fun n15 ih15 x2_15 x4_15 H locs ls h hW hl => ?_)
  rw [lX7_doorAtRank_15.eq_2] at h
  refine lv_iload hx hb dX7_doorAtRank_15 (lv_at hl 4 rfl) ?_
  refine lv_aload_n hx hb dX7_doorAtRank_17 rfl (lv_at hl 0 rfl) ?_
  refine sw_gr (j := 0) (r := 34) hx hb hts hown hW rfl qf_7 (Nat.le_of_ble_eq_true rfl) sl_33 rfl (Nat.le_of_ble_eq_true rfl) q_944 dX7_doorAtRank_18 ?_
  refine lv_iconst (v := 0) hx hb dX7_doorAtRank_21 (by decide) ?_
  refine sw_ia (n := 228) hx hb hW (Nat.le_of_ble_eq_true rfl) sl_34 (vp_in_iff.mpr (by decide)) dX7_doorAtRank_22 ?_
  refine lv_icmp_ge (tgt := 152) hx hb dX7_doorAtRank_23 (by decide) (fun k4 => ?_) (fun k4 => ?_)
  · have h := h.1 k4
    refine lv_iload_n hx hb dX7_doorAtRank_152 rfl (lv_at hl 2 rfl) ?_
    exact sw_ri hx hb hr hlocks hW rfl h dX7_doorAtRank_153
  · have h := h.2 k4
    refine lv_iload_n hx hb dX7_doorAtRank_26 rfl (lv_at hl 3 rfl) ?_
    refine lv_if_eq (tgt := 152) hx hb dX7_doorAtRank_27 (by decide) (fun k5 => ?_) (fun k5 => ?_)
    · have h := h.1 k5
      refine lv_iload_n hx hb dX7_doorAtRank_152 rfl (lv_at hl 2 rfl) ?_
      exact sw_ri hx hb hr hlocks hW rfl h dX7_doorAtRank_153
    · have h := h.2 k5
      refine lv_iconst (v := 0) hx hb dX7_doorAtRank_30 (by decide) ?_
      refine lv_istore (lv' := [(5, .int (0 : Int32)), (0, .ref (sw_ad g 33)), (1, .int a1), (2, .int x2_15), (3, .int r2), (4, .int x4_15)]) hx hb dX7_doorAtRank_31 hl (Nat.le_of_ble_eq_true rfl) rfl (fun ls hl => ?_)
      refine lv_iconst (v := 0) hx hb dX7_doorAtRank_33 (by decide) ?_
      refine lv_istore (lv' := [(6, .int (0 : Int32)), (5, .int (0 : Int32)), (0, .ref (sw_ad g 33)), (1, .int a1), (2, .int x2_15), (3, .int r2), (4, .int x4_15)]) hx hb dX7_doorAtRank_34 hl (Nat.le_of_ble_eq_true rfl) rfl (fun ls hl => ?_)
      obtain ⟨n36, h⟩ := h
      refine sw_lp_ii (hd := 36) (Lf := fun x5_36 x6_36 => [(0, .ref (sw_ad g 33)), (1, .int a1), (2, .int x2_15), (3, .int r2), (4, .int x4_15), (5, .int x5_36), (6, .int x6_36)]) h hW (lv_sub hl [2, 3, 4, 5, 6, 1, 0] rfl) (fun _ _ h => h) (fun n36 ih36 x5_36 x6_36 H locs ls h hW hl => ?_)
      rw [lX7_doorAtRank_36.eq_2] at h
      refine lv_iload hx hb dX7_doorAtRank_36 (lv_at hl 6 rfl) ?_
      refine lv_aload_n hx hb dX7_doorAtRank_38 rfl (lv_at hl 0 rfl) ?_
      refine sw_gr (j := 0) (r := 34) hx hb hts hown hW rfl qf_7 (Nat.le_of_ble_eq_true rfl) sl_33 rfl (Nat.le_of_ble_eq_true rfl) q_944 dX7_doorAtRank_39 ?_
      refine lv_iconst (v := 0) hx hb dX7_doorAtRank_42 (by decide) ?_
      refine sw_ia (n := 228) hx hb hW (Nat.le_of_ble_eq_true rfl) sl_34 (vp_in_iff.mpr (by decide)) dX7_doorAtRank_43 ?_
      refine lv_icmp_ge (tgt := 133) hx hb dX7_doorAtRank_44 (by decide) (fun k9 => ?_) (fun k9 => ?_)
      · have h := h.1 k9
        refine lv_iload hx hb dX7_doorAtRank_133 (lv_at hl 5 rfl) ?_
        refine lv_iload_n hx hb dX7_doorAtRank_135 rfl (lv_at hl 1 rfl) ?_
        refine lv_icmp_ne (tgt := 144) hx hb dX7_doorAtRank_136 (by decide) (fun k10 => ?_) (fun k10 => ?_)
        · have h := h.2 k10
          refine lv_iload_n hx hb dX7_doorAtRank_144 rfl (lv_at hl 2 rfl) ?_
          refine lv_istore_n (lv' := [(2, .int x2_15), (0, .ref (sw_ad g 33)), (1, .int a1), (3, .int r2), (4, .int x4_15), (5, .int x5_36), (6, .int x6_36)]) hx hb dX7_doorAtRank_145 rfl hl (Nat.le_of_ble_eq_true rfl) rfl (fun ls hl => ?_)
          obtain ⟨v11, ev11⟩ : ∃ z : Int32, z = x4_15 + (1 : Int32) := ⟨_, rfl⟩
          have h := h v11 ev11
          refine lv_iinc (v := v11) (lv' := [(4, .int v11), (2, .int x2_15), (0, .ref (sw_ad g 33)), (1, .int a1), (3, .int r2), (5, .int x5_36), (6, .int x6_36)]) hx hb dX7_doorAtRank_146 hl (k := 4) rfl (by rw [ev11]; rfl) (Nat.le_of_ble_eq_true rfl) rfl (fun ls hl => ?_)
          refine lv_goto (tgt := 15) hx hb dX7_doorAtRank_149 (by decide) ?_
          exact ih15 _ _ _ _ _ h hW (lv_sub hl [2, 3, 1, 4, 0] rfl)
        · have h := h.1 k10
          refine lv_iload hx hb dX7_doorAtRank_139 (lv_at hl 4 rfl) ?_
          refine lv_goto (tgt := 145) hx hb dX7_doorAtRank_141 (by decide) ?_
          refine lv_istore_n (lv' := [(2, .int x4_15), (0, .ref (sw_ad g 33)), (1, .int a1), (3, .int r2), (4, .int x4_15), (5, .int x5_36), (6, .int x6_36)]) hx hb dX7_doorAtRank_145 rfl hl (Nat.le_of_ble_eq_true rfl) rfl (fun ls hl => ?_)
          obtain ⟨v12, ev12⟩ : ∃ z : Int32, z = x4_15 + (1 : Int32) := ⟨_, rfl⟩
          have h := h v12 ev12
          refine lv_iinc (v := v12) (lv' := [(4, .int v12), (2, .int x4_15), (0, .ref (sw_ad g 33)), (1, .int a1), (3, .int r2), (5, .int x5_36), (6, .int x6_36)]) hx hb dX7_doorAtRank_146 hl (k := 4) rfl (by rw [ev12]; rfl) (Nat.le_of_ble_eq_true rfl) rfl (fun ls hl => ?_)
          refine lv_goto (tgt := 15) hx hb dX7_doorAtRank_149 (by decide) ?_
          exact ih15 _ _ _ _ _ h hW (lv_sub hl [2, 3, 1, 4, 0] rfl)
      · have h := h.2 k9
        refine lv_aload_n hx hb dX7_doorAtRank_47 rfl (lv_at hl 0 rfl) ?_
        refine lv_iload hx hb dX7_doorAtRank_48 (lv_at hl 6 rfl) ?_
        refine sw_ki (rest := []) (sw_runV (As := [.int x6_36]) (rest := []) hx hb hml hown hts (kX7_resultOf l g o d x6_36 M3 _ h) cv_X7_resultOf q_1098 rfl rfl ⟨(Nat.le_of_ble_eq_true rfl), (Nat.le_of_ble_eq_true rfl)⟩ hW (Nat.le_of_ble_eq_true rfl) sl_33 rfl rfl hl.1 rfl (Nat.le_of_ble_eq_true rfl) dX7_doorAtRank_50 ⟨(Nat.le_of_ble_eq_true rfl), (Nat.le_of_ble_eq_true rfl)⟩) hW (fun r13 M41 H locs h hW => ?_)
        obtain ⟨h, eM41⟩ := h
        rw [eM41] at hW
        refine lv_aload_n hx hb dX7_doorAtRank_53 rfl (lv_at hl 0 rfl) ?_
        refine lv_iload hx hb dX7_doorAtRank_54 (lv_at hl 4 rfl) ?_
        refine sw_ki (rest := [.int r13]) (sw_runV (As := [.int x4_15]) (rest := [.int r13]) hx hb hml hown hts (kX7_resultOf l g o d x4_15 M3 _ h) cv_X7_resultOf q_1098 rfl rfl ⟨(Nat.le_of_ble_eq_true rfl), (Nat.le_of_ble_eq_true rfl)⟩ hW (Nat.le_of_ble_eq_true rfl) sl_33 rfl rfl hl.1 rfl (Nat.le_of_ble_eq_true rfl) dX7_doorAtRank_56 ⟨(Nat.le_of_ble_eq_true rfl), (Nat.le_of_ble_eq_true rfl)⟩) hW (fun r14 M40 H locs h hW => ?_)
        obtain ⟨h, eM40⟩ := h
        rw [eM40] at hW
        refine lv_isub hx hb dX7_doorAtRank_59 ?_
        refine lv_topi (fun v15 ev15 => ?_)
        have h := h v15 ev15
        refine lv_istore (lv' := [(7, .int v15), (0, .ref (sw_ad g 33)), (1, .int a1), (2, .int x2_15), (3, .int r2), (4, .int x4_15), (5, .int x5_36), (6, .int x6_36)]) hx hb dX7_doorAtRank_60 hl (Nat.le_of_ble_eq_true rfl) rfl (fun ls hl => ?_)
        refine lv_aload_n hx hb dX7_doorAtRank_62 rfl (lv_at hl 1 rfl) ?_
        refine lv_iload hx hb dX7_doorAtRank_63 (lv_at hl 5 rfl) ?_
        refine sw_ki (rest := []) (sw_runV (As := [.int x4_15]) (rest := []) hx hb hml hown hts (kX7_resultOf l g o d x4_15 M3 _ h) cv_X7_resultOf q_1098 rfl rfl ⟨(Nat.le_of_ble_eq_true rfl), (Nat.le_of_ble_eq_true rfl)⟩ hW (Nat.le_of_ble_eq_true rfl) sl_33 rfl rfl hl.1 rfl (Nat.le_of_ble_eq_true rfl) dX7_doorAtRank_65 ⟨(Nat.le_of_ble_eq_true rfl), (Nat.le_of_ble_eq_true rfl)⟩) hW (fun r16 M39 H locs h hW => ?_)
        obtain ⟨h, eM39⟩ := h
        rw [eM39] at hW
        refine sw_jn_i (g := g) (o := o) (d := d) (nL := 9) (M := M3) (jp := 88) (J := fun t0_88 => jX7_doorAtRank_88 x4_15 x5_36 x6_36 v15 (fun x5_36 x6_36 => lX7_doorAtRank_36 M3 x4_15 (fun x5_36k => (x5_36k = a1 → (∀ v8 : Int32, v8 = x4_15 + (1 : Int32) → ((fun x2_15 x4_15 => lX7_doorAtRank_15 a1 r2 M3 (fun x2_15k => Q x2_15k M3) n15 x2_15 x4_15) x4_15 v8))) ∧ (¬ x5_36k = a1 → (∀ v7 : Int32, v7 = x4_15 + (1 : Int32) → ((fun x2_15 x4_15 => lX7_doorAtRank_15 a1 r2 M3 (fun x2_15k => Q x2_15k M3) n15 x2_15 x4_15) x2_15 v7)))) n36 x5_36 x6_36) t0_88) (Lf := fun t0_88 => [(0, .ref (sw_ad g 33)), (1, .int a1), (2, .int x2_15), (3, .int r2), (4, .int x4_15), (5, .int x5_36), (6, .int x6_36), (7, .int v15)]) (Sf := fun t0_88 => [.int t0_88]) (fun t0_88 H locs ls h hW hl => ?_) (fun hJ88 => ?_)
        · unfold jX7_doorAtRank_88 at h
          refine lv_istore (lv' := [(8, .int t0_88), (0, .ref (sw_ad g 33)), (1, .int a1), (2, .int x2_15), (3, .int r2), (4, .int x4_15), (5, .int x5_36), (6, .int x6_36), (7, .int v15)]) hx hb dX7_doorAtRank_88 hl (Nat.le_of_ble_eq_true rfl) rfl (fun ls hl => ?_)
          refine lv_iload hx hb dX7_doorAtRank_90 (lv_at hl 6 rfl) ?_
          refine lv_iload hx hb dX7_doorAtRank_92 (lv_at hl 8 rfl) ?_
          refine lv_if_gt (tgt := 119) hx hb dX7_doorAtRank_94 (by decide) (fun k17 => ?_) (fun k17 => ?_)
          · have h := h.1 k17
            refine lv_iconst (v := 1) hx hb dX7_doorAtRank_119 (by decide) ?_
            refine lv_goto (tgt := 124) hx hb dX7_doorAtRank_120 (by decide) ?_
            refine lv_iadd hx hb dX7_doorAtRank_124 ?_
            refine lv_topi (fun v18 ev18 => ?_)
            have h := h v18 ev18
            refine lv_istore (lv' := [(5, .int v18), (8, .int t0_88), (0, .ref (sw_ad g 33)), (1, .int a1), (2, .int x2_15), (3, .int r2), (4, .int x4_15), (6, .int x6_36), (7, .int v15)]) hx hb dX7_doorAtRank_125 hl (Nat.le_of_ble_eq_true rfl) rfl (fun ls hl => ?_)
            obtain ⟨v19, ev19⟩ : ∃ z : Int32, z = x6_36 + (1 : Int32) := ⟨_, rfl⟩
            have h := h v19 ev19
            refine lv_iinc (v := v19) (lv' := [(6, .int v19), (5, .int v18), (8, .int t0_88), (0, .ref (sw_ad g 33)), (1, .int a1), (2, .int x2_15), (3, .int r2), (4, .int x4_15), (7, .int v15)]) hx hb dX7_doorAtRank_127 hl (k := 7) rfl (by rw [ev19]; rfl) (Nat.le_of_ble_eq_true rfl) rfl (fun ls hl => ?_)
            refine lv_goto (tgt := 36) hx hb dX7_doorAtRank_130 (by decide) ?_
            exact ih36 _ _ _ _ _ h hW (lv_sub hl [3, 4, 5, 6, 7, 1, 0] rfl)
          · have h := h.2 k17
            refine lv_iload hx hb dX7_doorAtRank_97 (lv_at hl 8 rfl) ?_
            refine lv_if_ne (tgt := 123) hx hb dX7_doorAtRank_99 (by decide) (fun k20 => ?_) (fun k20 => ?_)
            · have h := h.2 k20
              refine lv_iconst (v := 0) hx hb dX7_doorAtRank_123 (by decide) ?_
              refine lv_iadd hx hb dX7_doorAtRank_124 ?_
              refine lv_topi (fun v21 ev21 => ?_)
              have h := h v21 ev21
              refine lv_istore (lv' := [(5, .int v21), (8, .int t0_88), (0, .ref (sw_ad g 33)), (1, .int a1), (2, .int x2_15), (3, .int r2), (4, .int x4_15), (6, .int x6_36), (7, .int v15)]) hx hb dX7_doorAtRank_125 hl (Nat.le_of_ble_eq_true rfl) rfl (fun ls hl => ?_)
              obtain ⟨v22, ev22⟩ : ∃ z : Int32, z = x6_36 + (1 : Int32) := ⟨_, rfl⟩
              have h := h v22 ev22
              refine lv_iinc (v := v22) (lv' := [(6, .int v22), (5, .int v21), (8, .int t0_88), (0, .ref (sw_ad g 33)), (1, .int a1), (2, .int x2_15), (3, .int r2), (4, .int x4_15), (7, .int v15)]) hx hb dX7_doorAtRank_127 hl (k := 7) rfl (by rw [ev22]; rfl) (Nat.le_of_ble_eq_true rfl) rfl (fun ls hl => ?_)
              refine lv_goto (tgt := 36) hx hb dX7_doorAtRank_130 (by decide) ?_
              exact ih36 _ _ _ _ _ h hW (lv_sub hl [3, 4, 5, 6, 7, 1, 0] rfl)
            · have h := h.1 k20
              refine lv_iload hx hb dX7_doorAtRank_102 (lv_at hl 0 rfl) ?_
              refine lv_if_gt (tgt := 119) hx hb dX7_doorAtRank_104 (by decide) (fun k23 => ?_) (fun k23 => ?_)
              · have h := h.1 k23
                refine lv_iconst (v := 1) hx hb dX7_doorAtRank_119 (by decide) ?_
                refine lv_goto (tgt := 124) hx hb dX7_doorAtRank_120 (by decide) ?_
                refine lv_iadd hx hb dX7_doorAtRank_124 ?_
                refine lv_topi (fun v24 ev24 => ?_)
                have h := h v24 ev24
                refine lv_istore (lv' := [(5, .int v24), (8, .int t0_88), (0, .ref (sw_ad g 33)), (1, .int a1), (2, .int x2_15), (3, .int r2), (4, .int x4_15), (6, .int x6_36), (7, .int v15)]) hx hb dX7_doorAtRank_125 hl (Nat.le_of_ble_eq_true rfl) rfl (fun ls hl => ?_)
                obtain ⟨v25, ev25⟩ : ∃ z : Int32, z = x6_36 + (1 : Int32) := ⟨_, rfl⟩
                have h := h v25 ev25
                refine lv_iinc (v := v25) (lv' := [(6, .int v25), (5, .int v24), (8, .int t0_88), (0, .ref (sw_ad g 33)), (1, .int a1), (2, .int x2_15), (3, .int r2), (4, .int x4_15), (7, .int v15)]) hx hb dX7_doorAtRank_127 hl (k := 7) rfl (by rw [ev25]; rfl) (Nat.le_of_ble_eq_true rfl) rfl (fun ls hl => ?_)
                refine lv_goto (tgt := 36) hx hb dX7_doorAtRank_130 (by decide) ?_
                exact ih36 _ _ _ _ _ h hW (lv_sub hl [3, 4, 5, 6, 7, 1, 0] rfl)
              · have h := h.2 k23
                refine lv_iload hx hb dX7_doorAtRank_107 (lv_at hl 0 rfl) ?_
                refine lv_if_ne (tgt := 123) hx hb dX7_doorAtRank_109 (by decide) (fun k26 => ?_) (fun k26 => ?_)
                · have h := h.2 k26
                  refine lv_iconst (v := 0) hx hb dX7_doorAtRank_123 (by decide) ?_
                  refine lv_iadd hx hb dX7_doorAtRank_124 ?_
                  refine lv_topi (fun v27 ev27 => ?_)
                  have h := h v27 ev27
                  refine lv_istore (lv' := [(5, .int v27), (8, .int t0_88), (0, .ref (sw_ad g 33)), (1, .int a1), (2, .int x2_15), (3, .int r2), (4, .int x4_15), (6, .int x6_36), (7, .int v15)]) hx hb dX7_doorAtRank_125 hl (Nat.le_of_ble_eq_true rfl) rfl (fun ls hl => ?_)
                  obtain ⟨v28, ev28⟩ : ∃ z : Int32, z = x6_36 + (1 : Int32) := ⟨_, rfl⟩
                  have h := h v28 ev28
                  refine lv_iinc (v := v28) (lv' := [(6, .int v28), (5, .int v27), (8, .int t0_88), (0, .ref (sw_ad g 33)), (1, .int a1), (2, .int x2_15), (3, .int r2), (4, .int x4_15), (7, .int v15)]) hx hb dX7_doorAtRank_127 hl (k := 7) rfl (by rw [ev28]; rfl) (Nat.le_of_ble_eq_true rfl) rfl (fun ls hl => ?_)
                  refine lv_goto (tgt := 36) hx hb dX7_doorAtRank_130 (by decide) ?_
                  exact ih36 _ _ _ _ _ h hW (lv_sub hl [3, 4, 5, 6, 7, 1, 0] rfl)
                · have h := h.1 k26
                  refine lv_iload hx hb dX7_doorAtRank_112 (lv_at hl 7 rfl) ?_
                  refine lv_iload hx hb dX7_doorAtRank_114 (lv_at hl 5 rfl) ?_
                  refine lv_icmp_ge (tgt := 123) hx hb dX7_doorAtRank_116 (by decide) (fun k29 => ?_) (fun k29 => ?_)
                  · have h := h.1 k29
                    refine lv_iconst (v := 0) hx hb dX7_doorAtRank_123 (by decide) ?_
                    refine lv_iadd hx hb dX7_doorAtRank_124 ?_
                    refine lv_topi (fun v30 ev30 => ?_)
                    have h := h v30 ev30
                    refine lv_istore (lv' := [(5, .int v30), (8, .int t0_88), (0, .ref (sw_ad g 33)), (1, .int a1), (2, .int x2_15), (3, .int r2), (4, .int x4_15), (6, .int x6_36), (7, .int v15)]) hx hb dX7_doorAtRank_125 hl (Nat.le_of_ble_eq_true rfl) rfl (fun ls hl => ?_)
                    obtain ⟨v31, ev31⟩ : ∃ z : Int32, z = x6_36 + (1 : Int32) := ⟨_, rfl⟩
                    have h := h v31 ev31
                    refine lv_iinc (v := v31) (lv' := [(6, .int v31), (5, .int v30), (8, .int t0_88), (0, .ref (sw_ad g 33)), (1, .int a1), (2, .int x2_15), (3, .int r2), (4, .int x4_15), (7, .int v15)]) hx hb dX7_doorAtRank_127 hl (k := 7) rfl (by rw [ev31]; rfl) (Nat.le_of_ble_eq_true rfl) rfl (fun ls hl => ?_)
                    refine lv_goto (tgt := 36) hx hb dX7_doorAtRank_130 (by decide) ?_
                    exact ih36 _ _ _ _ _ h hW (lv_sub hl [3, 4, 5, 6, 7, 1, 0] rfl)
                  · have h := h.2 k29
                    refine lv_iconst (v := 1) hx hb dX7_doorAtRank_119 (by decide) ?_
                    refine lv_goto (tgt := 124) hx hb dX7_doorAtRank_120 (by decide) ?_
                    refine lv_iadd hx hb dX7_doorAtRank_124 ?_
                    refine lv_topi (fun v32 ev32 => ?_)
                    have h := h v32 ev32
                    refine lv_istore (lv' := [(5, .int v32), (8, .int t0_88), (0, .ref (sw_ad g 33)), (1, .int a1), (2, .int x2_15), (3, .int r2), (4, .int x4_15), (6, .int x6_36), (7, .int v15)]) hx hb dX7_doorAtRank_125 hl (Nat.le_of_ble_eq_true rfl) rfl (fun ls hl => ?_)
                    obtain ⟨v33, ev33⟩ : ∃ z : Int32, z = x6_36 + (1 : Int32) := ⟨_, rfl⟩
                    have h := h v33 ev33
                    refine lv_iinc (v := v33) (lv' := [(6, .int v33), (5, .int v32), (8, .int t0_88), (0, .ref (sw_ad g 33)), (1, .int a1), (2, .int x2_15), (3, .int r2), (4, .int x4_15), (7, .int v15)]) hx hb dX7_doorAtRank_127 hl (k := 7) rfl (by rw [ev33]; rfl) (Nat.le_of_ble_eq_true rfl) rfl (fun ls hl => ?_)
                    refine lv_goto (tgt := 36) hx hb dX7_doorAtRank_130 (by decide) ?_
                    exact ih36 _ _ _ _ _ h hW (lv_sub hl [3, 4, 5, 6, 7, 1, 0] rfl)
        · refine lv_if_ge (tgt := 75) hx hb dX7_doorAtRank_68 (by decide) (fun k34 => ?_) (fun k34 => ?_)
          · have h := h.1 k34
            refine lv_aload_n hx hb dX7_doorAtRank_75 rfl (lv_at hl 1 rfl) ?_
            refine lv_iload hx hb dX7_doorAtRank_76 (lv_at hl 7 rfl) ?_
            refine sw_ki (rest := []) (sw_runV (As := [.int x6_36]) (rest := []) hx hb hml hown hts (kX7_gradesAt l g o d x6_36 M3 _ h) cv_X7_gradesAt q_1081 rfl rfl ⟨(Nat.le_of_ble_eq_true rfl), (Nat.le_of_ble_eq_true rfl)⟩ hW (Nat.le_of_ble_eq_true rfl) sl_33 rfl rfl hl.1 rfl (Nat.le_of_ble_eq_true rfl) dX7_doorAtRank_78 ⟨(Nat.le_of_ble_eq_true rfl), (Nat.le_of_ble_eq_true rfl)⟩) hW (fun r35 M38 H locs h hW => ?_)
            obtain ⟨h, eM38⟩ := h
            rw [eM38] at hW
            refine lv_aload_n hx hb dX7_doorAtRank_81 rfl (lv_at hl 1 rfl) ?_
            refine lv_iload hx hb dX7_doorAtRank_82 (lv_at hl 5 rfl) ?_
            refine sw_ki (rest := [.int r35]) (sw_runV (As := [.int x4_15]) (rest := [.int r35]) hx hb hml hown hts (kX7_gradesAt l g o d x4_15 M3 _ h) cv_X7_gradesAt q_1081 rfl rfl ⟨(Nat.le_of_ble_eq_true rfl), (Nat.le_of_ble_eq_true rfl)⟩ hW (Nat.le_of_ble_eq_true rfl) sl_33 rfl rfl hl.1 rfl (Nat.le_of_ble_eq_true rfl) dX7_doorAtRank_84 ⟨(Nat.le_of_ble_eq_true rfl), (Nat.le_of_ble_eq_true rfl)⟩) hW (fun r36 M37 H locs h hW => ?_)
            obtain ⟨h, eM37⟩ := h
            rw [eM37] at hW
            refine lv_isub hx hb dX7_doorAtRank_87 ?_
            exact hJ88 _ _ _ _ h hW (lv_sub hl [1, 2, 3, 4, 5, 6, 7, 0] rfl)
          · have h := h.2 k34
            refine lv_iconst (v := 0) hx hb dX7_doorAtRank_71 (by decide) ?_
            refine lv_goto (tgt := 88) hx hb dX7_doorAtRank_72 (by decide) ?_
            exact hJ88 _ _ _ _ h hW (lv_sub hl [1, 2, 3, 4, 5, 6, 7, 0] rfl)

theorem cv_X7_examinerCount : sw_cV yX7_examinerCount RX7 cX7_examinerCount 1 (some .int) 0 := ⟨q_1179, q_1180, q_9, q_1181, by decide +kernel⟩
def wX7_examinerCount  (M : sM) (Q : Int32 → sM → Prop) : Prop :=
  ∀ M1 : sM, M1 = sw_ms M 33 6 (0 : Int32) → (Q (M1 34 ((1 : Int32)).toNatClampNeg) M1)
set_option maxRecDepth 20000 in
theorem kX7_examinerCount (l : Launch) (g : sG) (o : Nat → Int64) (d : Nat → UInt64)  (M : sM) (Q : Int32 → sM → Prop) (h : wX7_examinerCount  M Q) : Met l yX7_examinerCount (sw_ws yX7_examinerCount cX7_examinerCount 1 (some .int)) { frames := 0, cells := 0, slots := 0, locals := 0 } (va_Pc [.ref (sw_ad g 33)] (sw_Pr g o d M)) (va_Qi Q (sw_Po g o d) (sw_A g)) 0 0 (sw_A g) := by
  refine sw_met (by decide) (Nat.le_of_ble_eq_true rfl) ?_
  intro p e s m args below meth c ls hx hb hr hts hown hml hlocks hW hl
  have hown : s.vm.findClass RX7 = some m.cls := hown
  have hl : lv_has ls 1 [(0, .ref (sw_ad g 33))] := hl
  unfold wX7_examinerCount at h
  refine lv_aload_n hx hb dX7_examinerCount_0 rfl (lv_at hl 0 rfl) ?_
  refine lv_iconst (v := 0) hx hb dX7_examinerCount_1 (by decide) ?_
  refine sw_pi (j := 6) hx hb hts hown hW rfl qf_7 tyX7 tyX7_ok nmX7 (Nat.le_of_ble_eq_true rfl) sl_33 rfl (Nat.le_of_ble_eq_true rfl) q_950 rfl rfl rfl dX7_examinerCount_2 (fun H locs hW => ?_)
  obtain ⟨M1, eM1⟩ : ∃ z : sM, z = sw_ms M 33 6 (0 : Int32) := ⟨_, rfl⟩
  rw [← eM1] at hW
  have h := h M1 eM1
  refine lv_aload_n hx hb dX7_examinerCount_5 rfl (lv_at hl 0 rfl) ?_
  refine sw_gr (j := 0) (r := 34) hx hb hts hown hW rfl qf_7 (Nat.le_of_ble_eq_true rfl) sl_33 rfl (Nat.le_of_ble_eq_true rfl) q_944 dX7_examinerCount_6 ?_
  refine lv_iconst (v := 1) hx hb dX7_examinerCount_9 (by decide) ?_
  refine sw_ia (n := 228) hx hb hW (Nat.le_of_ble_eq_true rfl) sl_34 (vp_in_iff.mpr (by decide)) dX7_examinerCount_10 ?_
  exact sw_ri hx hb hr hlocks hW rfl h dX7_examinerCount_11

theorem cv_X7_frameOfExaminer : sw_cV yX7_frameOfExaminer RX7 cX7_frameOfExaminer 2 (some .char) 1 := ⟨q_1183, q_1184, q_9, q_1185, by decide +kernel⟩
def wX7_frameOfExaminer (a1 : Int32) (M : sM) (Q : Int32 → sM → Prop) : Prop :=
  wX7_isExaminer a1 M (fun r1 => wX7_isThere r1 M (fun r2 M3 => (r2 = 0 → (narrow .char (.int (32 : Int32)) = .int (32 : Int32) ∧ (Q (32 : Int32) M3))) ∧ (¬ r2 = 0 → (wX7_examiner a1 (0 : Int32) M3 (fun r5 => ∀ v6 : Int32, v6 = ((r5).toUInt32 % 65536).toInt32 → (narrow .char (.int v6) = .int v6 ∧ (Q v6 M3)))))))
set_option maxRecDepth 20000 in
theorem kX7_frameOfExaminer (l : Launch) (g : sG) (o : Nat → Int64) (d : Nat → UInt64) (a1 : Int32) (M : sM) (Q : Int32 → sM → Prop) (h : wX7_frameOfExaminer a1 M Q) : Met l yX7_frameOfExaminer (sw_ws yX7_frameOfExaminer cX7_frameOfExaminer 2 (some .char)) { frames := 2, cells := 0, slots := 0, locals := 43 } (va_Pc [.ref (sw_ad g 33), .int a1] (sw_Pr g o d M)) (va_Qi Q (sw_Po g o d) (sw_A g)) 0 0 (sw_A g) := by
  refine sw_met (by decide) (Nat.le_of_ble_eq_true rfl) ?_
  intro p e s m args below meth c ls hx hb hr hts hown hml hlocks hW hl
  have hown : s.vm.findClass RX7 = some m.cls := hown
  have hl : lv_has ls 2 [(0, .ref (sw_ad g 33)), (1, .int a1)] := hl
  unfold wX7_frameOfExaminer at h
  refine lv_aload_n hx hb dX7_frameOfExaminer_0 rfl (lv_at hl 0 rfl) ?_
  refine lv_aload_n hx hb dX7_frameOfExaminer_1 rfl (lv_at hl 0 rfl) ?_
  refine lv_iload_n hx hb dX7_frameOfExaminer_2 rfl (lv_at hl 1 rfl) ?_
  refine sw_ki (rest := [.ref (sw_ad g 33)]) (sw_runV (As := [.int a1]) (rest := [.ref (sw_ad g 33)]) hx hb hml hown hts (kX7_isExaminer l g o d a1 M _ h) cv_X7_isExaminer q_1012 rfl rfl ⟨(Nat.le_of_ble_eq_true rfl), (Nat.le_of_ble_eq_true rfl)⟩ hW (Nat.le_of_ble_eq_true rfl) sl_33 rfl rfl hl.1 rfl (Nat.le_of_ble_eq_true rfl) dX7_frameOfExaminer_3 ⟨(Nat.le_of_ble_eq_true rfl), (Nat.le_of_ble_eq_true rfl)⟩) hW (fun r1 M8 H locs h hW => ?_)
  obtain ⟨h, eM8⟩ := h
  rw [eM8] at hW
  refine sw_ki (rest := []) (sw_runV (As := [.int r1]) (rest := []) hx hb hml hown hts (kX7_isThere l g o d r1 M _ h) cv_X7_isThere q_1143 rfl rfl ⟨(Nat.le_of_ble_eq_true rfl), (Nat.le_of_ble_eq_true rfl)⟩ hW (Nat.le_of_ble_eq_true rfl) sl_33 rfl rfl hl.1 rfl (Nat.le_of_ble_eq_true rfl) dX7_frameOfExaminer_6 ⟨(Nat.le_of_ble_eq_true rfl), (Nat.le_of_ble_eq_true rfl)⟩) hW (fun r2 M3 H locs h hW => ?_)
  refine lv_if_eq (tgt := 22) hx hb dX7_frameOfExaminer_9 (by decide) (fun k4 => ?_) (fun k4 => ?_)
  · have h := h.1 k4
    refine lv_bipush (v := 32) hx hb dX7_frameOfExaminer_22 (by decide) ?_
    exact sw_ri hx hb hr hlocks hW h.1 h.2 dX7_frameOfExaminer_24
  · have h := h.2 k4
    refine lv_aload_n hx hb dX7_frameOfExaminer_12 rfl (lv_at hl 0 rfl) ?_
    refine lv_iload_n hx hb dX7_frameOfExaminer_13 rfl (lv_at hl 1 rfl) ?_
    refine lv_iconst (v := 0) hx hb dX7_frameOfExaminer_14 (by decide) ?_
    refine sw_ki (rest := []) (sw_runV (As := [.int a1, .int (0 : Int32)]) (rest := []) hx hb hml hown hts (kX7_examiner l g o d a1 (0 : Int32) M3 _ h) cv_X7_examiner q_1030 rfl rfl ⟨(Nat.le_of_ble_eq_true rfl), (Nat.le_of_ble_eq_true rfl)⟩ hW (Nat.le_of_ble_eq_true rfl) sl_33 rfl rfl hl.1 rfl (Nat.le_of_ble_eq_true rfl) dX7_frameOfExaminer_15 ⟨(Nat.le_of_ble_eq_true rfl), (Nat.le_of_ble_eq_true rfl)⟩) hW (fun r5 M7 H locs h hW => ?_)
    obtain ⟨h, eM7⟩ := h
    rw [eM7] at hW
    refine lv_i2c hx hb dX7_frameOfExaminer_18 rfl ?_
    refine lv_topi (fun v6 ev6 => ?_)
    have h := h v6 ev6
    refine lv_goto (tgt := 24) hx hb dX7_frameOfExaminer_19 (by decide) ?_
    exact sw_ri hx hb hr hlocks hW h.1 h.2 dX7_frameOfExaminer_24

theorem cv_X7_load : sw_cV yX7_load RX7 cX7_load 2 (some .int) 1 := ⟨q_1187, q_1188, q_9, q_1189, by decide +kernel⟩
def wX7_load (a1 : Int32) (M : sM) (Q : Int32 → sM → Prop) : Prop :=
  wX7_isExaminer a1 M (fun r1 => wX7_isThere r1 M (fun r2 M3 => (r2 = 0 → (Q (0 : Int32) M3)) ∧ (¬ r2 = 0 → (wX7_loadOf a1 M3 (fun r5 => Q r5 M3)))))
set_option maxRecDepth 20000 in
theorem kX7_load (l : Launch) (g : sG) (o : Nat → Int64) (d : Nat → UInt64) (a1 : Int32) (M : sM) (Q : Int32 → sM → Prop) (h : wX7_load a1 M Q) : Met l yX7_load (sw_ws yX7_load cX7_load 2 (some .int)) { frames := 2, cells := 0, slots := 0, locals := 46 } (va_Pc [.ref (sw_ad g 33), .int a1] (sw_Pr g o d M)) (va_Qi Q (sw_Po g o d) (sw_A g)) 0 0 (sw_A g) := by
  refine sw_met (by decide) (Nat.le_of_ble_eq_true rfl) ?_
  intro p e s m args below meth c ls hx hb hr hts hown hml hlocks hW hl
  have hown : s.vm.findClass RX7 = some m.cls := hown
  have hl : lv_has ls 2 [(0, .ref (sw_ad g 33)), (1, .int a1)] := hl
  unfold wX7_load at h
  refine lv_aload_n hx hb dX7_load_0 rfl (lv_at hl 0 rfl) ?_
  refine lv_aload_n hx hb dX7_load_1 rfl (lv_at hl 0 rfl) ?_
  refine lv_iload_n hx hb dX7_load_2 rfl (lv_at hl 1 rfl) ?_
  refine sw_ki (rest := [.ref (sw_ad g 33)]) (sw_runV (As := [.int a1]) (rest := [.ref (sw_ad g 33)]) hx hb hml hown hts (kX7_isExaminer l g o d a1 M _ h) cv_X7_isExaminer q_1012 rfl rfl ⟨(Nat.le_of_ble_eq_true rfl), (Nat.le_of_ble_eq_true rfl)⟩ hW (Nat.le_of_ble_eq_true rfl) sl_33 rfl rfl hl.1 rfl (Nat.le_of_ble_eq_true rfl) dX7_load_3 ⟨(Nat.le_of_ble_eq_true rfl), (Nat.le_of_ble_eq_true rfl)⟩) hW (fun r1 M7 H locs h hW => ?_)
  obtain ⟨h, eM7⟩ := h
  rw [eM7] at hW
  refine sw_ki (rest := []) (sw_runV (As := [.int r1]) (rest := []) hx hb hml hown hts (kX7_isThere l g o d r1 M _ h) cv_X7_isThere q_1143 rfl rfl ⟨(Nat.le_of_ble_eq_true rfl), (Nat.le_of_ble_eq_true rfl)⟩ hW (Nat.le_of_ble_eq_true rfl) sl_33 rfl rfl hl.1 rfl (Nat.le_of_ble_eq_true rfl) dX7_load_6 ⟨(Nat.le_of_ble_eq_true rfl), (Nat.le_of_ble_eq_true rfl)⟩) hW (fun r2 M3 H locs h hW => ?_)
  refine lv_if_eq (tgt := 20) hx hb dX7_load_9 (by decide) (fun k4 => ?_) (fun k4 => ?_)
  · have h := h.1 k4
    refine lv_iconst (v := 0) hx hb dX7_load_20 (by decide) ?_
    exact sw_ri hx hb hr hlocks hW rfl h dX7_load_21
  · have h := h.2 k4
    refine lv_aload_n hx hb dX7_load_12 rfl (lv_at hl 0 rfl) ?_
    refine lv_iload_n hx hb dX7_load_13 rfl (lv_at hl 1 rfl) ?_
    refine sw_ki (rest := []) (sw_runV (As := [.int a1]) (rest := []) hx hb hml hown hts (kX7_loadOf l g o d a1 M3 _ h) cv_X7_loadOf q_1046 rfl rfl ⟨(Nat.le_of_ble_eq_true rfl), (Nat.le_of_ble_eq_true rfl)⟩ hW (Nat.le_of_ble_eq_true rfl) sl_33 rfl rfl hl.1 rfl (Nat.le_of_ble_eq_true rfl) dX7_load_14 ⟨(Nat.le_of_ble_eq_true rfl), (Nat.le_of_ble_eq_true rfl)⟩) hW (fun r5 M6 H locs h hW => ?_)
    obtain ⟨h, eM6⟩ := h
    rw [eM6] at hW
    refine lv_goto (tgt := 21) hx hb dX7_load_17 (by decide) ?_
    exact sw_ri hx hb hr hlocks hW rfl h dX7_load_21

theorem cv_X7_isNeutral : sw_cV yX7_isNeutral RX7 cX7_isNeutral 3 (some .boolean) 2 := ⟨q_1191, q_1192, q_9, q_1193, by decide +kernel⟩
def wX7_isNeutral (a1 : Int32) (a2 : Int32) (M : sM) (Q : Int32 → sM → Prop) : Prop :=
  wX7_arePair a1 a2 M (fun r1 => wX7_isThere r1 M (fun r2 M3 => (r2 = 0 → (Q (0 : Int32) M3)) ∧ (¬ r2 = 0 → (wX7_neutral a1 a2 M3 (fun r5 => (r5 = 0 → (Q (0 : Int32) M3)) ∧ (¬ r5 = 0 → (Q (1 : Int32) M3)))))))
set_option maxRecDepth 20000 in
theorem kX7_isNeutral (l : Launch) (g : sG) (o : Nat → Int64) (d : Nat → UInt64) (a1 : Int32) (a2 : Int32) (M : sM) (Q : Int32 → sM → Prop) (h : wX7_isNeutral a1 a2 M Q) : Met l yX7_isNeutral (sw_ws yX7_isNeutral cX7_isNeutral 3 (some .boolean)) { frames := 3, cells := 0, slots := 0, locals := 65 } (va_Pc [.ref (sw_ad g 33), .int a1, .int a2] (sw_Pr g o d M)) (va_Qi Q (sw_Po g o d) (sw_A g)) 0 0 (sw_A g) := by
  refine sw_met (by decide) (Nat.le_of_ble_eq_true rfl) ?_
  intro p e s m args below meth c ls hx hb hr hts hown hml hlocks hW hl
  have hown : s.vm.findClass RX7 = some m.cls := hown
  have hl : lv_has ls 3 [(0, .ref (sw_ad g 33)), (1, .int a1), (2, .int a2)] := hl
  unfold wX7_isNeutral at h
  refine lv_aload_n hx hb dX7_isNeutral_0 rfl (lv_at hl 0 rfl) ?_
  refine lv_aload_n hx hb dX7_isNeutral_1 rfl (lv_at hl 0 rfl) ?_
  refine lv_iload_n hx hb dX7_isNeutral_2 rfl (lv_at hl 1 rfl) ?_
  refine lv_iload_n hx hb dX7_isNeutral_3 rfl (lv_at hl 2 rfl) ?_
  refine sw_ki (rest := [.ref (sw_ad g 33)]) (sw_runV (As := [.int a1, .int a2]) (rest := [.ref (sw_ad g 33)]) hx hb hml hown hts (kX7_arePair l g o d a1 a2 M _ h) cv_X7_arePair q_1009 rfl rfl ⟨(Nat.le_of_ble_eq_true rfl), (Nat.le_of_ble_eq_true rfl)⟩ hW (Nat.le_of_ble_eq_true rfl) sl_33 rfl rfl hl.1 rfl (Nat.le_of_ble_eq_true rfl) dX7_isNeutral_4 ⟨(Nat.le_of_ble_eq_true rfl), (Nat.le_of_ble_eq_true rfl)⟩) hW (fun r1 M8 H locs h hW => ?_)
  obtain ⟨h, eM8⟩ := h
  rw [eM8] at hW
  refine sw_ki (rest := []) (sw_runV (As := [.int r1]) (rest := []) hx hb hml hown hts (kX7_isThere l g o d r1 M _ h) cv_X7_isThere q_1143 rfl rfl ⟨(Nat.le_of_ble_eq_true rfl), (Nat.le_of_ble_eq_true rfl)⟩ hW (Nat.le_of_ble_eq_true rfl) sl_33 rfl rfl hl.1 rfl (Nat.le_of_ble_eq_true rfl) dX7_isNeutral_7 ⟨(Nat.le_of_ble_eq_true rfl), (Nat.le_of_ble_eq_true rfl)⟩) hW (fun r2 M3 H locs h hW => ?_)
  refine lv_if_eq (tgt := 26) hx hb dX7_isNeutral_10 (by decide) (fun k4 => ?_) (fun k4 => ?_)
  · have h := h.1 k4
    refine lv_iconst (v := 0) hx hb dX7_isNeutral_26 (by decide) ?_
    exact sw_ri hx hb hr hlocks hW (by decide) h dX7_isNeutral_27
  · have h := h.2 k4
    refine lv_aload_n hx hb dX7_isNeutral_13 rfl (lv_at hl 0 rfl) ?_
    refine lv_iload_n hx hb dX7_isNeutral_14 rfl (lv_at hl 1 rfl) ?_
    refine lv_iload_n hx hb dX7_isNeutral_15 rfl (lv_at hl 2 rfl) ?_
    refine sw_ki (rest := []) (sw_runV (As := [.int a1, .int a2]) (rest := []) hx hb hml hown hts (kX7_neutral l g o d a1 a2 M3 _ h) cv_X7_neutral q_1027 rfl rfl ⟨(Nat.le_of_ble_eq_true rfl), (Nat.le_of_ble_eq_true rfl)⟩ hW (Nat.le_of_ble_eq_true rfl) sl_33 rfl rfl hl.1 rfl (Nat.le_of_ble_eq_true rfl) dX7_isNeutral_16 ⟨(Nat.le_of_ble_eq_true rfl), (Nat.le_of_ble_eq_true rfl)⟩) hW (fun r5 M7 H locs h hW => ?_)
    obtain ⟨h, eM7⟩ := h
    rw [eM7] at hW
    refine lv_if_eq (tgt := 26) hx hb dX7_isNeutral_19 (by decide) (fun k6 => ?_) (fun k6 => ?_)
    · have h := h.1 k6
      refine lv_iconst (v := 0) hx hb dX7_isNeutral_26 (by decide) ?_
      exact sw_ri hx hb hr hlocks hW (by decide) h dX7_isNeutral_27
    · have h := h.2 k6
      refine lv_iconst (v := 1) hx hb dX7_isNeutral_22 (by decide) ?_
      refine lv_goto (tgt := 27) hx hb dX7_isNeutral_23 (by decide) ?_
      exact sw_ri hx hb hr hlocks hW (by decide) h dX7_isNeutral_27

theorem cv_X7_mayJudge : sw_cV yX7_mayJudge RX7 cX7_mayJudge 3 (some .boolean) 2 := ⟨q_1195, q_1196, q_9, q_1197, by decide +kernel⟩
def wX7_mayJudge (a1 : Int32) (a2 : Int32) (M : sM) (Q : Int32 → sM → Prop) : Prop :=
  wX7_arePair a1 a2 M (fun r1 => wX7_isThere r1 M (fun r2 M3 => (r2 = 0 → (Q (0 : Int32) M3)) ∧ (¬ r2 = 0 → (wX7_judges a1 a2 M3 (fun r5 => (r5 = 0 → (Q (0 : Int32) M3)) ∧ (¬ r5 = 0 → (Q (1 : Int32) M3)))))))
set_option maxRecDepth 20000 in
theorem kX7_mayJudge (l : Launch) (g : sG) (o : Nat → Int64) (d : Nat → UInt64) (a1 : Int32) (a2 : Int32) (M : sM) (Q : Int32 → sM → Prop) (h : wX7_mayJudge a1 a2 M Q) : Met l yX7_mayJudge (sw_ws yX7_mayJudge cX7_mayJudge 3 (some .boolean)) { frames := 3, cells := 0, slots := 0, locals := 67 } (va_Pc [.ref (sw_ad g 33), .int a1, .int a2] (sw_Pr g o d M)) (va_Qi Q (sw_Po g o d) (sw_A g)) 0 0 (sw_A g) := by
  refine sw_met (by decide) (Nat.le_of_ble_eq_true rfl) ?_
  intro p e s m args below meth c ls hx hb hr hts hown hml hlocks hW hl
  have hown : s.vm.findClass RX7 = some m.cls := hown
  have hl : lv_has ls 3 [(0, .ref (sw_ad g 33)), (1, .int a1), (2, .int a2)] := hl
  unfold wX7_mayJudge at h
  refine lv_aload_n hx hb dX7_mayJudge_0 rfl (lv_at hl 0 rfl) ?_
  refine lv_aload_n hx hb dX7_mayJudge_1 rfl (lv_at hl 0 rfl) ?_
  refine lv_iload_n hx hb dX7_mayJudge_2 rfl (lv_at hl 1 rfl) ?_
  refine lv_iload_n hx hb dX7_mayJudge_3 rfl (lv_at hl 2 rfl) ?_
  refine sw_ki (rest := [.ref (sw_ad g 33)]) (sw_runV (As := [.int a1, .int a2]) (rest := [.ref (sw_ad g 33)]) hx hb hml hown hts (kX7_arePair l g o d a1 a2 M _ h) cv_X7_arePair q_1009 rfl rfl ⟨(Nat.le_of_ble_eq_true rfl), (Nat.le_of_ble_eq_true rfl)⟩ hW (Nat.le_of_ble_eq_true rfl) sl_33 rfl rfl hl.1 rfl (Nat.le_of_ble_eq_true rfl) dX7_mayJudge_4 ⟨(Nat.le_of_ble_eq_true rfl), (Nat.le_of_ble_eq_true rfl)⟩) hW (fun r1 M8 H locs h hW => ?_)
  obtain ⟨h, eM8⟩ := h
  rw [eM8] at hW
  refine sw_ki (rest := []) (sw_runV (As := [.int r1]) (rest := []) hx hb hml hown hts (kX7_isThere l g o d r1 M _ h) cv_X7_isThere q_1143 rfl rfl ⟨(Nat.le_of_ble_eq_true rfl), (Nat.le_of_ble_eq_true rfl)⟩ hW (Nat.le_of_ble_eq_true rfl) sl_33 rfl rfl hl.1 rfl (Nat.le_of_ble_eq_true rfl) dX7_mayJudge_7 ⟨(Nat.le_of_ble_eq_true rfl), (Nat.le_of_ble_eq_true rfl)⟩) hW (fun r2 M3 H locs h hW => ?_)
  refine lv_if_eq (tgt := 26) hx hb dX7_mayJudge_10 (by decide) (fun k4 => ?_) (fun k4 => ?_)
  · have h := h.1 k4
    refine lv_iconst (v := 0) hx hb dX7_mayJudge_26 (by decide) ?_
    exact sw_ri hx hb hr hlocks hW (by decide) h dX7_mayJudge_27
  · have h := h.2 k4
    refine lv_aload_n hx hb dX7_mayJudge_13 rfl (lv_at hl 0 rfl) ?_
    refine lv_iload_n hx hb dX7_mayJudge_14 rfl (lv_at hl 1 rfl) ?_
    refine lv_iload_n hx hb dX7_mayJudge_15 rfl (lv_at hl 2 rfl) ?_
    refine sw_ki (rest := []) (sw_runV (As := [.int a1, .int a2]) (rest := []) hx hb hml hown hts (kX7_judges l g o d a1 a2 M3 _ h) cv_X7_judges q_1049 rfl rfl ⟨(Nat.le_of_ble_eq_true rfl), (Nat.le_of_ble_eq_true rfl)⟩ hW (Nat.le_of_ble_eq_true rfl) sl_33 rfl rfl hl.1 rfl (Nat.le_of_ble_eq_true rfl) dX7_mayJudge_16 ⟨(Nat.le_of_ble_eq_true rfl), (Nat.le_of_ble_eq_true rfl)⟩) hW (fun r5 M7 H locs h hW => ?_)
    obtain ⟨h, eM7⟩ := h
    rw [eM7] at hW
    refine lv_if_eq (tgt := 26) hx hb dX7_mayJudge_19 (by decide) (fun k6 => ?_) (fun k6 => ?_)
    · have h := h.1 k6
      refine lv_iconst (v := 0) hx hb dX7_mayJudge_26 (by decide) ?_
      exact sw_ri hx hb hr hlocks hW (by decide) h dX7_mayJudge_27
    · have h := h.2 k6
      refine lv_iconst (v := 1) hx hb dX7_mayJudge_22 (by decide) ?_
      refine lv_goto (tgt := 27) hx hb dX7_mayJudge_23 (by decide) ?_
      exact sw_ri hx hb hr hlocks hW (by decide) h dX7_mayJudge_27

theorem cv_X7_isAssigned : sw_cV yX7_isAssigned RX7 cX7_isAssigned 3 (some .boolean) 2 := ⟨q_1199, q_1200, q_9, q_1201, by decide +kernel⟩
def wX7_isAssigned (a1 : Int32) (a2 : Int32) (M : sM) (Q : Int32 → sM → Prop) : Prop :=
  wX7_arePair a1 a2 M (fun r1 => wX7_isThere r1 M (fun r2 M3 => (r2 = 0 → (Q (0 : Int32) M3)) ∧ (¬ r2 = 0 → (wX7_assigned a1 a2 M3 (fun r5 => (r5 = 0 → (Q (0 : Int32) M3)) ∧ (¬ r5 = 0 → (Q (1 : Int32) M3)))))))
set_option maxRecDepth 20000 in
theorem kX7_isAssigned (l : Launch) (g : sG) (o : Nat → Int64) (d : Nat → UInt64) (a1 : Int32) (a2 : Int32) (M : sM) (Q : Int32 → sM → Prop) (h : wX7_isAssigned a1 a2 M Q) : Met l yX7_isAssigned (sw_ws yX7_isAssigned cX7_isAssigned 3 (some .boolean)) { frames := 3, cells := 0, slots := 0, locals := 65 } (va_Pc [.ref (sw_ad g 33), .int a1, .int a2] (sw_Pr g o d M)) (va_Qi Q (sw_Po g o d) (sw_A g)) 0 0 (sw_A g) := by
  refine sw_met (by decide) (Nat.le_of_ble_eq_true rfl) ?_
  intro p e s m args below meth c ls hx hb hr hts hown hml hlocks hW hl
  have hown : s.vm.findClass RX7 = some m.cls := hown
  have hl : lv_has ls 3 [(0, .ref (sw_ad g 33)), (1, .int a1), (2, .int a2)] := hl
  unfold wX7_isAssigned at h
  refine lv_aload_n hx hb dX7_isAssigned_0 rfl (lv_at hl 0 rfl) ?_
  refine lv_aload_n hx hb dX7_isAssigned_1 rfl (lv_at hl 0 rfl) ?_
  refine lv_iload_n hx hb dX7_isAssigned_2 rfl (lv_at hl 1 rfl) ?_
  refine lv_iload_n hx hb dX7_isAssigned_3 rfl (lv_at hl 2 rfl) ?_
  refine sw_ki (rest := [.ref (sw_ad g 33)]) (sw_runV (As := [.int a1, .int a2]) (rest := [.ref (sw_ad g 33)]) hx hb hml hown hts (kX7_arePair l g o d a1 a2 M _ h) cv_X7_arePair q_1009 rfl rfl ⟨(Nat.le_of_ble_eq_true rfl), (Nat.le_of_ble_eq_true rfl)⟩ hW (Nat.le_of_ble_eq_true rfl) sl_33 rfl rfl hl.1 rfl (Nat.le_of_ble_eq_true rfl) dX7_isAssigned_4 ⟨(Nat.le_of_ble_eq_true rfl), (Nat.le_of_ble_eq_true rfl)⟩) hW (fun r1 M8 H locs h hW => ?_)
  obtain ⟨h, eM8⟩ := h
  rw [eM8] at hW
  refine sw_ki (rest := []) (sw_runV (As := [.int r1]) (rest := []) hx hb hml hown hts (kX7_isThere l g o d r1 M _ h) cv_X7_isThere q_1143 rfl rfl ⟨(Nat.le_of_ble_eq_true rfl), (Nat.le_of_ble_eq_true rfl)⟩ hW (Nat.le_of_ble_eq_true rfl) sl_33 rfl rfl hl.1 rfl (Nat.le_of_ble_eq_true rfl) dX7_isAssigned_7 ⟨(Nat.le_of_ble_eq_true rfl), (Nat.le_of_ble_eq_true rfl)⟩) hW (fun r2 M3 H locs h hW => ?_)
  refine lv_if_eq (tgt := 26) hx hb dX7_isAssigned_10 (by decide) (fun k4 => ?_) (fun k4 => ?_)
  · have h := h.1 k4
    refine lv_iconst (v := 0) hx hb dX7_isAssigned_26 (by decide) ?_
    exact sw_ri hx hb hr hlocks hW (by decide) h dX7_isAssigned_27
  · have h := h.2 k4
    refine lv_aload_n hx hb dX7_isAssigned_13 rfl (lv_at hl 0 rfl) ?_
    refine lv_iload_n hx hb dX7_isAssigned_14 rfl (lv_at hl 1 rfl) ?_
    refine lv_iload_n hx hb dX7_isAssigned_15 rfl (lv_at hl 2 rfl) ?_
    refine sw_ki (rest := []) (sw_runV (As := [.int a1, .int a2]) (rest := []) hx hb hml hown hts (kX7_assigned l g o d a1 a2 M3 _ h) cv_X7_assigned q_1021 rfl rfl ⟨(Nat.le_of_ble_eq_true rfl), (Nat.le_of_ble_eq_true rfl)⟩ hW (Nat.le_of_ble_eq_true rfl) sl_33 rfl rfl hl.1 rfl (Nat.le_of_ble_eq_true rfl) dX7_isAssigned_16 ⟨(Nat.le_of_ble_eq_true rfl), (Nat.le_of_ble_eq_true rfl)⟩) hW (fun r5 M7 H locs h hW => ?_)
    obtain ⟨h, eM7⟩ := h
    rw [eM7] at hW
    refine lv_if_eq (tgt := 26) hx hb dX7_isAssigned_19 (by decide) (fun k6 => ?_) (fun k6 => ?_)
    · have h := h.1 k6
      refine lv_iconst (v := 0) hx hb dX7_isAssigned_26 (by decide) ?_
      exact sw_ri hx hb hr hlocks hW (by decide) h dX7_isAssigned_27
    · have h := h.2 k6
      refine lv_iconst (v := 1) hx hb dX7_isAssigned_22 (by decide) ?_
      refine lv_goto (tgt := 27) hx hb dX7_isAssigned_23 (by decide) ?_
      exact sw_ri hx hb hr hlocks hW (by decide) h dX7_isAssigned_27

def jX7_gradeBy_46 (M : sM) (t0_22 : Int32) (Q : Int32 → sM → Prop) (t0_46 : Int32) : Prop :=
  ∀ M3 : sM, M3 = sw_ms M 33 6 t0_46 → (((M3 33 6) ≤ 0 → (Q t0_22 M3)) ∧ (¬ (M3 33 6) ≤ 0 → (Q (0 : Int32) M3)))
def jX7_gradeBy_22 (a1 : Int32) (a2 : Int32) (M : sM) (Q : Int32 → sM → Prop) (t0_22 : Int32) : Prop :=
  wX7_arePair a1 a2 M (fun r2 => (r2 = 0 → (jX7_gradeBy_46 M t0_22 Q (1 : Int32))) ∧ (¬ r2 = 0 → ((0 ≤ t0_22 → (jX7_gradeBy_46 M t0_22 Q (0 : Int32))) ∧ (¬ 0 ≤ t0_22 → (jX7_gradeBy_46 M t0_22 Q (2 : Int32))))))
theorem cv_X7_gradeBy : sw_cV yX7_gradeBy RX7 cX7_gradeBy 4 (some .int) 2 := ⟨q_1203, q_1204, q_9, q_1205, by decide +kernel⟩
def wX7_gradeBy (a1 : Int32) (a2 : Int32) (M : sM) (Q : Int32 → sM → Prop) : Prop :=
  wX7_arePair a1 a2 M (fun r1 => (r1 = 0 → (jX7_gradeBy_22 a1 a2 M Q (-1 : Int32))) ∧ (¬ r1 = 0 → (wX7_pair a1 a2 (2 : Int32) M (fun r9 => jX7_gradeBy_22 a1 a2 M Q (r9 - (1 : Int32))))))
set_option maxRecDepth 20000 in
theorem kX7_gradeBy (l : Launch) (g : sG) (o : Nat → Int64) (d : Nat → UInt64) (a1 : Int32) (a2 : Int32) (M : sM) (Q : Int32 → sM → Prop) (h : wX7_gradeBy a1 a2 M Q) : Met l yX7_gradeBy (sw_ws yX7_gradeBy cX7_gradeBy 4 (some .int)) { frames := 3, cells := 0, slots := 0, locals := 65 } (va_Pc [.ref (sw_ad g 33), .int a1, .int a2] (sw_Pr g o d M)) (va_Qi Q (sw_Po g o d) (sw_A g)) 0 0 (sw_A g) := by
  refine sw_met (by decide) (Nat.le_of_ble_eq_true rfl) ?_
  intro p e s m args below meth c ls hx hb hr hts hown hml hlocks hW hl
  have hown : s.vm.findClass RX7 = some m.cls := hown
  have hl : lv_has ls 4 [(0, .ref (sw_ad g 33)), (1, .int a1), (2, .int a2)] := hl
  unfold wX7_gradeBy at h
  refine lv_aload_n hx hb dX7_gradeBy_0 rfl (lv_at hl 0 rfl) ?_
  refine lv_iload_n hx hb dX7_gradeBy_1 rfl (lv_at hl 1 rfl) ?_
  refine lv_iload_n hx hb dX7_gradeBy_2 rfl (lv_at hl 2 rfl) ?_
  refine sw_ki (rest := []) (sw_runV (As := [.int a1, .int a2]) (rest := []) hx hb hml hown hts (kX7_arePair l g o d a1 a2 M _ h) cv_X7_arePair q_1009 rfl rfl ⟨(Nat.le_of_ble_eq_true rfl), (Nat.le_of_ble_eq_true rfl)⟩ hW (Nat.le_of_ble_eq_true rfl) sl_33 rfl rfl hl.1 rfl (Nat.le_of_ble_eq_true rfl) dX7_gradeBy_3 ⟨(Nat.le_of_ble_eq_true rfl), (Nat.le_of_ble_eq_true rfl)⟩) hW (fun r1 M11 H locs h hW => ?_)
  obtain ⟨h, eM11⟩ := h
  rw [eM11] at hW
  refine sw_jn_i (g := g) (o := o) (d := d) (nL := 4) (M := M) (jp := 22) (J := fun t0_22 => jX7_gradeBy_22 a1 a2 M Q t0_22) (Lf := fun t0_22 => [(0, .ref (sw_ad g 33)), (1, .int a1), (2, .int a2)]) (Sf := fun t0_22 => [.int t0_22]) (fun t0_22 H locs ls h hW hl => ?_) (fun hJ22 => ?_)
  · unfold jX7_gradeBy_22 at h
    refine lv_istore_n (lv' := [(3, .int t0_22), (0, .ref (sw_ad g 33)), (1, .int a1), (2, .int a2)]) hx hb dX7_gradeBy_22 rfl hl (Nat.le_of_ble_eq_true rfl) rfl (fun ls hl => ?_)
    refine lv_aload_n hx hb dX7_gradeBy_23 rfl (lv_at hl 1 rfl) ?_
    refine lv_aload_n hx hb dX7_gradeBy_24 rfl (lv_at hl 1 rfl) ?_
    refine lv_iload_n hx hb dX7_gradeBy_25 rfl (lv_at hl 2 rfl) ?_
    refine lv_iload_n hx hb dX7_gradeBy_26 rfl (lv_at hl 3 rfl) ?_
    refine sw_ki (rest := [.ref (sw_ad g 33)]) (sw_runV (As := [.int a1, .int a2]) (rest := [.ref (sw_ad g 33)]) hx hb hml hown hts (kX7_arePair l g o d a1 a2 M _ h) cv_X7_arePair q_1009 rfl rfl ⟨(Nat.le_of_ble_eq_true rfl), (Nat.le_of_ble_eq_true rfl)⟩ hW (Nat.le_of_ble_eq_true rfl) sl_33 rfl rfl hl.1 rfl (Nat.le_of_ble_eq_true rfl) dX7_gradeBy_27 ⟨(Nat.le_of_ble_eq_true rfl), (Nat.le_of_ble_eq_true rfl)⟩) hW (fun r2 M7 H locs h hW => ?_)
    obtain ⟨h, eM7⟩ := h
    rw [eM7] at hW
    refine sw_jn_i (g := g) (o := o) (d := d) (nL := 4) (M := M) (jp := 46) (J := fun t0_46 => jX7_gradeBy_46 M t0_22 Q t0_46) (Lf := fun t0_46 => [(0, .ref (sw_ad g 33)), (3, .int t0_22)]) (Sf := fun t0_46 => [.int t0_46, .ref (sw_ad g 33)]) (fun t0_46 H locs ls h hW hl => ?_) (fun hJ46 => ?_)
    · unfold jX7_gradeBy_46 at h
      refine sw_pi (j := 6) hx hb hts hown hW rfl qf_7 tyX7 tyX7_ok nmX7 (Nat.le_of_ble_eq_true rfl) sl_33 rfl (Nat.le_of_ble_eq_true rfl) q_950 rfl rfl rfl dX7_gradeBy_46 (fun H locs hW => ?_)
      obtain ⟨M3, eM3⟩ : ∃ z : sM, z = sw_ms M 33 6 t0_46 := ⟨_, rfl⟩
      rw [← eM3] at hW
      have h := h M3 eM3
      refine lv_aload_n hx hb dX7_gradeBy_49 rfl (lv_at hl 0 rfl) ?_
      refine sw_gi (j := 6) hx hb hts hown hW rfl qf_7 (Nat.le_of_ble_eq_true rfl) sl_33 rfl (Nat.le_of_ble_eq_true rfl) q_950 dX7_gradeBy_50 ?_
      refine lv_if_le (tgt := 60) hx hb dX7_gradeBy_53 (by decide) (fun k4 => ?_) (fun k4 => ?_)
      · have h := h.1 k4
        refine lv_iload_n hx hb dX7_gradeBy_60 rfl (lv_at hl 1 rfl) ?_
        exact sw_ri hx hb hr hlocks hW rfl h dX7_gradeBy_61
      · have h := h.2 k4
        refine lv_iconst (v := 0) hx hb dX7_gradeBy_56 (by decide) ?_
        refine lv_goto (tgt := 61) hx hb dX7_gradeBy_57 (by decide) ?_
        exact sw_ri hx hb hr hlocks hW rfl h dX7_gradeBy_61
    · refine lv_if_ne (tgt := 37) hx hb dX7_gradeBy_30 (by decide) (fun k5 => ?_) (fun k5 => ?_)
      · have h := h.2 k5
        refine lv_iload_n hx hb dX7_gradeBy_37 rfl (lv_at hl 0 rfl) ?_
        refine lv_if_ge (tgt := 45) hx hb dX7_gradeBy_38 (by decide) (fun k6 => ?_) (fun k6 => ?_)
        · have h := h.1 k6
          refine lv_iconst (v := 0) hx hb dX7_gradeBy_45 (by decide) ?_
          exact hJ46 _ _ _ _ h hW (lv_sub hl [1, 0] rfl)
        · have h := h.2 k6
          refine lv_iconst (v := 2) hx hb dX7_gradeBy_41 (by decide) ?_
          refine lv_goto (tgt := 46) hx hb dX7_gradeBy_42 (by decide) ?_
          exact hJ46 _ _ _ _ h hW (lv_sub hl [1, 0] rfl)
      · have h := h.1 k5
        refine lv_iconst (v := 1) hx hb dX7_gradeBy_33 (by decide) ?_
        refine lv_goto (tgt := 46) hx hb dX7_gradeBy_34 (by decide) ?_
        exact hJ46 _ _ _ _ h hW (lv_sub hl [1, 0] rfl)
  · refine lv_if_eq (tgt := 21) hx hb dX7_gradeBy_6 (by decide) (fun k8 => ?_) (fun k8 => ?_)
    · have h := h.1 k8
      refine lv_iconst (v := -1) hx hb dX7_gradeBy_21 (by decide) ?_
      exact hJ22 _ _ _ _ h hW (lv_sub hl [0, 1, 2] rfl)
    · have h := h.2 k8
      refine lv_aload_n hx hb dX7_gradeBy_9 rfl (lv_at hl 0 rfl) ?_
      refine lv_iload_n hx hb dX7_gradeBy_10 rfl (lv_at hl 1 rfl) ?_
      refine lv_iload_n hx hb dX7_gradeBy_11 rfl (lv_at hl 2 rfl) ?_
      refine lv_iconst (v := 2) hx hb dX7_gradeBy_12 (by decide) ?_
      refine sw_ki (rest := []) (sw_runV (As := [.int a1, .int a2, .int (2 : Int32)]) (rest := []) hx hb hml hown hts (kX7_pair l g o d a1 a2 (2 : Int32) M _ h) cv_X7_pair q_1018 rfl rfl ⟨(Nat.le_of_ble_eq_true rfl), (Nat.le_of_ble_eq_true rfl)⟩ hW (Nat.le_of_ble_eq_true rfl) sl_33 rfl rfl hl.1 rfl (Nat.le_of_ble_eq_true rfl) dX7_gradeBy_13 ⟨(Nat.le_of_ble_eq_true rfl), (Nat.le_of_ble_eq_true rfl)⟩) hW (fun r9 M10 H locs h hW => ?_)
      obtain ⟨h, eM10⟩ := h
      rw [eM10] at hW
      refine lv_iconst (v := 1) hx hb dX7_gradeBy_16 (by decide) ?_
      refine lv_isub hx hb dX7_gradeBy_17 ?_
      refine lv_goto (tgt := 22) hx hb dX7_gradeBy_18 (by decide) ?_
      exact hJ22 _ _ _ _ h hW (lv_sub hl [0, 1, 2] rfl)

theorem cv_X7_planSize : sw_cV yX7_planSize RX7 cX7_planSize 1 (some .int) 0 := ⟨q_1207, q_1208, q_9, q_1209, by decide +kernel⟩
def wX7_planSize  (M : sM) (Q : Int32 → sM → Prop) : Prop :=
  ∀ M1 : sM, M1 = sw_ms M 33 6 (0 : Int32) → (wX7_countsSeats M1 (fun M2 => wX7_mostFrom (0 : Int32) M2 (fun r3 M4 => Q r3 M4)))
set_option maxRecDepth 20000 in
theorem kX7_planSize (l : Launch) (g : sG) (o : Nat → Int64) (d : Nat → UInt64)  (M : sM) (Q : Int32 → sM → Prop) (h : wX7_planSize  M Q) : Met l yX7_planSize (sw_ws yX7_planSize cX7_planSize 1 (some .int)) { frames := 15, cells := 0, slots := 0, locals := 353 } (va_Pc [.ref (sw_ad g 33)] (sw_Pr g o d M)) (va_Qi Q (sw_Po g o d) (sw_A g)) 0 0 (sw_A g) := by
  refine sw_met (by decide) (Nat.le_of_ble_eq_true rfl) ?_
  intro p e s m args below meth c ls hx hb hr hts hown hml hlocks hW hl
  have hown : s.vm.findClass RX7 = some m.cls := hown
  have hl : lv_has ls 1 [(0, .ref (sw_ad g 33))] := hl
  unfold wX7_planSize at h
  refine lv_aload_n hx hb dX7_planSize_0 rfl (lv_at hl 0 rfl) ?_
  refine lv_iconst (v := 0) hx hb dX7_planSize_1 (by decide) ?_
  refine sw_pi (j := 6) hx hb hts hown hW rfl qf_7 tyX7 tyX7_ok nmX7 (Nat.le_of_ble_eq_true rfl) sl_33 rfl (Nat.le_of_ble_eq_true rfl) q_950 rfl rfl rfl dX7_planSize_2 (fun H locs hW => ?_)
  obtain ⟨M1, eM1⟩ : ∃ z : sM, z = sw_ms M 33 6 (0 : Int32) := ⟨_, rfl⟩
  rw [← eM1] at hW
  have h := h M1 eM1
  refine lv_aload_n hx hb dX7_planSize_5 rfl (lv_at hl 0 rfl) ?_
  refine sw_kv (rest := []) (sw_runV (As := []) (rest := []) hx hb hml hown hts (kX7_countsSeats l g o d M1 _ h) cv_X7_countsSeats q_1062 rfl rfl ⟨(Nat.le_of_ble_eq_true rfl), (Nat.le_of_ble_eq_true rfl)⟩ hW (Nat.le_of_ble_eq_true rfl) sl_33 rfl rfl hl.1 rfl (Nat.le_of_ble_eq_true rfl) dX7_planSize_6 ⟨(Nat.le_of_ble_eq_true rfl), (Nat.le_of_ble_eq_true rfl)⟩) hW (fun  M2 H locs h hW => ?_)
  refine lv_aload_n hx hb dX7_planSize_9 rfl (lv_at hl 0 rfl) ?_
  refine lv_iconst (v := 0) hx hb dX7_planSize_10 (by decide) ?_
  refine sw_ki (rest := []) (sw_runV (As := [.int (0 : Int32)]) (rest := []) hx hb hml hown hts (kX7_mostFrom l g o d (0 : Int32) M2 _ h) cv_X7_mostFrom q_1065 rfl rfl ⟨(Nat.le_of_ble_eq_true rfl), (Nat.le_of_ble_eq_true rfl)⟩ hW (Nat.le_of_ble_eq_true rfl) sl_33 rfl rfl hl.1 rfl (Nat.le_of_ble_eq_true rfl) dX7_planSize_11 ⟨(Nat.le_of_ble_eq_true rfl), (Nat.le_of_ble_eq_true rfl)⟩) hW (fun r3 M4 H locs h hW => ?_)
  exact sw_ri hx hb hr hlocks hW rfl h dX7_planSize_14

theorem cv_X7_planSizeBySets : sw_cV yX7_planSizeBySets RX7 cX7_planSizeBySets 1 (some .int) 0 := ⟨q_1211, q_1212, q_9, q_1213, by decide +kernel⟩
def wX7_planSizeBySets  (M : sM) (Q : Int32 → sM → Prop) : Prop :=
  wX7_planSize M (fun r1 M2 => Q r1 M2)
set_option maxRecDepth 20000 in
theorem kX7_planSizeBySets (l : Launch) (g : sG) (o : Nat → Int64) (d : Nat → UInt64)  (M : sM) (Q : Int32 → sM → Prop) (h : wX7_planSizeBySets  M Q) : Met l yX7_planSizeBySets (sw_ws yX7_planSizeBySets cX7_planSizeBySets 1 (some .int)) { frames := 16, cells := 0, slots := 0, locals := 373 } (va_Pc [.ref (sw_ad g 33)] (sw_Pr g o d M)) (va_Qi Q (sw_Po g o d) (sw_A g)) 0 0 (sw_A g) := by
  refine sw_met (by decide) (Nat.le_of_ble_eq_true rfl) ?_
  intro p e s m args below meth c ls hx hb hr hts hown hml hlocks hW hl
  have hown : s.vm.findClass RX7 = some m.cls := hown
  have hl : lv_has ls 1 [(0, .ref (sw_ad g 33))] := hl
  unfold wX7_planSizeBySets at h
  refine lv_aload_n hx hb dX7_planSizeBySets_0 rfl (lv_at hl 0 rfl) ?_
  refine sw_ki (rest := []) (sw_runV (As := []) (rest := []) hx hb hml hown hts (kX7_planSize l g o d M _ h) cv_X7_planSize q_1214 rfl rfl ⟨(Nat.le_of_ble_eq_true rfl), (Nat.le_of_ble_eq_true rfl)⟩ hW (Nat.le_of_ble_eq_true rfl) sl_33 rfl rfl hl.1 rfl (Nat.le_of_ble_eq_true rfl) dX7_planSizeBySets_1 ⟨(Nat.le_of_ble_eq_true rfl), (Nat.le_of_ble_eq_true rfl)⟩) hW (fun r1 M2 H locs h hW => ?_)
  exact sw_ri hx hb hr hlocks hW rfl h dX7_planSizeBySets_4

def jX7_plannedExaminer_32 (a1 : Int32) (M2 : sM) (Q : Int32 → sM → Prop) (t0_32 : Int32) : Prop :=
  ∀ M4 : sM, M4 = sw_ms M2 33 6 t0_32 → (((M4 33 6) ≤ 0 → (vp_in a1 8 ∧ (Q (M4 41 (a1).toNatClampNeg) M4))) ∧ (¬ (M4 33 6) ≤ 0 → (Q (0 : Int32) M4)))
theorem cv_X7_plannedExaminer : sw_cV yX7_plannedExaminer RX7 cX7_plannedExaminer 3 (some .int) 1 := ⟨q_1216, q_1217, q_9, q_1218, by decide +kernel⟩
def wX7_plannedExaminer (a1 : Int32) (M : sM) (Q : Int32 → sM → Prop) : Prop :=
  wX7_plans M (fun r1 M2 => wX7_isDoor a1 M2 (fun r3 => (r3 = 0 → (jX7_plannedExaminer_32 a1 M2 Q (1 : Int32))) ∧ (¬ r3 = 0 → (vp_in a1 8 ∧ ((0 ≤ (M2 41 (a1).toNatClampNeg) → (jX7_plannedExaminer_32 a1 M2 Q (0 : Int32))) ∧ (¬ 0 ≤ (M2 41 (a1).toNatClampNeg) → (jX7_plannedExaminer_32 a1 M2 Q (2 : Int32))))))))
set_option maxRecDepth 20000 in
theorem kX7_plannedExaminer (l : Launch) (g : sG) (o : Nat → Int64) (d : Nat → UInt64) (a1 : Int32) (M : sM) (Q : Int32 → sM → Prop) (h : wX7_plannedExaminer a1 M Q) : Met l yX7_plannedExaminer (sw_ws yX7_plannedExaminer cX7_plannedExaminer 3 (some .int)) { frames := 16, cells := 0, slots := 0, locals := 378 } (va_Pc [.ref (sw_ad g 33), .int a1] (sw_Pr g o d M)) (va_Qi Q (sw_Po g o d) (sw_A g)) 0 0 (sw_A g) := by
  refine sw_met (by decide) (Nat.le_of_ble_eq_true rfl) ?_
  intro p e s m args below meth c ls hx hb hr hts hown hml hlocks hW hl
  have hown : s.vm.findClass RX7 = some m.cls := hown
  have hl : lv_has ls 3 [(0, .ref (sw_ad g 33)), (1, .int a1)] := hl
  unfold wX7_plannedExaminer at h
  refine lv_aload_n hx hb dX7_plannedExaminer_0 rfl (lv_at hl 0 rfl) ?_
  refine sw_ki (rest := []) (sw_runV (As := []) (rest := []) hx hb hml hown hts (kX7_plans l g o d M _ h) cv_X7_plans q_1059 rfl rfl ⟨(Nat.le_of_ble_eq_true rfl), (Nat.le_of_ble_eq_true rfl)⟩ hW (Nat.le_of_ble_eq_true rfl) sl_33 rfl rfl hl.1 rfl (Nat.le_of_ble_eq_true rfl) dX7_plannedExaminer_1 ⟨(Nat.le_of_ble_eq_true rfl), (Nat.le_of_ble_eq_true rfl)⟩) hW (fun r1 M2 H locs h hW => ?_)
  refine lv_istore_n (lv' := [(2, .int r1), (0, .ref (sw_ad g 33)), (1, .int a1)]) hx hb dX7_plannedExaminer_4 rfl hl (Nat.le_of_ble_eq_true rfl) rfl (fun ls hl => ?_)
  refine lv_aload_n hx hb dX7_plannedExaminer_5 rfl (lv_at hl 1 rfl) ?_
  refine lv_aload_n hx hb dX7_plannedExaminer_6 rfl (lv_at hl 1 rfl) ?_
  refine lv_iload_n hx hb dX7_plannedExaminer_7 rfl (lv_at hl 2 rfl) ?_
  refine sw_ki (rest := [.ref (sw_ad g 33)]) (sw_runV (As := [.int a1]) (rest := [.ref (sw_ad g 33)]) hx hb hml hown hts (kX7_isDoor l g o d a1 M2 _ h) cv_X7_isDoor q_1015 rfl rfl ⟨(Nat.le_of_ble_eq_true rfl), (Nat.le_of_ble_eq_true rfl)⟩ hW (Nat.le_of_ble_eq_true rfl) sl_33 rfl rfl hl.1 rfl (Nat.le_of_ble_eq_true rfl) dX7_plannedExaminer_8 ⟨(Nat.le_of_ble_eq_true rfl), (Nat.le_of_ble_eq_true rfl)⟩) hW (fun r3 M10 H locs h hW => ?_)
  obtain ⟨h, eM10⟩ := h
  rw [eM10] at hW
  refine sw_jn_i (g := g) (o := o) (d := d) (nL := 3) (M := M2) (jp := 32) (J := fun t0_32 => jX7_plannedExaminer_32 a1 M2 Q t0_32) (Lf := fun t0_32 => [(0, .ref (sw_ad g 33)), (1, .int a1)]) (Sf := fun t0_32 => [.int t0_32, .ref (sw_ad g 33)]) (fun t0_32 H locs ls h hW hl => ?_) (fun hJ32 => ?_)
  · unfold jX7_plannedExaminer_32 at h
    refine sw_pi (j := 6) hx hb hts hown hW rfl qf_7 tyX7 tyX7_ok nmX7 (Nat.le_of_ble_eq_true rfl) sl_33 rfl (Nat.le_of_ble_eq_true rfl) q_950 rfl rfl rfl dX7_plannedExaminer_32 (fun H locs hW => ?_)
    obtain ⟨M4, eM4⟩ : ∃ z : sM, z = sw_ms M2 33 6 t0_32 := ⟨_, rfl⟩
    rw [← eM4] at hW
    have h := h M4 eM4
    refine lv_aload_n hx hb dX7_plannedExaminer_35 rfl (lv_at hl 0 rfl) ?_
    refine sw_gi (j := 6) hx hb hts hown hW rfl qf_7 (Nat.le_of_ble_eq_true rfl) sl_33 rfl (Nat.le_of_ble_eq_true rfl) q_950 dX7_plannedExaminer_36 ?_
    refine lv_if_le (tgt := 46) hx hb dX7_plannedExaminer_39 (by decide) (fun k5 => ?_) (fun k5 => ?_)
    · have h := h.1 k5
      refine lv_aload_n hx hb dX7_plannedExaminer_46 rfl (lv_at hl 0 rfl) ?_
      refine sw_gr (j := 10) (r := 41) hx hb hts hown hW rfl qf_7 (Nat.le_of_ble_eq_true rfl) sl_33 rfl (Nat.le_of_ble_eq_true rfl) q_954 dX7_plannedExaminer_47 ?_
      refine lv_iload_n hx hb dX7_plannedExaminer_50 rfl (lv_at hl 1 rfl) ?_
      have b6 := h.1
      have h := h.2
      refine sw_ia (n := 8) hx hb hW (Nat.le_of_ble_eq_true rfl) sl_41 b6 dX7_plannedExaminer_51 ?_
      exact sw_ri hx hb hr hlocks hW rfl h dX7_plannedExaminer_52
    · have h := h.2 k5
      refine lv_iconst (v := 0) hx hb dX7_plannedExaminer_42 (by decide) ?_
      refine lv_goto (tgt := 52) hx hb dX7_plannedExaminer_43 (by decide) ?_
      exact sw_ri hx hb hr hlocks hW rfl h dX7_plannedExaminer_52
  · refine lv_if_ne (tgt := 18) hx hb dX7_plannedExaminer_11 (by decide) (fun k7 => ?_) (fun k7 => ?_)
    · have h := h.2 k7
      refine lv_aload_n hx hb dX7_plannedExaminer_18 rfl (lv_at hl 1 rfl) ?_
      refine sw_gr (j := 10) (r := 41) hx hb hts hown hW rfl qf_7 (Nat.le_of_ble_eq_true rfl) sl_33 rfl (Nat.le_of_ble_eq_true rfl) q_954 dX7_plannedExaminer_19 ?_
      refine lv_iload_n hx hb dX7_plannedExaminer_22 rfl (lv_at hl 2 rfl) ?_
      have b8 := h.1
      have h := h.2
      refine sw_ia (n := 8) hx hb hW (Nat.le_of_ble_eq_true rfl) sl_41 b8 dX7_plannedExaminer_23 ?_
      refine lv_if_ge (tgt := 31) hx hb dX7_plannedExaminer_24 (by decide) (fun k9 => ?_) (fun k9 => ?_)
      · have h := h.1 k9
        refine lv_iconst (v := 0) hx hb dX7_plannedExaminer_31 (by decide) ?_
        exact hJ32 _ _ _ _ h hW (lv_sub hl [1, 2] rfl)
      · have h := h.2 k9
        refine lv_iconst (v := 2) hx hb dX7_plannedExaminer_27 (by decide) ?_
        refine lv_goto (tgt := 32) hx hb dX7_plannedExaminer_28 (by decide) ?_
        exact hJ32 _ _ _ _ h hW (lv_sub hl [1, 2] rfl)
    · have h := h.1 k7
      refine lv_iconst (v := 1) hx hb dX7_plannedExaminer_14 (by decide) ?_
      refine lv_goto (tgt := 32) hx hb dX7_plannedExaminer_15 (by decide) ?_
      exact hJ32 _ _ _ _ h hW (lv_sub hl [1, 2] rfl)

theorem cv_X7_panelCount : sw_cV yX7_panelCount RX7 cX7_panelCount 2 (some .int) 1 := ⟨q_1220, q_1221, q_9, q_1222, by decide +kernel⟩
def wX7_panelCount (a1 : Int32) (M : sM) (Q : Int32 → sM → Prop) : Prop :=
  wX7_isDoor a1 M (fun r1 => wX7_isThere r1 M (fun r2 M3 => (r2 = 0 → (Q (0 : Int32) M3)) ∧ (¬ r2 = 0 → (wX7_panels a1 M3 (fun r5 M6 => Q r5 M6)))))
set_option maxRecDepth 20000 in
theorem kX7_panelCount (l : Launch) (g : sG) (o : Nat → Int64) (d : Nat → UInt64) (a1 : Int32) (M : sM) (Q : Int32 → sM → Prop) (h : wX7_panelCount a1 M Q) : Met l yX7_panelCount (sw_ws yX7_panelCount cX7_panelCount 2 (some .int)) { frames := 4, cells := 0, slots := 0, locals := 95 } (va_Pc [.ref (sw_ad g 33), .int a1] (sw_Pr g o d M)) (va_Qi Q (sw_Po g o d) (sw_A g)) 0 0 (sw_A g) := by
  refine sw_met (by decide) (Nat.le_of_ble_eq_true rfl) ?_
  intro p e s m args below meth c ls hx hb hr hts hown hml hlocks hW hl
  have hown : s.vm.findClass RX7 = some m.cls := hown
  have hl : lv_has ls 2 [(0, .ref (sw_ad g 33)), (1, .int a1)] := hl
  unfold wX7_panelCount at h
  refine lv_aload_n hx hb dX7_panelCount_0 rfl (lv_at hl 0 rfl) ?_
  refine lv_aload_n hx hb dX7_panelCount_1 rfl (lv_at hl 0 rfl) ?_
  refine lv_iload_n hx hb dX7_panelCount_2 rfl (lv_at hl 1 rfl) ?_
  refine sw_ki (rest := [.ref (sw_ad g 33)]) (sw_runV (As := [.int a1]) (rest := [.ref (sw_ad g 33)]) hx hb hml hown hts (kX7_isDoor l g o d a1 M _ h) cv_X7_isDoor q_1015 rfl rfl ⟨(Nat.le_of_ble_eq_true rfl), (Nat.le_of_ble_eq_true rfl)⟩ hW (Nat.le_of_ble_eq_true rfl) sl_33 rfl rfl hl.1 rfl (Nat.le_of_ble_eq_true rfl) dX7_panelCount_3 ⟨(Nat.le_of_ble_eq_true rfl), (Nat.le_of_ble_eq_true rfl)⟩) hW (fun r1 M7 H locs h hW => ?_)
  obtain ⟨h, eM7⟩ := h
  rw [eM7] at hW
  refine sw_ki (rest := []) (sw_runV (As := [.int r1]) (rest := []) hx hb hml hown hts (kX7_isThere l g o d r1 M _ h) cv_X7_isThere q_1143 rfl rfl ⟨(Nat.le_of_ble_eq_true rfl), (Nat.le_of_ble_eq_true rfl)⟩ hW (Nat.le_of_ble_eq_true rfl) sl_33 rfl rfl hl.1 rfl (Nat.le_of_ble_eq_true rfl) dX7_panelCount_6 ⟨(Nat.le_of_ble_eq_true rfl), (Nat.le_of_ble_eq_true rfl)⟩) hW (fun r2 M3 H locs h hW => ?_)
  refine lv_if_eq (tgt := 20) hx hb dX7_panelCount_9 (by decide) (fun k4 => ?_) (fun k4 => ?_)
  · have h := h.1 k4
    refine lv_iconst (v := 0) hx hb dX7_panelCount_20 (by decide) ?_
    exact sw_ri hx hb hr hlocks hW rfl h dX7_panelCount_21
  · have h := h.2 k4
    refine lv_aload_n hx hb dX7_panelCount_12 rfl (lv_at hl 0 rfl) ?_
    refine lv_iload_n hx hb dX7_panelCount_13 rfl (lv_at hl 1 rfl) ?_
    refine sw_ki (rest := []) (sw_runV (As := [.int a1]) (rest := []) hx hb hml hown hts (kX7_panels l g o d a1 M3 _ h) cv_X7_panels q_1106 rfl rfl ⟨(Nat.le_of_ble_eq_true rfl), (Nat.le_of_ble_eq_true rfl)⟩ hW (Nat.le_of_ble_eq_true rfl) sl_33 rfl rfl hl.1 rfl (Nat.le_of_ble_eq_true rfl) dX7_panelCount_14 ⟨(Nat.le_of_ble_eq_true rfl), (Nat.le_of_ble_eq_true rfl)⟩) hW (fun r5 M6 H locs h hW => ?_)
    refine lv_goto (tgt := 21) hx hb dX7_panelCount_17 (by decide) ?_
    exact sw_ri hx hb hr hlocks hW rfl h dX7_panelCount_21

theorem cv_X7_panelCountByFrames : sw_cV yX7_panelCountByFrames RX7 cX7_panelCountByFrames 2 (some .int) 1 := ⟨q_1224, q_1225, q_9, q_1226, by decide +kernel⟩
def wX7_panelCountByFrames (a1 : Int32) (M : sM) (Q : Int32 → sM → Prop) : Prop :=
  wX7_panelCount a1 M (fun r1 M2 => Q r1 M2)
set_option maxRecDepth 20000 in
theorem kX7_panelCountByFrames (l : Launch) (g : sG) (o : Nat → Int64) (d : Nat → UInt64) (a1 : Int32) (M : sM) (Q : Int32 → sM → Prop) (h : wX7_panelCountByFrames a1 M Q) : Met l yX7_panelCountByFrames (sw_ws yX7_panelCountByFrames cX7_panelCountByFrames 2 (some .int)) { frames := 5, cells := 0, slots := 0, locals := 116 } (va_Pc [.ref (sw_ad g 33), .int a1] (sw_Pr g o d M)) (va_Qi Q (sw_Po g o d) (sw_A g)) 0 0 (sw_A g) := by
  refine sw_met (by decide) (Nat.le_of_ble_eq_true rfl) ?_
  intro p e s m args below meth c ls hx hb hr hts hown hml hlocks hW hl
  have hown : s.vm.findClass RX7 = some m.cls := hown
  have hl : lv_has ls 2 [(0, .ref (sw_ad g 33)), (1, .int a1)] := hl
  unfold wX7_panelCountByFrames at h
  refine lv_aload_n hx hb dX7_panelCountByFrames_0 rfl (lv_at hl 0 rfl) ?_
  refine lv_iload_n hx hb dX7_panelCountByFrames_1 rfl (lv_at hl 1 rfl) ?_
  refine sw_ki (rest := []) (sw_runV (As := [.int a1]) (rest := []) hx hb hml hown hts (kX7_panelCount l g o d a1 M _ h) cv_X7_panelCount q_1227 rfl rfl ⟨(Nat.le_of_ble_eq_true rfl), (Nat.le_of_ble_eq_true rfl)⟩ hW (Nat.le_of_ble_eq_true rfl) sl_33 rfl rfl hl.1 rfl (Nat.le_of_ble_eq_true rfl) dX7_panelCountByFrames_2 ⟨(Nat.le_of_ble_eq_true rfl), (Nat.le_of_ble_eq_true rfl)⟩) hW (fun r1 M2 H locs h hW => ?_)
  exact sw_ri hx hb hr hlocks hW rfl h dX7_panelCountByFrames_5

def jX7_panelMember_39 (a2 : Int32) (Q : Int32 → sM → Prop) (t0_39 : Int32) (M_39 : sM) : Prop :=
  ∀ M2 : sM, M2 = sw_ms M_39 33 6 t0_39 → (((M2 33 6) ≤ 0 → (vp_in a2 3 ∧ (Q (M2 42 (a2).toNatClampNeg) M2))) ∧ (¬ (M2 33 6) ≤ 0 → (Q (0 : Int32) M2)))
theorem cv_X7_panelMember : sw_cV yX7_panelMember RX7 cX7_panelMember 3 (some .int) 2 := ⟨q_1229, q_1230, q_9, q_1231, by decide +kernel⟩
def wX7_panelMember (a1 : Int32) (a2 : Int32) (M : sM) (Q : Int32 → sM → Prop) : Prop :=
  wX7_isDoor a1 M (fun r1 => (r1 = 0 → (jX7_panelMember_39 a2 Q (1 : Int32) M)) ∧ (¬ r1 = 0 → (wX7_in a2 (0 : Int32) (2 : Int32) (fun r6 => (r6 = 0 → (jX7_panelMember_39 a2 Q (2 : Int32) M)) ∧ (¬ r6 = 0 → (wX7_panels a1 M (fun r8 M9 => (r8 = 0 → (jX7_panelMember_39 a2 Q (3 : Int32) M9)) ∧ (¬ r8 = 0 → (jX7_panelMember_39 a2 Q (0 : Int32) M9)))))))))
set_option maxRecDepth 20000 in
theorem kX7_panelMember (l : Launch) (g : sG) (o : Nat → Int64) (d : Nat → UInt64) (a1 : Int32) (a2 : Int32) (M : sM) (Q : Int32 → sM → Prop) (h : wX7_panelMember a1 a2 M Q) : Met l yX7_panelMember (sw_ws yX7_panelMember cX7_panelMember 3 (some .int)) { frames := 4, cells := 0, slots := 0, locals := 95 } (va_Pc [.ref (sw_ad g 33), .int a1, .int a2] (sw_Pr g o d M)) (va_Qi Q (sw_Po g o d) (sw_A g)) 0 0 (sw_A g) := by
  refine sw_met (by decide) (Nat.le_of_ble_eq_true rfl) ?_
  intro p e s m args below meth c ls hx hb hr hts hown hml hlocks hW hl
  have hown : s.vm.findClass RX7 = some m.cls := hown
  have hl : lv_has ls 3 [(0, .ref (sw_ad g 33)), (1, .int a1), (2, .int a2)] := hl
  unfold wX7_panelMember at h
  refine lv_aload_n hx hb dX7_panelMember_0 rfl (lv_at hl 0 rfl) ?_
  refine lv_aload_n hx hb dX7_panelMember_1 rfl (lv_at hl 0 rfl) ?_
  refine lv_iload_n hx hb dX7_panelMember_2 rfl (lv_at hl 1 rfl) ?_
  refine sw_ki (rest := [.ref (sw_ad g 33)]) (sw_runV (As := [.int a1]) (rest := [.ref (sw_ad g 33)]) hx hb hml hown hts (kX7_isDoor l g o d a1 M _ h) cv_X7_isDoor q_1015 rfl rfl ⟨(Nat.le_of_ble_eq_true rfl), (Nat.le_of_ble_eq_true rfl)⟩ hW (Nat.le_of_ble_eq_true rfl) sl_33 rfl rfl hl.1 rfl (Nat.le_of_ble_eq_true rfl) dX7_panelMember_3 ⟨(Nat.le_of_ble_eq_true rfl), (Nat.le_of_ble_eq_true rfl)⟩) hW (fun r1 M12 H locs h hW => ?_)
  obtain ⟨h, eM12⟩ := h
  rw [eM12] at hW
  refine sw_jn_iM (g := g) (o := o) (d := d) (nL := 3) (jp := 39) (J := fun t0_39 M_39 => jX7_panelMember_39 a2 Q t0_39 M_39) (Lf := fun t0_39 M_39 => [(0, .ref (sw_ad g 33)), (2, .int a2)]) (Sf := fun t0_39 M_39 => [.int t0_39, .ref (sw_ad g 33)]) (fun t0_39 M_39 H locs ls h hW hl => ?_) (fun hJ39 => ?_)
  · unfold jX7_panelMember_39 at h
    refine sw_pi (j := 6) hx hb hts hown hW rfl qf_7 tyX7 tyX7_ok nmX7 (Nat.le_of_ble_eq_true rfl) sl_33 rfl (Nat.le_of_ble_eq_true rfl) q_950 rfl rfl rfl dX7_panelMember_39 (fun H locs hW => ?_)
    obtain ⟨M2, eM2⟩ : ∃ z : sM, z = sw_ms M_39 33 6 t0_39 := ⟨_, rfl⟩
    rw [← eM2] at hW
    have h := h M2 eM2
    refine lv_aload_n hx hb dX7_panelMember_42 rfl (lv_at hl 0 rfl) ?_
    refine sw_gi (j := 6) hx hb hts hown hW rfl qf_7 (Nat.le_of_ble_eq_true rfl) sl_33 rfl (Nat.le_of_ble_eq_true rfl) q_950 dX7_panelMember_43 ?_
    refine lv_if_le (tgt := 53) hx hb dX7_panelMember_46 (by decide) (fun k3 => ?_) (fun k3 => ?_)
    · have h := h.1 k3
      refine lv_aload_n hx hb dX7_panelMember_53 rfl (lv_at hl 0 rfl) ?_
      refine sw_gr (j := 11) (r := 42) hx hb hts hown hW rfl qf_7 (Nat.le_of_ble_eq_true rfl) sl_33 rfl (Nat.le_of_ble_eq_true rfl) q_955 dX7_panelMember_54 ?_
      refine lv_iload_n hx hb dX7_panelMember_57 rfl (lv_at hl 1 rfl) ?_
      have b4 := h.1
      have h := h.2
      refine sw_ia (n := 3) hx hb hW (Nat.le_of_ble_eq_true rfl) sl_42 b4 dX7_panelMember_58 ?_
      exact sw_ri hx hb hr hlocks hW rfl h dX7_panelMember_59
    · have h := h.2 k3
      refine lv_iconst (v := 0) hx hb dX7_panelMember_49 (by decide) ?_
      refine lv_goto (tgt := 59) hx hb dX7_panelMember_50 (by decide) ?_
      exact sw_ri hx hb hr hlocks hW rfl h dX7_panelMember_59
  · refine lv_if_ne (tgt := 13) hx hb dX7_panelMember_6 (by decide) (fun k5 => ?_) (fun k5 => ?_)
    · have h := h.2 k5
      refine lv_iload_n hx hb dX7_panelMember_13 rfl (lv_at hl 2 rfl) ?_
      refine lv_iconst (v := 0) hx hb dX7_panelMember_14 (by decide) ?_
      refine lv_iconst (v := 2) hx hb dX7_panelMember_15 (by decide) ?_
      refine sw_ki (rest := [.ref (sw_ad g 33)]) (sw_runS (As := [.int a2, .int (0 : Int32), .int (2 : Int32)]) (rest := [.ref (sw_ad g 33)]) hx hb hml hown hts (kX7_in l g o d a2 (0 : Int32) (2 : Int32) M _ h) cs_X7_in q_986 rfl rfl ⟨(Nat.le_of_ble_eq_true rfl), (Nat.le_of_ble_eq_true rfl)⟩ hW rfl hl.1 rfl (Nat.le_of_ble_eq_true rfl) dX7_panelMember_16 ⟨(Nat.le_of_ble_eq_true rfl), (Nat.le_of_ble_eq_true rfl)⟩) hW (fun r6 M11 H locs h hW => ?_)
      obtain ⟨h, eM11⟩ := h
      rw [eM11] at hW
      refine lv_if_ne (tgt := 26) hx hb dX7_panelMember_19 (by decide) (fun k7 => ?_) (fun k7 => ?_)
      · have h := h.2 k7
        refine lv_aload_n hx hb dX7_panelMember_26 rfl (lv_at hl 0 rfl) ?_
        refine lv_iload_n hx hb dX7_panelMember_27 rfl (lv_at hl 1 rfl) ?_
        refine sw_ki (rest := [.ref (sw_ad g 33)]) (sw_runV (As := [.int a1]) (rest := [.ref (sw_ad g 33)]) hx hb hml hown hts (kX7_panels l g o d a1 M _ h) cv_X7_panels q_1106 rfl rfl ⟨(Nat.le_of_ble_eq_true rfl), (Nat.le_of_ble_eq_true rfl)⟩ hW (Nat.le_of_ble_eq_true rfl) sl_33 rfl rfl hl.1 rfl (Nat.le_of_ble_eq_true rfl) dX7_panelMember_28 ⟨(Nat.le_of_ble_eq_true rfl), (Nat.le_of_ble_eq_true rfl)⟩) hW (fun r8 M9 H locs h hW => ?_)
        refine lv_if_ne (tgt := 38) hx hb dX7_panelMember_31 (by decide) (fun k10 => ?_) (fun k10 => ?_)
        · have h := h.2 k10
          refine lv_iconst (v := 0) hx hb dX7_panelMember_38 (by decide) ?_
          exact hJ39 _ _ _ _ _ h hW (lv_sub hl [0, 2] rfl)
        · have h := h.1 k10
          refine lv_iconst (v := 3) hx hb dX7_panelMember_34 (by decide) ?_
          refine lv_goto (tgt := 39) hx hb dX7_panelMember_35 (by decide) ?_
          exact hJ39 _ _ _ _ _ h hW (lv_sub hl [0, 2] rfl)
      · have h := h.1 k7
        refine lv_iconst (v := 2) hx hb dX7_panelMember_22 (by decide) ?_
        refine lv_goto (tgt := 39) hx hb dX7_panelMember_23 (by decide) ?_
        exact hJ39 _ _ _ _ _ h hW (lv_sub hl [0, 2] rfl)
    · have h := h.1 k5
      refine lv_iconst (v := 1) hx hb dX7_panelMember_9 (by decide) ?_
      refine lv_goto (tgt := 39) hx hb dX7_panelMember_10 (by decide) ?_
      exact hJ39 _ _ _ _ _ h hW (lv_sub hl [0, 2] rfl)

theorem cv_X7_threshold : sw_cV yX7_threshold RX7 cX7_threshold 1 (some .int) 0 := ⟨q_1233, q_1234, q_9, q_1235, by decide +kernel⟩
def wX7_threshold  (M : sM) (Q : Int32 → sM → Prop) : Prop :=
  ∀ M1 : sM, M1 = sw_ms M 33 6 (0 : Int32) → (Q (M1 34 ((2 : Int32)).toNatClampNeg) M1)
set_option maxRecDepth 20000 in
theorem kX7_threshold (l : Launch) (g : sG) (o : Nat → Int64) (d : Nat → UInt64)  (M : sM) (Q : Int32 → sM → Prop) (h : wX7_threshold  M Q) : Met l yX7_threshold (sw_ws yX7_threshold cX7_threshold 1 (some .int)) { frames := 0, cells := 0, slots := 0, locals := 0 } (va_Pc [.ref (sw_ad g 33)] (sw_Pr g o d M)) (va_Qi Q (sw_Po g o d) (sw_A g)) 0 0 (sw_A g) := by
  refine sw_met (by decide) (Nat.le_of_ble_eq_true rfl) ?_
  intro p e s m args below meth c ls hx hb hr hts hown hml hlocks hW hl
  have hown : s.vm.findClass RX7 = some m.cls := hown
  have hl : lv_has ls 1 [(0, .ref (sw_ad g 33))] := hl
  unfold wX7_threshold at h
  refine lv_aload_n hx hb dX7_threshold_0 rfl (lv_at hl 0 rfl) ?_
  refine lv_iconst (v := 0) hx hb dX7_threshold_1 (by decide) ?_
  refine sw_pi (j := 6) hx hb hts hown hW rfl qf_7 tyX7 tyX7_ok nmX7 (Nat.le_of_ble_eq_true rfl) sl_33 rfl (Nat.le_of_ble_eq_true rfl) q_950 rfl rfl rfl dX7_threshold_2 (fun H locs hW => ?_)
  obtain ⟨M1, eM1⟩ : ∃ z : sM, z = sw_ms M 33 6 (0 : Int32) := ⟨_, rfl⟩
  rw [← eM1] at hW
  have h := h M1 eM1
  refine lv_aload_n hx hb dX7_threshold_5 rfl (lv_at hl 0 rfl) ?_
  refine sw_gr (j := 0) (r := 34) hx hb hts hown hW rfl qf_7 (Nat.le_of_ble_eq_true rfl) sl_33 rfl (Nat.le_of_ble_eq_true rfl) q_944 dX7_threshold_6 ?_
  refine lv_iconst (v := 2) hx hb dX7_threshold_9 (by decide) ?_
  refine sw_ia (n := 228) hx hb hW (Nat.le_of_ble_eq_true rfl) sl_34 (vp_in_iff.mpr (by decide)) dX7_threshold_10 ?_
  exact sw_ri hx hb hr hlocks hW rfl h dX7_threshold_11

theorem cv_X7_entryCount : sw_cV yX7_entryCount RX7 cX7_entryCount 1 (some .int) 0 := ⟨q_1237, q_1238, q_9, q_1239, by decide +kernel⟩
def wX7_entryCount  (M : sM) (Q : Int32 → sM → Prop) : Prop :=
  ∀ M1 : sM, M1 = sw_ms M 33 6 (0 : Int32) → (Q (M1 34 ((3 : Int32)).toNatClampNeg) M1)
set_option maxRecDepth 20000 in
theorem kX7_entryCount (l : Launch) (g : sG) (o : Nat → Int64) (d : Nat → UInt64)  (M : sM) (Q : Int32 → sM → Prop) (h : wX7_entryCount  M Q) : Met l yX7_entryCount (sw_ws yX7_entryCount cX7_entryCount 1 (some .int)) { frames := 0, cells := 0, slots := 0, locals := 0 } (va_Pc [.ref (sw_ad g 33)] (sw_Pr g o d M)) (va_Qi Q (sw_Po g o d) (sw_A g)) 0 0 (sw_A g) := by
  refine sw_met (by decide) (Nat.le_of_ble_eq_true rfl) ?_
  intro p e s m args below meth c ls hx hb hr hts hown hml hlocks hW hl
  have hown : s.vm.findClass RX7 = some m.cls := hown
  have hl : lv_has ls 1 [(0, .ref (sw_ad g 33))] := hl
  unfold wX7_entryCount at h
  refine lv_aload_n hx hb dX7_entryCount_0 rfl (lv_at hl 0 rfl) ?_
  refine lv_iconst (v := 0) hx hb dX7_entryCount_1 (by decide) ?_
  refine sw_pi (j := 6) hx hb hts hown hW rfl qf_7 tyX7 tyX7_ok nmX7 (Nat.le_of_ble_eq_true rfl) sl_33 rfl (Nat.le_of_ble_eq_true rfl) q_950 rfl rfl rfl dX7_entryCount_2 (fun H locs hW => ?_)
  obtain ⟨M1, eM1⟩ : ∃ z : sM, z = sw_ms M 33 6 (0 : Int32) := ⟨_, rfl⟩
  rw [← eM1] at hW
  have h := h M1 eM1
  refine lv_aload_n hx hb dX7_entryCount_5 rfl (lv_at hl 0 rfl) ?_
  refine sw_gr (j := 0) (r := 34) hx hb hts hown hW rfl qf_7 (Nat.le_of_ble_eq_true rfl) sl_33 rfl (Nat.le_of_ble_eq_true rfl) q_944 dX7_entryCount_6 ?_
  refine lv_iconst (v := 3) hx hb dX7_entryCount_9 (by decide) ?_
  refine sw_ia (n := 228) hx hb hW (Nat.le_of_ble_eq_true rfl) sl_34 (vp_in_iff.mpr (by decide)) dX7_entryCount_10 ?_
  exact sw_ri hx hb hr hlocks hW rfl h dX7_entryCount_11

theorem cv_X7_doorOf : sw_cV yX7_doorOf RX7 cX7_doorOf 2 (some .int) 1 := ⟨q_1241, q_1242, q_9, q_1243, by decide +kernel⟩
def wX7_doorOf (a1 : Int32) (M : sM) (Q : Int32 → sM → Prop) : Prop :=
  wX7_isEntry a1 M (fun r1 => wX7_isThere r1 M (fun r2 M3 => (r2 = 0 → (Q (0 : Int32) M3)) ∧ (¬ r2 = 0 → (vp_in (((212 : Int32) + ((2 : Int32) * a1)) - (2 : Int32)) 228 ∧ (Q (M3 34 ((((212 : Int32) + ((2 : Int32) * a1)) - (2 : Int32))).toNatClampNeg) M3)))))
set_option maxRecDepth 20000 in
theorem kX7_doorOf (l : Launch) (g : sG) (o : Nat → Int64) (d : Nat → UInt64) (a1 : Int32) (M : sM) (Q : Int32 → sM → Prop) (h : wX7_doorOf a1 M Q) : Met l yX7_doorOf (sw_ws yX7_doorOf cX7_doorOf 2 (some .int)) { frames := 2, cells := 0, slots := 0, locals := 43 } (va_Pc [.ref (sw_ad g 33), .int a1] (sw_Pr g o d M)) (va_Qi Q (sw_Po g o d) (sw_A g)) 0 0 (sw_A g) := by
  refine sw_met (by decide) (Nat.le_of_ble_eq_true rfl) ?_
  intro p e s m args below meth c ls hx hb hr hts hown hml hlocks hW hl
  have hown : s.vm.findClass RX7 = some m.cls := hown
  have hl : lv_has ls 2 [(0, .ref (sw_ad g 33)), (1, .int a1)] := hl
  unfold wX7_doorOf at h
  refine lv_aload_n hx hb dX7_doorOf_0 rfl (lv_at hl 0 rfl) ?_
  refine lv_aload_n hx hb dX7_doorOf_1 rfl (lv_at hl 0 rfl) ?_
  refine lv_iload_n hx hb dX7_doorOf_2 rfl (lv_at hl 1 rfl) ?_
  refine sw_ki (rest := [.ref (sw_ad g 33)]) (sw_runV (As := [.int a1]) (rest := [.ref (sw_ad g 33)]) hx hb hml hown hts (kX7_isEntry l g o d a1 M _ h) cv_X7_isEntry q_1129 rfl rfl ⟨(Nat.le_of_ble_eq_true rfl), (Nat.le_of_ble_eq_true rfl)⟩ hW (Nat.le_of_ble_eq_true rfl) sl_33 rfl rfl hl.1 rfl (Nat.le_of_ble_eq_true rfl) dX7_doorOf_3 ⟨(Nat.le_of_ble_eq_true rfl), (Nat.le_of_ble_eq_true rfl)⟩) hW (fun r1 M6 H locs h hW => ?_)
  obtain ⟨h, eM6⟩ := h
  rw [eM6] at hW
  refine sw_ki (rest := []) (sw_runV (As := [.int r1]) (rest := []) hx hb hml hown hts (kX7_isThere l g o d r1 M _ h) cv_X7_isThere q_1143 rfl rfl ⟨(Nat.le_of_ble_eq_true rfl), (Nat.le_of_ble_eq_true rfl)⟩ hW (Nat.le_of_ble_eq_true rfl) sl_33 rfl rfl hl.1 rfl (Nat.le_of_ble_eq_true rfl) dX7_doorOf_6 ⟨(Nat.le_of_ble_eq_true rfl), (Nat.le_of_ble_eq_true rfl)⟩) hW (fun r2 M3 H locs h hW => ?_)
  refine lv_if_eq (tgt := 29) hx hb dX7_doorOf_9 (by decide) (fun k4 => ?_) (fun k4 => ?_)
  · have h := h.1 k4
    refine lv_iconst (v := 0) hx hb dX7_doorOf_29 (by decide) ?_
    exact sw_ri hx hb hr hlocks hW rfl h dX7_doorOf_30
  · have h := h.2 k4
    refine lv_aload_n hx hb dX7_doorOf_12 rfl (lv_at hl 0 rfl) ?_
    refine sw_gr (j := 0) (r := 34) hx hb hts hown hW rfl qf_7 (Nat.le_of_ble_eq_true rfl) sl_33 rfl (Nat.le_of_ble_eq_true rfl) q_944 dX7_doorOf_13 ?_
    refine lv_sipush (v := 212) hx hb dX7_doorOf_16 (by decide) ?_
    refine lv_iconst (v := 2) hx hb dX7_doorOf_19 (by decide) ?_
    refine lv_iload_n hx hb dX7_doorOf_20 rfl (lv_at hl 1 rfl) ?_
    refine lv_imul hx hb dX7_doorOf_21 ?_
    refine lv_iadd hx hb dX7_doorOf_22 ?_
    refine lv_iconst (v := 2) hx hb dX7_doorOf_23 (by decide) ?_
    refine lv_isub hx hb dX7_doorOf_24 ?_
    have b5 := h.1
    have h := h.2
    refine sw_ia (n := 228) hx hb hW (Nat.le_of_ble_eq_true rfl) sl_34 b5 dX7_doorOf_25 ?_
    refine lv_goto (tgt := 30) hx hb dX7_doorOf_26 (by decide) ?_
    exact sw_ri hx hb hr hlocks hW rfl h dX7_doorOf_30

theorem cv_X7_isRevoked : sw_cV yX7_isRevoked RX7 cX7_isRevoked 2 (some .boolean) 1 := ⟨q_1245, q_1246, q_9, q_1247, by decide +kernel⟩
def wX7_isRevoked (a1 : Int32) (M : sM) (Q : Int32 → sM → Prop) : Prop :=
  wX7_isEntry a1 M (fun r1 => wX7_isThere r1 M (fun r2 M3 => (r2 = 0 → (Q (0 : Int32) M3)) ∧ (¬ r2 = 0 → (wX7_revoked a1 M3 (fun r5 => (r5 = 0 → (Q (0 : Int32) M3)) ∧ (¬ r5 = 0 → (Q (1 : Int32) M3)))))))
set_option maxRecDepth 20000 in
theorem kX7_isRevoked (l : Launch) (g : sG) (o : Nat → Int64) (d : Nat → UInt64) (a1 : Int32) (M : sM) (Q : Int32 → sM → Prop) (h : wX7_isRevoked a1 M Q) : Met l yX7_isRevoked (sw_ws yX7_isRevoked cX7_isRevoked 2 (some .boolean)) { frames := 2, cells := 0, slots := 0, locals := 43 } (va_Pc [.ref (sw_ad g 33), .int a1] (sw_Pr g o d M)) (va_Qi Q (sw_Po g o d) (sw_A g)) 0 0 (sw_A g) := by
  refine sw_met (by decide) (Nat.le_of_ble_eq_true rfl) ?_
  intro p e s m args below meth c ls hx hb hr hts hown hml hlocks hW hl
  have hown : s.vm.findClass RX7 = some m.cls := hown
  have hl : lv_has ls 2 [(0, .ref (sw_ad g 33)), (1, .int a1)] := hl
  unfold wX7_isRevoked at h
  refine lv_aload_n hx hb dX7_isRevoked_0 rfl (lv_at hl 0 rfl) ?_
  refine lv_aload_n hx hb dX7_isRevoked_1 rfl (lv_at hl 0 rfl) ?_
  refine lv_iload_n hx hb dX7_isRevoked_2 rfl (lv_at hl 1 rfl) ?_
  refine sw_ki (rest := [.ref (sw_ad g 33)]) (sw_runV (As := [.int a1]) (rest := [.ref (sw_ad g 33)]) hx hb hml hown hts (kX7_isEntry l g o d a1 M _ h) cv_X7_isEntry q_1129 rfl rfl ⟨(Nat.le_of_ble_eq_true rfl), (Nat.le_of_ble_eq_true rfl)⟩ hW (Nat.le_of_ble_eq_true rfl) sl_33 rfl rfl hl.1 rfl (Nat.le_of_ble_eq_true rfl) dX7_isRevoked_3 ⟨(Nat.le_of_ble_eq_true rfl), (Nat.le_of_ble_eq_true rfl)⟩) hW (fun r1 M8 H locs h hW => ?_)
  obtain ⟨h, eM8⟩ := h
  rw [eM8] at hW
  refine sw_ki (rest := []) (sw_runV (As := [.int r1]) (rest := []) hx hb hml hown hts (kX7_isThere l g o d r1 M _ h) cv_X7_isThere q_1143 rfl rfl ⟨(Nat.le_of_ble_eq_true rfl), (Nat.le_of_ble_eq_true rfl)⟩ hW (Nat.le_of_ble_eq_true rfl) sl_33 rfl rfl hl.1 rfl (Nat.le_of_ble_eq_true rfl) dX7_isRevoked_6 ⟨(Nat.le_of_ble_eq_true rfl), (Nat.le_of_ble_eq_true rfl)⟩) hW (fun r2 M3 H locs h hW => ?_)
  refine lv_if_eq (tgt := 24) hx hb dX7_isRevoked_9 (by decide) (fun k4 => ?_) (fun k4 => ?_)
  · have h := h.1 k4
    refine lv_iconst (v := 0) hx hb dX7_isRevoked_24 (by decide) ?_
    exact sw_ri hx hb hr hlocks hW (by decide) h dX7_isRevoked_25
  · have h := h.2 k4
    refine lv_aload_n hx hb dX7_isRevoked_12 rfl (lv_at hl 0 rfl) ?_
    refine lv_iload_n hx hb dX7_isRevoked_13 rfl (lv_at hl 1 rfl) ?_
    refine sw_ki (rest := []) (sw_runV (As := [.int a1]) (rest := []) hx hb hml hown hts (kX7_revoked l g o d a1 M3 _ h) cv_X7_revoked q_1132 rfl rfl ⟨(Nat.le_of_ble_eq_true rfl), (Nat.le_of_ble_eq_true rfl)⟩ hW (Nat.le_of_ble_eq_true rfl) sl_33 rfl rfl hl.1 rfl (Nat.le_of_ble_eq_true rfl) dX7_isRevoked_14 ⟨(Nat.le_of_ble_eq_true rfl), (Nat.le_of_ble_eq_true rfl)⟩) hW (fun r5 M7 H locs h hW => ?_)
    obtain ⟨h, eM7⟩ := h
    rw [eM7] at hW
    refine lv_if_eq (tgt := 24) hx hb dX7_isRevoked_17 (by decide) (fun k6 => ?_) (fun k6 => ?_)
    · have h := h.1 k6
      refine lv_iconst (v := 0) hx hb dX7_isRevoked_24 (by decide) ?_
      exact sw_ri hx hb hr hlocks hW (by decide) h dX7_isRevoked_25
    · have h := h.2 k6
      refine lv_iconst (v := 1) hx hb dX7_isRevoked_20 (by decide) ?_
      refine lv_goto (tgt := 25) hx hb dX7_isRevoked_21 (by decide) ?_
      exact sw_ri hx hb hr hlocks hW (by decide) h dX7_isRevoked_25

def lX7_assignments_9 (M1 : sM) (K9 : Int32 → Prop) : Nat → Int32 → Int32 → Prop
  | 0, _, _ => False
  | n9 + 1, x1_9, x2_9 => ((M1 34 ((1 : Int32)).toNatClampNeg) ≤ x2_9 → (K9 x1_9)) ∧ (¬ (M1 34 ((1 : Int32)).toNatClampNeg) ≤ x2_9 → (wX7_loadOf x2_9 M1 (fun r3 => ∀ v4 : Int32, v4 = (x1_9 + r3) → (∀ v5 : Int32, v5 = x2_9 + (1 : Int32) → ((fun x1_9 x2_9 => lX7_assignments_9 M1 K9 n9 x1_9 x2_9) v4 v5)))))
theorem cv_X7_assignments : sw_cV yX7_assignments RX7 cX7_assignments 3 (some .int) 0 := ⟨q_1249, q_1250, q_9, q_1251, by decide +kernel⟩
def wX7_assignments  (M : sM) (Q : Int32 → sM → Prop) : Prop :=
  ∀ M1 : sM, M1 = sw_ms M 33 6 (0 : Int32) → (∃ n9, lX7_assignments_9 M1 (fun x1_9k => Q x1_9k M1) n9 (0 : Int32) (0 : Int32))
set_option maxRecDepth 20000 in
theorem kX7_assignments (l : Launch) (g : sG) (o : Nat → Int64) (d : Nat → UInt64)  (M : sM) (Q : Int32 → sM → Prop) (h : wX7_assignments  M Q) : Met l yX7_assignments (sw_ws yX7_assignments cX7_assignments 3 (some .int)) { frames := 2, cells := 0, slots := 0, locals := 46 } (va_Pc [.ref (sw_ad g 33)] (sw_Pr g o d M)) (va_Qi Q (sw_Po g o d) (sw_A g)) 0 0 (sw_A g) := by
  refine sw_met (by decide) (Nat.le_of_ble_eq_true rfl) ?_
  intro p e s m args below meth c ls hx hb hr hts hown hml hlocks hW hl
  have hown : s.vm.findClass RX7 = some m.cls := hown
  have hl : lv_has ls 3 [(0, .ref (sw_ad g 33))] := hl
  unfold wX7_assignments at h
  refine lv_aload_n hx hb dX7_assignments_0 rfl (lv_at hl 0 rfl) ?_
  refine lv_iconst (v := 0) hx hb dX7_assignments_1 (by decide) ?_
  refine sw_pi (j := 6) hx hb hts hown hW rfl qf_7 tyX7 tyX7_ok nmX7 (Nat.le_of_ble_eq_true rfl) sl_33 rfl (Nat.le_of_ble_eq_true rfl) q_950 rfl rfl rfl dX7_assignments_2 (fun H locs hW => ?_)
  obtain ⟨M1, eM1⟩ : ∃ z : sM, z = sw_ms M 33 6 (0 : Int32) := ⟨_, rfl⟩
  rw [← eM1] at hW
  have h := h M1 eM1
  refine lv_iconst (v := 0) hx hb dX7_assignments_5 (by decide) ?_
  refine lv_istore_n (lv' := [(1, .int (0 : Int32)), (0, .ref (sw_ad g 33))]) hx hb dX7_assignments_6 rfl hl (Nat.le_of_ble_eq_true rfl) rfl (fun ls hl => ?_)
  refine lv_iconst (v := 0) hx hb dX7_assignments_7 (by decide) ?_
  refine lv_istore_n (lv' := [(2, .int (0 : Int32)), (1, .int (0 : Int32)), (0, .ref (sw_ad g 33))]) hx hb dX7_assignments_8 rfl hl (Nat.le_of_ble_eq_true rfl) rfl (fun ls hl => ?_)
  obtain ⟨n9, h⟩ := h
  refine sw_lp_ii (hd := 9) (Lf := fun x1_9 x2_9 => [(0, .ref (sw_ad g 33)), (1, .int x1_9), (2, .int x2_9)]) h hW (lv_sub hl [2, 1, 0] rfl) (fun _ _ h => h) (fun n9 ih9 x1_9 x2_9 H locs ls h hW hl => ?_)
  rw [lX7_assignments_9.eq_2] at h
  refine lv_iload_n hx hb dX7_assignments_9 rfl (lv_at hl 2 rfl) ?_
  refine lv_aload_n hx hb dX7_assignments_10 rfl (lv_at hl 0 rfl) ?_
  refine sw_gr (j := 0) (r := 34) hx hb hts hown hW rfl qf_7 (Nat.le_of_ble_eq_true rfl) sl_33 rfl (Nat.le_of_ble_eq_true rfl) q_944 dX7_assignments_11 ?_
  refine lv_iconst (v := 1) hx hb dX7_assignments_14 (by decide) ?_
  refine sw_ia (n := 228) hx hb hW (Nat.le_of_ble_eq_true rfl) sl_34 (vp_in_iff.mpr (by decide)) dX7_assignments_15 ?_
  refine lv_icmp_ge (tgt := 33) hx hb dX7_assignments_16 (by decide) (fun k2 => ?_) (fun k2 => ?_)
  · have h := h.1 k2
    refine lv_iload_n hx hb dX7_assignments_33 rfl (lv_at hl 1 rfl) ?_
    exact sw_ri hx hb hr hlocks hW rfl h dX7_assignments_34
  · have h := h.2 k2
    refine lv_iload_n hx hb dX7_assignments_19 rfl (lv_at hl 1 rfl) ?_
    refine lv_aload_n hx hb dX7_assignments_20 rfl (lv_at hl 0 rfl) ?_
    refine lv_iload_n hx hb dX7_assignments_21 rfl (lv_at hl 2 rfl) ?_
    refine sw_ki (rest := [.int x1_9]) (sw_runV (As := [.int x2_9]) (rest := [.int x1_9]) hx hb hml hown hts (kX7_loadOf l g o d x2_9 M1 _ h) cv_X7_loadOf q_1046 rfl rfl ⟨(Nat.le_of_ble_eq_true rfl), (Nat.le_of_ble_eq_true rfl)⟩ hW (Nat.le_of_ble_eq_true rfl) sl_33 rfl rfl hl.1 rfl (Nat.le_of_ble_eq_true rfl) dX7_assignments_22 ⟨(Nat.le_of_ble_eq_true rfl), (Nat.le_of_ble_eq_true rfl)⟩) hW (fun r3 M6 H locs h hW => ?_)
    obtain ⟨h, eM6⟩ := h
    rw [eM6] at hW
    refine lv_iadd hx hb dX7_assignments_25 ?_
    refine lv_topi (fun v4 ev4 => ?_)
    have h := h v4 ev4
    refine lv_istore_n (lv' := [(1, .int v4), (0, .ref (sw_ad g 33)), (2, .int x2_9)]) hx hb dX7_assignments_26 rfl hl (Nat.le_of_ble_eq_true rfl) rfl (fun ls hl => ?_)
    obtain ⟨v5, ev5⟩ : ∃ z : Int32, z = x2_9 + (1 : Int32) := ⟨_, rfl⟩
    have h := h v5 ev5
    refine lv_iinc (v := v5) (lv' := [(2, .int v5), (1, .int v4), (0, .ref (sw_ad g 33))]) hx hb dX7_assignments_27 hl (k := 2) rfl (by rw [ev5]; rfl) (Nat.le_of_ble_eq_true rfl) rfl (fun ls hl => ?_)
    refine lv_goto (tgt := 9) hx hb dX7_assignments_30 (by decide) ?_
    exact ih9 _ _ _ _ _ h hW (lv_sub hl [2, 1, 0] rfl)

theorem cv_X7_assignmentsByDoors : sw_cV yX7_assignmentsByDoors RX7 cX7_assignmentsByDoors 1 (some .int) 0 := ⟨q_1253, q_1254, q_9, q_1255, by decide +kernel⟩
def wX7_assignmentsByDoors  (M : sM) (Q : Int32 → sM → Prop) : Prop :=
  wX7_assignments M (fun r1 M2 => Q r1 M2)
set_option maxRecDepth 20000 in
theorem kX7_assignmentsByDoors (l : Launch) (g : sG) (o : Nat → Int64) (d : Nat → UInt64)  (M : sM) (Q : Int32 → sM → Prop) (h : wX7_assignmentsByDoors  M Q) : Met l yX7_assignmentsByDoors (sw_ws yX7_assignmentsByDoors cX7_assignmentsByDoors 1 (some .int)) { frames := 3, cells := 0, slots := 0, locals := 68 } (va_Pc [.ref (sw_ad g 33)] (sw_Pr g o d M)) (va_Qi Q (sw_Po g o d) (sw_A g)) 0 0 (sw_A g) := by
  refine sw_met (by decide) (Nat.le_of_ble_eq_true rfl) ?_
  intro p e s m args below meth c ls hx hb hr hts hown hml hlocks hW hl
  have hown : s.vm.findClass RX7 = some m.cls := hown
  have hl : lv_has ls 1 [(0, .ref (sw_ad g 33))] := hl
  unfold wX7_assignmentsByDoors at h
  refine lv_aload_n hx hb dX7_assignmentsByDoors_0 rfl (lv_at hl 0 rfl) ?_
  refine sw_ki (rest := []) (sw_runV (As := []) (rest := []) hx hb hml hown hts (kX7_assignments l g o d M _ h) cv_X7_assignments q_1256 rfl rfl ⟨(Nat.le_of_ble_eq_true rfl), (Nat.le_of_ble_eq_true rfl)⟩ hW (Nat.le_of_ble_eq_true rfl) sl_33 rfl rfl hl.1 rfl (Nat.le_of_ble_eq_true rfl) dX7_assignmentsByDoors_1 ⟨(Nat.le_of_ble_eq_true rfl), (Nat.le_of_ble_eq_true rfl)⟩) hW (fun r1 M2 H locs h hW => ?_)
  exact sw_ri hx hb hr hlocks hW rfl h dX7_assignmentsByDoors_4

def lX7_gradeSum_4 (M : sM) (K4 : Int32 → Prop) : Nat → Int32 → Int32 → Prop
  | 0, _, _ => False
  | n4 + 1, x1_4, x2_4 => ((48 : Int32) ≤ x2_4 → (K4 x1_4)) ∧ (¬ (48 : Int32) ≤ x2_4 → (vp_in (((68 : Int32) + ((3 : Int32) * x2_4)) + (2 : Int32)) 228 ∧ (∀ v3 : Int32, v3 = (if (0 : Int32) < ((M 34 ((((68 : Int32) + ((3 : Int32) * x2_4)) + (2 : Int32))).toNatClampNeg) - (1 : Int32)) then ((M 34 ((((68 : Int32) + ((3 : Int32) * x2_4)) + (2 : Int32))).toNatClampNeg) - (1 : Int32)) else (0 : Int32)) → (∀ v4 : Int32, v4 = (x1_4 + v3) → (∀ v5 : Int32, v5 = x2_4 + (1 : Int32) → ((fun x1_4 x2_4 => lX7_gradeSum_4 M K4 n4 x1_4 x2_4) v4 v5))))))
theorem cv_X7_gradeSum : sw_cV yX7_gradeSum RX7 cX7_gradeSum 3 (some .int) 0 := ⟨q_1262, q_1406, q_9, q_1263, by decide +kernel⟩
def wX7_gradeSum  (M : sM) (Q : Int32 → Prop) : Prop :=
  ∃ n4, lX7_gradeSum_4 M (fun x1_4k => Q x1_4k) n4 (0 : Int32) (0 : Int32)
set_option maxRecDepth 20000 in
theorem kX7_gradeSum (l : Launch) (g : sG) (o : Nat → Int64) (d : Nat → UInt64)  (M : sM) (Q : Int32 → Prop) (h : wX7_gradeSum  M Q) : Met l yX7_gradeSum (sw_ws yX7_gradeSum cX7_gradeSum 3 (some .int)) { frames := 1, cells := 0, slots := 0, locals := 21 } (va_Pc [.ref (sw_ad g 33)] (sw_Pr g o d M)) (va_Qi (fun r M1 => Q r ∧ M1 = M) (sw_Po g o d) (sw_A g)) 0 0 (sw_A g) := by
  refine sw_met (by decide) (Nat.le_of_ble_eq_true rfl) ?_
  intro p e s m args below meth c ls hx hb hr hts hown hml hlocks hW hl
  have hown : s.vm.findClass RX7 = some m.cls := hown
  have hl : lv_has ls 3 [(0, .ref (sw_ad g 33))] := hl
  unfold wX7_gradeSum at h
  refine lv_iconst (v := 0) hx hb dX7_gradeSum_0 (by decide) ?_
  refine lv_istore_n (lv' := [(1, .int (0 : Int32)), (0, .ref (sw_ad g 33))]) hx hb dX7_gradeSum_1 rfl hl (Nat.le_of_ble_eq_true rfl) rfl (fun ls hl => ?_)
  refine lv_iconst (v := 0) hx hb dX7_gradeSum_2 (by decide) ?_
  refine lv_istore_n (lv' := [(2, .int (0 : Int32)), (1, .int (0 : Int32)), (0, .ref (sw_ad g 33))]) hx hb dX7_gradeSum_3 rfl hl (Nat.le_of_ble_eq_true rfl) rfl (fun ls hl => ?_)
  obtain ⟨n4, h⟩ := h
  refine sw_lp_ii (hd := 4) (Lf := fun x1_4 x2_4 => [(0, .ref (sw_ad g 33)), (1, .int x1_4), (2, .int x2_4)]) h hW (lv_sub hl [2, 1, 0] rfl) (fun _ _ h => h) (fun n4 ih4 x1_4 x2_4 H locs ls h hW hl => ?_)
  rw [lX7_gradeSum_4.eq_2] at h
  refine lv_iload_n hx hb dX7_gradeSum_4 rfl (lv_at hl 2 rfl) ?_
  refine lv_bipush (v := 48) hx hb dX7_gradeSum_5 (by decide) ?_
  refine lv_icmp_ge (tgt := 38) hx hb dX7_gradeSum_7 (by decide) (fun k1 => ?_) (fun k1 => ?_)
  · have h := h.1 k1
    refine lv_iload_n hx hb dX7_gradeSum_38 rfl (lv_at hl 1 rfl) ?_
    exact sw_ri hx hb hr hlocks hW rfl ⟨h, rfl⟩ dX7_gradeSum_39
  · have h := h.2 k1
    refine lv_iload_n hx hb dX7_gradeSum_10 rfl (lv_at hl 1 rfl) ?_
    refine lv_iconst (v := 0) hx hb dX7_gradeSum_11 (by decide) ?_
    refine lv_aload_n hx hb dX7_gradeSum_12 rfl (lv_at hl 0 rfl) ?_
    refine sw_gr (j := 0) (r := 34) hx hb hts hown hW rfl qf_7 (Nat.le_of_ble_eq_true rfl) sl_33 rfl (Nat.le_of_ble_eq_true rfl) q_944 dX7_gradeSum_13 ?_
    refine lv_bipush (v := 68) hx hb dX7_gradeSum_16 (by decide) ?_
    refine lv_iconst (v := 3) hx hb dX7_gradeSum_18 (by decide) ?_
    refine lv_iload_n hx hb dX7_gradeSum_19 rfl (lv_at hl 2 rfl) ?_
    refine lv_imul hx hb dX7_gradeSum_20 ?_
    refine lv_iadd hx hb dX7_gradeSum_21 ?_
    refine lv_iconst (v := 2) hx hb dX7_gradeSum_22 (by decide) ?_
    refine lv_iadd hx hb dX7_gradeSum_23 ?_
    have b2 := h.1
    have h := h.2
    refine sw_ia (n := 228) hx hb hW (Nat.le_of_ble_eq_true rfl) sl_34 b2 dX7_gradeSum_24 ?_
    refine lv_iconst (v := 1) hx hb dX7_gradeSum_25 (by decide) ?_
    refine lv_isub hx hb dX7_gradeSum_26 ?_
    refine va_mmax hx hb (hml.trans hl.1.symm) hown (sw_w hts q_1101) (sw_w hts q_337) (sw_w hts q_18) (sw_w hts q_338) (Nat.le_of_ble_eq_true rfl) (Nat.le_of_ble_eq_true rfl) (Nat.le_of_ble_eq_true rfl) (Nat.le_of_ble_eq_true rfl) dX7_gradeSum_27 ?_
    refine lv_topi (fun v3 ev3 => ?_)
    have h := h v3 ev3
    refine lv_iadd hx hb dX7_gradeSum_30 ?_
    refine lv_topi (fun v4 ev4 => ?_)
    have h := h v4 ev4
    refine lv_istore_n (lv' := [(1, .int v4), (0, .ref (sw_ad g 33)), (2, .int x2_4)]) hx hb dX7_gradeSum_31 rfl hl (Nat.le_of_ble_eq_true rfl) rfl (fun ls hl => ?_)
    obtain ⟨v5, ev5⟩ : ∃ z : Int32, z = x2_4 + (1 : Int32) := ⟨_, rfl⟩
    have h := h v5 ev5
    refine lv_iinc (v := v5) (lv' := [(2, .int v5), (1, .int v4), (0, .ref (sw_ad g 33))]) hx hb dX7_gradeSum_32 hl (k := 2) rfl (by rw [ev5]; rfl) (Nat.le_of_ble_eq_true rfl) rfl (fun ls hl => ?_)
    refine lv_goto (tgt := 4) hx hb dX7_gradeSum_35 (by decide) ?_
    exact ih4 _ _ _ _ _ h hW (lv_sub hl [2, 1, 0] rfl)

theorem cv_X7_gradeTotal : sw_cV yX7_gradeTotal RX7 cX7_gradeTotal 1 (some .long) 0 := ⟨q_1258, q_1259, q_9, q_1260, by decide +kernel⟩
def wX7_gradeTotal  (M : sM) (Q : Int64 → sM → Prop) : Prop :=
  ∀ M1 : sM, M1 = sw_ms M 33 6 (0 : Int32) → (wX7_gradeSum M1 (fun r2 => Q (r2).toInt64 M1))
set_option maxRecDepth 20000 in
theorem kX7_gradeTotal (l : Launch) (g : sG) (o : Nat → Int64) (d : Nat → UInt64)  (M : sM) (Q : Int64 → sM → Prop) (h : wX7_gradeTotal  M Q) : Met l yX7_gradeTotal (sw_ws yX7_gradeTotal cX7_gradeTotal 1 (some .long)) { frames := 2, cells := 0, slots := 0, locals := 43 } (va_Pc [.ref (sw_ad g 33)] (sw_Pr g o d M)) (va_Ql Q (sw_Po g o d) (sw_A g)) 0 0 (sw_A g) := by
  refine sw_met (by decide) (Nat.le_of_ble_eq_true rfl) ?_
  intro p e s m args below meth c ls hx hb hr hts hown hml hlocks hW hl
  have hown : s.vm.findClass RX7 = some m.cls := hown
  have hl : lv_has ls 1 [(0, .ref (sw_ad g 33))] := hl
  unfold wX7_gradeTotal at h
  refine lv_aload_n hx hb dX7_gradeTotal_0 rfl (lv_at hl 0 rfl) ?_
  refine lv_iconst (v := 0) hx hb dX7_gradeTotal_1 (by decide) ?_
  refine sw_pi (j := 6) hx hb hts hown hW rfl qf_7 tyX7 tyX7_ok nmX7 (Nat.le_of_ble_eq_true rfl) sl_33 rfl (Nat.le_of_ble_eq_true rfl) q_950 rfl rfl rfl dX7_gradeTotal_2 (fun H locs hW => ?_)
  obtain ⟨M1, eM1⟩ : ∃ z : sM, z = sw_ms M 33 6 (0 : Int32) := ⟨_, rfl⟩
  rw [← eM1] at hW
  have h := h M1 eM1
  refine lv_aload_n hx hb dX7_gradeTotal_5 rfl (lv_at hl 0 rfl) ?_
  refine sw_ki (rest := []) (sw_runV (As := []) (rest := []) hx hb hml hown hts (kX7_gradeSum l g o d M1 _ h) cv_X7_gradeSum q_1261 rfl rfl ⟨(Nat.le_of_ble_eq_true rfl), (Nat.le_of_ble_eq_true rfl)⟩ hW (Nat.le_of_ble_eq_true rfl) sl_33 rfl rfl hl.1 rfl (Nat.le_of_ble_eq_true rfl) dX7_gradeTotal_6 ⟨(Nat.le_of_ble_eq_true rfl), (Nat.le_of_ble_eq_true rfl)⟩) hW (fun r2 M3 H locs h hW => ?_)
  obtain ⟨h, eM3⟩ := h
  rw [eM3] at hW
  refine lv_i2l hx hb dX7_gradeTotal_9 rfl ?_
  exact sw_rl hx hb hr hlocks hW h dX7_gradeTotal_10

def jX7_meanGrade_38 (M : sM) (x1_4k : Int32) (Q : UInt64 → sM → Prop) (t0_38 : Int32) : Prop :=
  wX7_isThere t0_38 M (fun r1 M2 => (r1 = 0 → (Q FP.dconst0 M2)) ∧ (¬ r1 = 0 → (wX7_gradeSum M2 (fun r4 => vf_n64 (FP.ddiv (FP.i2d r4) (FP.i2d x1_4k)) ∧ (Q (FP.ddiv (FP.i2d r4) (FP.i2d x1_4k)) M2)))))
def lX7_meanGrade_4 (M : sM) (K4 : Int32 → Prop) : Nat → Int32 → Int32 → Prop
  | 0, _, _ => False
  | n4 + 1, x1_4, x2_4 => ((M 34 ((0 : Int32)).toNatClampNeg) ≤ x2_4 → (K4 x1_4)) ∧ (¬ (M 34 ((0 : Int32)).toNatClampNeg) ≤ x2_4 → (wX7_gradesAt x2_4 M (fun r16 => ∀ v17 : Int32, v17 = (x1_4 + r16) → (∀ v18 : Int32, v18 = x2_4 + (1 : Int32) → ((fun x1_4 x2_4 => lX7_meanGrade_4 M K4 n4 x1_4 x2_4) v17 v18)))))
theorem cv_X7_meanGrade : sw_cV yX7_meanGrade RX7 cX7_meanGrade 3 (some .double) 0 := ⟨q_1265, q_1266, q_9, q_1267, by decide +kernel⟩
def wX7_meanGrade  (M : sM) (Q : UInt64 → sM → Prop) : Prop :=
  ∃ n4, lX7_meanGrade_4 M (fun x1_4k => (x1_4k ≤ 0 → (jX7_meanGrade_38 M x1_4k Q (0 : Int32))) ∧ (¬ x1_4k ≤ 0 → (jX7_meanGrade_38 M x1_4k Q (1 : Int32)))) n4 (0 : Int32) (0 : Int32)
set_option maxRecDepth 20000 in
theorem kX7_meanGrade (l : Launch) (g : sG) (o : Nat → Int64) (d : Nat → UInt64)  (M : sM) (Q : UInt64 → sM → Prop) (h : wX7_meanGrade  M Q) : Met l yX7_meanGrade (sw_ws yX7_meanGrade cX7_meanGrade 3 (some .double)) { frames := 2, cells := 0, slots := 0, locals := 46 } (va_Pc [.ref (sw_ad g 33)] (sw_Pr g o d M)) (va_Qd Q (sw_Po g o d) (sw_A g)) 0 0 (sw_A g) := by
  refine sw_met (by decide) (Nat.le_of_ble_eq_true rfl) ?_
  intro p e s m args below meth c ls hx hb hr hts hown hml hlocks hW hl
  have hown : s.vm.findClass RX7 = some m.cls := hown
  have hl : lv_has ls 3 [(0, .ref (sw_ad g 33))] := hl
  unfold wX7_meanGrade at h
  refine lv_iconst (v := 0) hx hb dX7_meanGrade_0 (by decide) ?_
  refine lv_istore_n (lv' := [(1, .int (0 : Int32)), (0, .ref (sw_ad g 33))]) hx hb dX7_meanGrade_1 rfl hl (Nat.le_of_ble_eq_true rfl) rfl (fun ls hl => ?_)
  refine lv_iconst (v := 0) hx hb dX7_meanGrade_2 (by decide) ?_
  refine lv_istore_n (lv' := [(2, .int (0 : Int32)), (1, .int (0 : Int32)), (0, .ref (sw_ad g 33))]) hx hb dX7_meanGrade_3 rfl hl (Nat.le_of_ble_eq_true rfl) rfl (fun ls hl => ?_)
  obtain ⟨n4, h⟩ := h
  refine sw_lp_ii (hd := 4) (Lf := fun x1_4 x2_4 => [(0, .ref (sw_ad g 33)), (1, .int x1_4), (2, .int x2_4)]) h hW (lv_sub hl [2, 1, 0] rfl) (fun _ _ h => h) (fun n4 ih4 x1_4 x2_4 H locs ls h hW hl => ?_)
  rw [lX7_meanGrade_4.eq_2] at h
  refine lv_iload_n hx hb dX7_meanGrade_4 rfl (lv_at hl 2 rfl) ?_
  refine lv_aload_n hx hb dX7_meanGrade_5 rfl (lv_at hl 0 rfl) ?_
  refine sw_gr (j := 0) (r := 34) hx hb hts hown hW rfl qf_7 (Nat.le_of_ble_eq_true rfl) sl_33 rfl (Nat.le_of_ble_eq_true rfl) q_944 dX7_meanGrade_6 ?_
  refine lv_iconst (v := 0) hx hb dX7_meanGrade_9 (by decide) ?_
  refine sw_ia (n := 228) hx hb hW (Nat.le_of_ble_eq_true rfl) sl_34 (vp_in_iff.mpr (by decide)) dX7_meanGrade_10 ?_
  refine lv_icmp_ge (tgt := 28) hx hb dX7_meanGrade_11 (by decide) (fun k8 => ?_) (fun k8 => ?_)
  · have h := h.1 k8
    refine lv_aload_n hx hb dX7_meanGrade_28 rfl (lv_at hl 0 rfl) ?_
    refine lv_iload_n hx hb dX7_meanGrade_29 rfl (lv_at hl 1 rfl) ?_
    refine sw_jn_i (g := g) (o := o) (d := d) (nL := 3) (M := M) (jp := 38) (J := fun t0_38 => jX7_meanGrade_38 M x1_4 Q t0_38) (Lf := fun t0_38 => [(0, .ref (sw_ad g 33)), (1, .int x1_4)]) (Sf := fun t0_38 => [.int t0_38, .ref (sw_ad g 33)]) (fun t0_38 H locs ls h hW hl => ?_) (fun hJ38 => ?_)
    · unfold jX7_meanGrade_38 at h
      refine sw_ki (rest := []) (sw_runV (As := [.int t0_38]) (rest := []) hx hb hml hown hts (kX7_isThere l g o d t0_38 M _ h) cv_X7_isThere q_1143 rfl rfl ⟨(Nat.le_of_ble_eq_true rfl), (Nat.le_of_ble_eq_true rfl)⟩ hW (Nat.le_of_ble_eq_true rfl) sl_33 rfl rfl hl.1 rfl (Nat.le_of_ble_eq_true rfl) dX7_meanGrade_38 ⟨(Nat.le_of_ble_eq_true rfl), (Nat.le_of_ble_eq_true rfl)⟩) hW (fun r9 M10 H locs h hW => ?_)
      refine lv_if_eq (tgt := 55) hx hb dX7_meanGrade_41 (by decide) (fun k11 => ?_) (fun k11 => ?_)
      · have h := h.1 k11
        refine lv_dconst0 hx hb dX7_meanGrade_55 ?_
        exact sw_rd hx hb hr hlocks hW h dX7_meanGrade_56
      · have h := h.2 k11
        refine lv_aload_n hx hb dX7_meanGrade_44 rfl (lv_at hl 0 rfl) ?_
        refine sw_ki (rest := []) (sw_runV (As := []) (rest := []) hx hb hml hown hts (kX7_gradeSum l g o d M10 _ h) cv_X7_gradeSum q_1261 rfl rfl ⟨(Nat.le_of_ble_eq_true rfl), (Nat.le_of_ble_eq_true rfl)⟩ hW (Nat.le_of_ble_eq_true rfl) sl_33 rfl rfl hl.1 rfl (Nat.le_of_ble_eq_true rfl) dX7_meanGrade_45 ⟨(Nat.le_of_ble_eq_true rfl), (Nat.le_of_ble_eq_true rfl)⟩) hW (fun r12 M14 H locs h hW => ?_)
        obtain ⟨h, eM14⟩ := h
        rw [eM14] at hW
        refine lv_i2d hx hb dX7_meanGrade_48 ?_
        refine lv_iload_n hx hb dX7_meanGrade_49 rfl (lv_at hl 1 rfl) ?_
        refine lv_i2d hx hb dX7_meanGrade_50 ?_
        have z13 := h.1
        have h := h.2
        refine lv_ddiv hx hb dX7_meanGrade_51 z13 ?_
        refine lv_goto (tgt := 56) hx hb dX7_meanGrade_52 (by decide) ?_
        exact sw_rd hx hb hr hlocks hW h dX7_meanGrade_56
    · refine lv_if_le (tgt := 37) hx hb dX7_meanGrade_30 (by decide) (fun k15 => ?_) (fun k15 => ?_)
      · have h := h.1 k15
        refine lv_iconst (v := 0) hx hb dX7_meanGrade_37 (by decide) ?_
        exact hJ38 _ _ _ _ h hW (lv_sub hl [0, 1] rfl)
      · have h := h.2 k15
        refine lv_iconst (v := 1) hx hb dX7_meanGrade_33 (by decide) ?_
        refine lv_goto (tgt := 38) hx hb dX7_meanGrade_34 (by decide) ?_
        exact hJ38 _ _ _ _ h hW (lv_sub hl [0, 1] rfl)
  · have h := h.2 k8
    refine lv_iload_n hx hb dX7_meanGrade_14 rfl (lv_at hl 1 rfl) ?_
    refine lv_aload_n hx hb dX7_meanGrade_15 rfl (lv_at hl 0 rfl) ?_
    refine lv_iload_n hx hb dX7_meanGrade_16 rfl (lv_at hl 2 rfl) ?_
    refine sw_ki (rest := [.int x1_4]) (sw_runV (As := [.int x2_4]) (rest := [.int x1_4]) hx hb hml hown hts (kX7_gradesAt l g o d x2_4 M _ h) cv_X7_gradesAt q_1081 rfl rfl ⟨(Nat.le_of_ble_eq_true rfl), (Nat.le_of_ble_eq_true rfl)⟩ hW (Nat.le_of_ble_eq_true rfl) sl_33 rfl rfl hl.1 rfl (Nat.le_of_ble_eq_true rfl) dX7_meanGrade_17 ⟨(Nat.le_of_ble_eq_true rfl), (Nat.le_of_ble_eq_true rfl)⟩) hW (fun r16 M19 H locs h hW => ?_)
    obtain ⟨h, eM19⟩ := h
    rw [eM19] at hW
    refine lv_iadd hx hb dX7_meanGrade_20 ?_
    refine lv_topi (fun v17 ev17 => ?_)
    have h := h v17 ev17
    refine lv_istore_n (lv' := [(1, .int v17), (0, .ref (sw_ad g 33)), (2, .int x2_4)]) hx hb dX7_meanGrade_21 rfl hl (Nat.le_of_ble_eq_true rfl) rfl (fun ls hl => ?_)
    obtain ⟨v18, ev18⟩ : ∃ z : Int32, z = x2_4 + (1 : Int32) := ⟨_, rfl⟩
    have h := h v18 ev18
    refine lv_iinc (v := v18) (lv' := [(2, .int v18), (1, .int v17), (0, .ref (sw_ad g 33))]) hx hb dX7_meanGrade_22 hl (k := 2) rfl (by rw [ev18]; rfl) (Nat.le_of_ble_eq_true rfl) rfl (fun ls hl => ?_)
    refine lv_goto (tgt := 4) hx hb dX7_meanGrade_25 (by decide) ?_
    exact ih4 _ _ _ _ _ h hW (lv_sub hl [2, 1, 0] rfl)

def jX7_passShare_64 (M : sM) (x1_6k : Int32) (x2_6k : Int32) (Q : UInt32 → sM → Prop) (t0_64 : Int32) : Prop :=
  wX7_isThere t0_64 M (fun r1 M2 => (r1 = 0 → (Q FP.fconst0 M2)) ∧ (¬ r1 = 0 → (vf_n32 (FP.fdiv (FP.i2f x1_6k) (FP.i2f x2_6k)) ∧ (Q (FP.fdiv (FP.i2f x1_6k) (FP.i2f x2_6k)) M2))))
def jX7_passShare_30 (M : sM) (x1_6 : Int32) (x2_6 : Int32) (x3_6 : Int32) (N6 : Int32 → Int32 → Int32 → Prop) (t0_30 : Int32) : Prop :=
  ∀ v13 : Int32, v13 = (x1_6 + t0_30) → (wX7_resultOf x3_6 M (fun r14 => (r14 < 0 → (∀ v16 : Int32, v16 = (x2_6 + (0 : Int32)) → (∀ v17 : Int32, v17 = x3_6 + (1 : Int32) → (N6 v13 v16 v17)))) ∧ (¬ r14 < 0 → (∀ v18 : Int32, v18 = (x2_6 + (1 : Int32)) → (∀ v19 : Int32, v19 = x3_6 + (1 : Int32) → (N6 v13 v18 v19))))))
def lX7_passShare_6 (M : sM) (K6 : Int32 → Int32 → Prop) : Nat → Int32 → Int32 → Int32 → Prop
  | 0, _, _, _ => False
  | n6 + 1, x1_6, x2_6, x3_6 => ((M 34 ((0 : Int32)).toNatClampNeg) ≤ x3_6 → (K6 x1_6 x2_6)) ∧ (¬ (M 34 ((0 : Int32)).toNatClampNeg) ≤ x3_6 → (wX7_hasPassed x3_6 M (fun r12 => (r12 = 0 → (jX7_passShare_30 M x1_6 x2_6 x3_6 (fun x1_6 x2_6 x3_6 => lX7_passShare_6 M K6 n6 x1_6 x2_6 x3_6) (0 : Int32))) ∧ (¬ r12 = 0 → (jX7_passShare_30 M x1_6 x2_6 x3_6 (fun x1_6 x2_6 x3_6 => lX7_passShare_6 M K6 n6 x1_6 x2_6 x3_6) (1 : Int32))))))
theorem cv_X7_passShare : sw_cV yX7_passShare RX7 cX7_passShare 4 (some .float) 0 := ⟨q_1269, q_1270, q_9, q_1271, by decide +kernel⟩
def wX7_passShare  (M : sM) (Q : UInt32 → sM → Prop) : Prop :=
  ∃ n6, lX7_passShare_6 M (fun x1_6k x2_6k => (x2_6k ≤ 0 → (jX7_passShare_64 M x1_6k x2_6k Q (0 : Int32))) ∧ (¬ x2_6k ≤ 0 → (jX7_passShare_64 M x1_6k x2_6k Q (1 : Int32)))) n6 (0 : Int32) (0 : Int32) (0 : Int32)
set_option maxRecDepth 20000 in
theorem kX7_passShare (l : Launch) (g : sG) (o : Nat → Int64) (d : Nat → UInt64)  (M : sM) (Q : UInt32 → sM → Prop) (h : wX7_passShare  M Q) : Met l yX7_passShare (sw_ws yX7_passShare cX7_passShare 4 (some .float)) { frames := 4, cells := 0, slots := 0, locals := 94 } (va_Pc [.ref (sw_ad g 33)] (sw_Pr g o d M)) (va_Qf Q (sw_Po g o d) (sw_A g)) 0 0 (sw_A g) := by
  refine sw_met (by decide) (Nat.le_of_ble_eq_true rfl) ?_
  intro p e s m args below meth c ls hx hb hr hts hown hml hlocks hW hl
  have hown : s.vm.findClass RX7 = some m.cls := hown
  have hl : lv_has ls 4 [(0, .ref (sw_ad g 33))] := hl
  unfold wX7_passShare at h
  refine lv_iconst (v := 0) hx hb dX7_passShare_0 (by decide) ?_
  refine lv_istore_n (lv' := [(1, .int (0 : Int32)), (0, .ref (sw_ad g 33))]) hx hb dX7_passShare_1 rfl hl (Nat.le_of_ble_eq_true rfl) rfl (fun ls hl => ?_)
  refine lv_iconst (v := 0) hx hb dX7_passShare_2 (by decide) ?_
  refine lv_istore_n (lv' := [(2, .int (0 : Int32)), (1, .int (0 : Int32)), (0, .ref (sw_ad g 33))]) hx hb dX7_passShare_3 rfl hl (Nat.le_of_ble_eq_true rfl) rfl (fun ls hl => ?_)
  refine lv_iconst (v := 0) hx hb dX7_passShare_4 (by decide) ?_
  refine lv_istore_n (lv' := [(3, .int (0 : Int32)), (2, .int (0 : Int32)), (1, .int (0 : Int32)), (0, .ref (sw_ad g 33))]) hx hb dX7_passShare_5 rfl hl (Nat.le_of_ble_eq_true rfl) rfl (fun ls hl => ?_)
  obtain ⟨n6, h⟩ := h
  refine sw_lp_iii (hd := 6) (Lf := fun x1_6 x2_6 x3_6 => [(0, .ref (sw_ad g 33)), (1, .int x1_6), (2, .int x2_6), (3, .int x3_6)]) h hW (lv_sub hl [3, 2, 1, 0] rfl) (fun _ _ _ h => h) (fun n6 ih6 x1_6 x2_6 x3_6 H locs ls h hW hl => ?_)
  rw [lX7_passShare_6.eq_2] at h
  refine lv_iload_n hx hb dX7_passShare_6 rfl (lv_at hl 3 rfl) ?_
  refine lv_aload_n hx hb dX7_passShare_7 rfl (lv_at hl 0 rfl) ?_
  refine sw_gr (j := 0) (r := 34) hx hb hts hown hW rfl qf_7 (Nat.le_of_ble_eq_true rfl) sl_33 rfl (Nat.le_of_ble_eq_true rfl) q_944 dX7_passShare_8 ?_
  refine lv_iconst (v := 0) hx hb dX7_passShare_11 (by decide) ?_
  refine sw_ia (n := 228) hx hb hW (Nat.le_of_ble_eq_true rfl) sl_34 (vp_in_iff.mpr (by decide)) dX7_passShare_12 ?_
  refine lv_icmp_ge (tgt := 54) hx hb dX7_passShare_13 (by decide) (fun k6 => ?_) (fun k6 => ?_)
  · have h := h.1 k6
    refine lv_aload_n hx hb dX7_passShare_54 rfl (lv_at hl 0 rfl) ?_
    refine lv_iload_n hx hb dX7_passShare_55 rfl (lv_at hl 2 rfl) ?_
    refine sw_jn_i (g := g) (o := o) (d := d) (nL := 4) (M := M) (jp := 64) (J := fun t0_64 => jX7_passShare_64 M x1_6 x2_6 Q t0_64) (Lf := fun t0_64 => [(1, .int x1_6), (2, .int x2_6)]) (Sf := fun t0_64 => [.int t0_64, .ref (sw_ad g 33)]) (fun t0_64 H locs ls h hW hl => ?_) (fun hJ64 => ?_)
    · unfold jX7_passShare_64 at h
      refine sw_ki (rest := []) (sw_runV (As := [.int t0_64]) (rest := []) hx hb hml hown hts (kX7_isThere l g o d t0_64 M _ h) cv_X7_isThere q_1143 rfl rfl ⟨(Nat.le_of_ble_eq_true rfl), (Nat.le_of_ble_eq_true rfl)⟩ hW (Nat.le_of_ble_eq_true rfl) sl_33 rfl rfl hl.1 rfl (Nat.le_of_ble_eq_true rfl) dX7_passShare_64 ⟨(Nat.le_of_ble_eq_true rfl), (Nat.le_of_ble_eq_true rfl)⟩) hW (fun r7 M8 H locs h hW => ?_)
      refine lv_if_eq (tgt := 78) hx hb dX7_passShare_67 (by decide) (fun k9 => ?_) (fun k9 => ?_)
      · have h := h.1 k9
        refine lv_fconst0 hx hb dX7_passShare_78 ?_
        exact sw_rf hx hb hr hlocks hW h dX7_passShare_79
      · have h := h.2 k9
        refine lv_iload_n hx hb dX7_passShare_70 rfl (lv_at hl 0 rfl) ?_
        refine lv_i2f hx hb dX7_passShare_71 ?_
        refine lv_iload_n hx hb dX7_passShare_72 rfl (lv_at hl 1 rfl) ?_
        refine lv_i2f hx hb dX7_passShare_73 ?_
        have z10 := h.1
        have h := h.2
        refine lv_fdiv hx hb dX7_passShare_74 z10 ?_
        refine lv_goto (tgt := 79) hx hb dX7_passShare_75 (by decide) ?_
        exact sw_rf hx hb hr hlocks hW h dX7_passShare_79
    · refine lv_if_le (tgt := 63) hx hb dX7_passShare_56 (by decide) (fun k11 => ?_) (fun k11 => ?_)
      · have h := h.1 k11
        refine lv_iconst (v := 0) hx hb dX7_passShare_63 (by decide) ?_
        exact hJ64 _ _ _ _ h hW (lv_sub hl [1, 2] rfl)
      · have h := h.2 k11
        refine lv_iconst (v := 1) hx hb dX7_passShare_59 (by decide) ?_
        refine lv_goto (tgt := 64) hx hb dX7_passShare_60 (by decide) ?_
        exact hJ64 _ _ _ _ h hW (lv_sub hl [1, 2] rfl)
  · have h := h.2 k6
    refine lv_iload_n hx hb dX7_passShare_16 rfl (lv_at hl 1 rfl) ?_
    refine lv_aload_n hx hb dX7_passShare_17 rfl (lv_at hl 0 rfl) ?_
    refine lv_iload_n hx hb dX7_passShare_18 rfl (lv_at hl 3 rfl) ?_
    refine sw_ki (rest := [.int x1_6]) (sw_runV (As := [.int x3_6]) (rest := [.int x1_6]) hx hb hml hown hts (kX7_hasPassed l g o d x3_6 M _ h) cv_X7_hasPassed q_1103 rfl rfl ⟨(Nat.le_of_ble_eq_true rfl), (Nat.le_of_ble_eq_true rfl)⟩ hW (Nat.le_of_ble_eq_true rfl) sl_33 rfl rfl hl.1 rfl (Nat.le_of_ble_eq_true rfl) dX7_passShare_19 ⟨(Nat.le_of_ble_eq_true rfl), (Nat.le_of_ble_eq_true rfl)⟩) hW (fun r12 M22 H locs h hW => ?_)
    obtain ⟨h, eM22⟩ := h
    rw [eM22] at hW
    refine sw_jn_i (g := g) (o := o) (d := d) (nL := 4) (M := M) (jp := 30) (J := fun t0_30 => jX7_passShare_30 M x1_6 x2_6 x3_6 (fun x1_6 x2_6 x3_6 => lX7_passShare_6 M (fun x1_6k x2_6k => (x2_6k ≤ 0 → (jX7_passShare_64 M x1_6k x2_6k Q (0 : Int32))) ∧ (¬ x2_6k ≤ 0 → (jX7_passShare_64 M x1_6k x2_6k Q (1 : Int32)))) n6 x1_6 x2_6 x3_6) t0_30) (Lf := fun t0_30 => [(0, .ref (sw_ad g 33)), (2, .int x2_6), (3, .int x3_6)]) (Sf := fun t0_30 => [.int t0_30, .int x1_6]) (fun t0_30 H locs ls h hW hl => ?_) (fun hJ30 => ?_)
    · unfold jX7_passShare_30 at h
      refine lv_iadd hx hb dX7_passShare_30 ?_
      refine lv_topi (fun v13 ev13 => ?_)
      have h := h v13 ev13
      refine lv_istore_n (lv' := [(1, .int v13), (0, .ref (sw_ad g 33)), (2, .int x2_6), (3, .int x3_6)]) hx hb dX7_passShare_31 rfl hl (Nat.le_of_ble_eq_true rfl) rfl (fun ls hl => ?_)
      refine lv_iload_n hx hb dX7_passShare_32 rfl (lv_at hl 2 rfl) ?_
      refine lv_aload_n hx hb dX7_passShare_33 rfl (lv_at hl 1 rfl) ?_
      refine lv_iload_n hx hb dX7_passShare_34 rfl (lv_at hl 3 rfl) ?_
      refine sw_ki (rest := [.int x2_6]) (sw_runV (As := [.int x3_6]) (rest := [.int x2_6]) hx hb hml hown hts (kX7_resultOf l g o d x3_6 M _ h) cv_X7_resultOf q_1098 rfl rfl ⟨(Nat.le_of_ble_eq_true rfl), (Nat.le_of_ble_eq_true rfl)⟩ hW (Nat.le_of_ble_eq_true rfl) sl_33 rfl rfl hl.1 rfl (Nat.le_of_ble_eq_true rfl) dX7_passShare_35 ⟨(Nat.le_of_ble_eq_true rfl), (Nat.le_of_ble_eq_true rfl)⟩) hW (fun r14 M20 H locs h hW => ?_)
      obtain ⟨h, eM20⟩ := h
      rw [eM20] at hW
      refine lv_if_lt (tgt := 45) hx hb dX7_passShare_38 (by decide) (fun k15 => ?_) (fun k15 => ?_)
      · have h := h.1 k15
        refine lv_iconst (v := 0) hx hb dX7_passShare_45 (by decide) ?_
        refine lv_iadd hx hb dX7_passShare_46 ?_
        refine lv_topi (fun v16 ev16 => ?_)
        have h := h v16 ev16
        refine lv_istore_n (lv' := [(2, .int v16), (1, .int v13), (0, .ref (sw_ad g 33)), (3, .int x3_6)]) hx hb dX7_passShare_47 rfl hl (Nat.le_of_ble_eq_true rfl) rfl (fun ls hl => ?_)
        obtain ⟨v17, ev17⟩ : ∃ z : Int32, z = x3_6 + (1 : Int32) := ⟨_, rfl⟩
        have h := h v17 ev17
        refine lv_iinc (v := v17) (lv' := [(3, .int v17), (2, .int v16), (1, .int v13), (0, .ref (sw_ad g 33))]) hx hb dX7_passShare_48 hl (k := 3) rfl (by rw [ev17]; rfl) (Nat.le_of_ble_eq_true rfl) rfl (fun ls hl => ?_)
        refine lv_goto (tgt := 6) hx hb dX7_passShare_51 (by decide) ?_
        exact ih6 _ _ _ _ _ _ h hW (lv_sub hl [3, 2, 1, 0] rfl)
      · have h := h.2 k15
        refine lv_iconst (v := 1) hx hb dX7_passShare_41 (by decide) ?_
        refine lv_goto (tgt := 46) hx hb dX7_passShare_42 (by decide) ?_
        refine lv_iadd hx hb dX7_passShare_46 ?_
        refine lv_topi (fun v18 ev18 => ?_)
        have h := h v18 ev18
        refine lv_istore_n (lv' := [(2, .int v18), (1, .int v13), (0, .ref (sw_ad g 33)), (3, .int x3_6)]) hx hb dX7_passShare_47 rfl hl (Nat.le_of_ble_eq_true rfl) rfl (fun ls hl => ?_)
        obtain ⟨v19, ev19⟩ : ∃ z : Int32, z = x3_6 + (1 : Int32) := ⟨_, rfl⟩
        have h := h v19 ev19
        refine lv_iinc (v := v19) (lv' := [(3, .int v19), (2, .int v18), (1, .int v13), (0, .ref (sw_ad g 33))]) hx hb dX7_passShare_48 hl (k := 3) rfl (by rw [ev19]; rfl) (Nat.le_of_ble_eq_true rfl) rfl (fun ls hl => ?_)
        refine lv_goto (tgt := 6) hx hb dX7_passShare_51 (by decide) ?_
        exact ih6 _ _ _ _ _ _ h hW (lv_sub hl [3, 2, 1, 0] rfl)
    · refine lv_if_eq (tgt := 29) hx hb dX7_passShare_22 (by decide) (fun k21 => ?_) (fun k21 => ?_)
      · have h := h.1 k21
        refine lv_iconst (v := 0) hx hb dX7_passShare_29 (by decide) ?_
        exact hJ30 _ _ _ _ h hW (lv_sub hl [0, 2, 3] rfl)
      · have h := h.2 k21
        refine lv_iconst (v := 1) hx hb dX7_passShare_25 (by decide) ?_
        refine lv_goto (tgt := 30) hx hb dX7_passShare_26 (by decide) ?_
        exact hJ30 _ _ _ _ h hW (lv_sub hl [0, 2, 3] rfl)

theorem cv_X7_isConsistent : sw_cV yX7_isConsistent RX7 cX7_isConsistent 1 (some .boolean) 0 := ⟨q_1273, q_1274, q_9, q_1275, by decide +kernel⟩
def wX7_isConsistent  (M : sM) (Q : Int32 → sM → Prop) : Prop :=
  ∀ M1 : sM, M1 = sw_ms M 33 6 (0 : Int32) → (Q (1 : Int32) M1)
set_option maxRecDepth 20000 in
theorem kX7_isConsistent (l : Launch) (g : sG) (o : Nat → Int64) (d : Nat → UInt64)  (M : sM) (Q : Int32 → sM → Prop) (h : wX7_isConsistent  M Q) : Met l yX7_isConsistent (sw_ws yX7_isConsistent cX7_isConsistent 1 (some .boolean)) { frames := 0, cells := 0, slots := 0, locals := 0 } (va_Pc [.ref (sw_ad g 33)] (sw_Pr g o d M)) (va_Qi Q (sw_Po g o d) (sw_A g)) 0 0 (sw_A g) := by
  refine sw_met (by decide) (Nat.le_of_ble_eq_true rfl) ?_
  intro p e s m args below meth c ls hx hb hr hts hown hml hlocks hW hl
  have hown : s.vm.findClass RX7 = some m.cls := hown
  have hl : lv_has ls 1 [(0, .ref (sw_ad g 33))] := hl
  unfold wX7_isConsistent at h
  refine lv_aload_n hx hb dX7_isConsistent_0 rfl (lv_at hl 0 rfl) ?_
  refine lv_iconst (v := 0) hx hb dX7_isConsistent_1 (by decide) ?_
  refine sw_pi (j := 6) hx hb hts hown hW rfl qf_7 tyX7 tyX7_ok nmX7 (Nat.le_of_ble_eq_true rfl) sl_33 rfl (Nat.le_of_ble_eq_true rfl) q_950 rfl rfl rfl dX7_isConsistent_2 (fun H locs hW => ?_)
  obtain ⟨M1, eM1⟩ : ∃ z : sM, z = sw_ms M 33 6 (0 : Int32) := ⟨_, rfl⟩
  rw [← eM1] at hW
  have h := h M1 eM1
  refine lv_iconst (v := 1) hx hb dX7_isConsistent_5 (by decide) ?_
  exact sw_ri hx hb hr hlocks hW (by decide) h dX7_isConsistent_6

def jX7_append_15 (a1 : Int32) (M : sM) (Q : Int32 → sM → Prop) (t0_15 : Int32) : Prop :=
  ∀ M1 : sM, M1 = sw_ms M 33 6 t0_15 → (((M1 33 6) ≤ 0 → (vp_in (M1 33 13) 60 ∧ (∀ M4 : sM, M4 = sw_ms M1 43 ((M1 33 13)).toNatClampNeg (vp_nar .char a1) → (∀ M5 : sM, M5 = sw_ms M4 33 13 ((M4 33 13) + (1 : Int32)) → (Q (M5 33 13) M5))))) ∧ (¬ (M1 33 6) ≤ 0 → (Q (0 : Int32) M1)))
theorem cv_X7_append : sw_cV yX7_append RX7 cX7_append 2 (some .int) 1 := ⟨q_1277, q_1278, q_9, q_1279, by decide +kernel⟩
def wX7_append (a1 : Int32) (M : sM) (Q : Int32 → sM → Prop) : Prop :=
  ((M 33 13) = (60 : Int32) → (jX7_append_15 a1 M Q (1 : Int32))) ∧ (¬ (M 33 13) = (60 : Int32) → (jX7_append_15 a1 M Q (0 : Int32)))
set_option maxRecDepth 20000 in
theorem kX7_append (l : Launch) (g : sG) (o : Nat → Int64) (d : Nat → UInt64) (a1 : Int32) (M : sM) (Q : Int32 → sM → Prop) (h : wX7_append a1 M Q) : Met l yX7_append (sw_ws yX7_append cX7_append 2 (some .int)) { frames := 0, cells := 0, slots := 0, locals := 0 } (va_Pc [.ref (sw_ad g 33), .int a1] (sw_Pr g o d M)) (va_Qi Q (sw_Po g o d) (sw_A g)) 0 0 (sw_A g) := by
  refine sw_met (by decide) (Nat.le_of_ble_eq_true rfl) ?_
  intro p e s m args below meth c ls hx hb hr hts hown hml hlocks hW hl
  have hown : s.vm.findClass RX7 = some m.cls := hown
  have hl : lv_has ls 2 [(0, .ref (sw_ad g 33)), (1, .int a1)] := hl
  unfold wX7_append at h
  refine lv_aload_n hx hb dX7_append_0 rfl (lv_at hl 0 rfl) ?_
  refine lv_aload_n hx hb dX7_append_1 rfl (lv_at hl 0 rfl) ?_
  refine sw_gi (j := 13) hx hb hts hown hW rfl qf_7 (Nat.le_of_ble_eq_true rfl) sl_33 rfl (Nat.le_of_ble_eq_true rfl) q_957 dX7_append_2 ?_
  refine lv_bipush (v := 60) hx hb dX7_append_5 (by decide) ?_
  refine sw_jn_i (g := g) (o := o) (d := d) (nL := 2) (M := M) (jp := 15) (J := fun t0_15 => jX7_append_15 a1 M Q t0_15) (Lf := fun t0_15 => [(0, .ref (sw_ad g 33)), (1, .int a1)]) (Sf := fun t0_15 => [.int t0_15, .ref (sw_ad g 33)]) (fun t0_15 H locs ls h hW hl => ?_) (fun hJ15 => ?_)
  · unfold jX7_append_15 at h
    refine sw_pi (j := 6) hx hb hts hown hW rfl qf_7 tyX7 tyX7_ok nmX7 (Nat.le_of_ble_eq_true rfl) sl_33 rfl (Nat.le_of_ble_eq_true rfl) q_950 rfl rfl rfl dX7_append_15 (fun H locs hW => ?_)
    obtain ⟨M1, eM1⟩ : ∃ z : sM, z = sw_ms M 33 6 t0_15 := ⟨_, rfl⟩
    rw [← eM1] at hW
    have h := h M1 eM1
    refine lv_aload_n hx hb dX7_append_18 rfl (lv_at hl 0 rfl) ?_
    refine sw_gi (j := 6) hx hb hts hown hW rfl qf_7 (Nat.le_of_ble_eq_true rfl) sl_33 rfl (Nat.le_of_ble_eq_true rfl) q_950 dX7_append_19 ?_
    refine lv_if_le (tgt := 27) hx hb dX7_append_22 (by decide) (fun k2 => ?_) (fun k2 => ?_)
    · have h := h.1 k2
      refine lv_aload_n hx hb dX7_append_27 rfl (lv_at hl 0 rfl) ?_
      refine sw_gr (j := 12) (r := 43) hx hb hts hown hW rfl qf_7 (Nat.le_of_ble_eq_true rfl) sl_33 rfl (Nat.le_of_ble_eq_true rfl) q_956 dX7_append_28 ?_
      refine lv_aload_n hx hb dX7_append_31 rfl (lv_at hl 0 rfl) ?_
      refine sw_gi (j := 13) hx hb hts hown hW rfl qf_7 (Nat.le_of_ble_eq_true rfl) sl_33 rfl (Nat.le_of_ble_eq_true rfl) q_957 dX7_append_32 ?_
      refine lv_iload_n hx hb dX7_append_35 rfl (lv_at hl 1 rfl) ?_
      have b3 := h.1
      have h := h.2
      refine sw_cs (n := 60) hx hb hW (Nat.le_of_ble_eq_true rfl) sl_43 b3 dX7_append_36 (fun H locs hW => ?_)
      obtain ⟨M4, eM4⟩ : ∃ z : sM, z = sw_ms M1 43 ((M1 33 13)).toNatClampNeg (vp_nar .char a1) := ⟨_, rfl⟩
      rw [← eM4] at hW
      have h := h M4 eM4
      refine lv_aload_n hx hb dX7_append_37 rfl (lv_at hl 0 rfl) ?_
      refine lv_dup hx hb dX7_append_38 rfl ?_
      refine sw_gi (j := 13) hx hb hts hown hW rfl qf_7 (Nat.le_of_ble_eq_true rfl) sl_33 rfl (Nat.le_of_ble_eq_true rfl) q_957 dX7_append_39 ?_
      refine lv_iconst (v := 1) hx hb dX7_append_42 (by decide) ?_
      refine lv_iadd hx hb dX7_append_43 ?_
      refine sw_pi (j := 13) hx hb hts hown hW rfl qf_7 tyX7 tyX7_ok nmX7 (Nat.le_of_ble_eq_true rfl) sl_33 rfl (Nat.le_of_ble_eq_true rfl) q_957 rfl rfl rfl dX7_append_44 (fun H locs hW => ?_)
      obtain ⟨M5, eM5⟩ : ∃ z : sM, z = sw_ms M4 33 13 ((M4 33 13) + (1 : Int32)) := ⟨_, rfl⟩
      rw [← eM5] at hW
      have h := h M5 eM5
      refine lv_aload_n hx hb dX7_append_47 rfl (lv_at hl 0 rfl) ?_
      refine sw_gi (j := 13) hx hb hts hown hW rfl qf_7 (Nat.le_of_ble_eq_true rfl) sl_33 rfl (Nat.le_of_ble_eq_true rfl) q_957 dX7_append_48 ?_
      exact sw_ri hx hb hr hlocks hW rfl h dX7_append_51
    · have h := h.2 k2
      refine lv_iconst (v := 0) hx hb dX7_append_25 (by decide) ?_
      exact sw_ri hx hb hr hlocks hW rfl h dX7_append_26
  · refine lv_icmp_ne (tgt := 14) hx hb dX7_append_7 (by decide) (fun k6 => ?_) (fun k6 => ?_)
    · have h := h.2 k6
      refine lv_iconst (v := 0) hx hb dX7_append_14 (by decide) ?_
      exact hJ15 _ _ _ _ h hW (lv_sub hl [0, 1] rfl)
    · have h := h.1 k6
      refine lv_iconst (v := 1) hx hb dX7_append_10 (by decide) ?_
      refine lv_goto (tgt := 15) hx hb dX7_append_11 (by decide) ?_
      exact hJ15 _ _ _ _ h hW (lv_sub hl [0, 1] rfl)

theorem cv_X7_behind : sw_cV yX7_behind RX7 cX7_behind 2 (some .int) 1 := ⟨q_1288, q_1408, q_9, q_1289, by decide +kernel⟩
def wX7_behind (a1 : Int32) (M : sM) (Q : Int32 → Prop) : Prop :=
  ((M 33 13) ≤ ((M 33 14) + a1) → (Q (-1 : Int32))) ∧ (¬ (M 33 13) ≤ ((M 33 14) + a1) → (vp_in ((M 33 14) + a1) 60 ∧ (Q (M 43 (((M 33 14) + a1)).toNatClampNeg))))
set_option maxRecDepth 20000 in
theorem kX7_behind (l : Launch) (g : sG) (o : Nat → Int64) (d : Nat → UInt64) (a1 : Int32) (M : sM) (Q : Int32 → Prop) (h : wX7_behind a1 M Q) : Met l yX7_behind (sw_ws yX7_behind cX7_behind 2 (some .int)) { frames := 0, cells := 0, slots := 0, locals := 0 } (va_Pc [.ref (sw_ad g 33), .int a1] (sw_Pr g o d M)) (va_Qi (fun r M1 => Q r ∧ M1 = M) (sw_Po g o d) (sw_A g)) 0 0 (sw_A g) := by
  refine sw_met (by decide) (Nat.le_of_ble_eq_true rfl) ?_
  intro p e s m args below meth c ls hx hb hr hts hown hml hlocks hW hl
  have hown : s.vm.findClass RX7 = some m.cls := hown
  have hl : lv_has ls 2 [(0, .ref (sw_ad g 33)), (1, .int a1)] := hl
  unfold wX7_behind at h
  refine lv_aload_n hx hb dX7_behind_0 rfl (lv_at hl 0 rfl) ?_
  refine sw_gi (j := 14) hx hb hts hown hW rfl qf_7 (Nat.le_of_ble_eq_true rfl) sl_33 rfl (Nat.le_of_ble_eq_true rfl) q_958 dX7_behind_1 ?_
  refine lv_iload_n hx hb dX7_behind_4 rfl (lv_at hl 1 rfl) ?_
  refine lv_iadd hx hb dX7_behind_5 ?_
  refine lv_aload_n hx hb dX7_behind_6 rfl (lv_at hl 0 rfl) ?_
  refine sw_gi (j := 13) hx hb hts hown hW rfl qf_7 (Nat.le_of_ble_eq_true rfl) sl_33 rfl (Nat.le_of_ble_eq_true rfl) q_957 dX7_behind_7 ?_
  refine lv_icmp_ge (tgt := 27) hx hb dX7_behind_10 (by decide) (fun k1 => ?_) (fun k1 => ?_)
  · have h := h.1 k1
    refine lv_iconst (v := -1) hx hb dX7_behind_27 (by decide) ?_
    exact sw_ri hx hb hr hlocks hW rfl ⟨h, rfl⟩ dX7_behind_28
  · have h := h.2 k1
    refine lv_aload_n hx hb dX7_behind_13 rfl (lv_at hl 0 rfl) ?_
    refine sw_gr (j := 12) (r := 43) hx hb hts hown hW rfl qf_7 (Nat.le_of_ble_eq_true rfl) sl_33 rfl (Nat.le_of_ble_eq_true rfl) q_956 dX7_behind_14 ?_
    refine lv_aload_n hx hb dX7_behind_17 rfl (lv_at hl 0 rfl) ?_
    refine sw_gi (j := 14) hx hb hts hown hW rfl qf_7 (Nat.le_of_ble_eq_true rfl) sl_33 rfl (Nat.le_of_ble_eq_true rfl) q_958 dX7_behind_18 ?_
    refine lv_iload_n hx hb dX7_behind_21 rfl (lv_at hl 1 rfl) ?_
    refine lv_iadd hx hb dX7_behind_22 ?_
    have b2 := h.1
    have h := h.2
    refine sw_ca (n := 60) hx hb hW (Nat.le_of_ble_eq_true rfl) sl_43 b2 dX7_behind_23 ?_
    refine lv_goto (tgt := 28) hx hb dX7_behind_24 (by decide) ?_
    exact sw_ri hx hb hr hlocks hW rfl ⟨h, rfl⟩ dX7_behind_28

def jX7_skip_36 (x2_2 : Int32) (M_2 : sM) (N2 : Int32 → sM → Prop) (t0_36 : Int32) : Prop :=
  (narrow .boolean (.int t0_36) = .int t0_36 ∧ fits .boolean (.int t0_36) = true) ∧ (∀ M6 : sM, M6 = sw_ms M_2 33 15 t0_36 → (((M6 33 15) = 0 → (∀ M9 : sM, M9 = sw_ms M6 33 14 ((M6 33 14) + (1 : Int32)) → (∀ v10 : Int32, v10 = x2_2 + (1 : Int32) → (N2 v10 M9)))) ∧ (¬ (M6 33 15) = 0 → (∀ M11 : sM, M11 = sw_ms M6 33 14 ((M6 33 14) + (0 : Int32)) → (∀ v12 : Int32, v12 = x2_2 + (1 : Int32) → (N2 v12 M11))))))
def lX7_skip_2 (t1 : Nat) (K2 : sM → Prop) : Nat → Int32 → sM → Prop
  | 0, _, _ => False
  | n2 + 1, x2_2, M_2 => wJ0_length_8abf5 t1 (fun r1 => (r1 ≤ x2_2 → (K2 M_2)) ∧ (¬ r1 ≤ x2_2 → (((M_2 33 15) = 0 → (wX7_behind (0 : Int32) M_2 (fun r4 => wJ0_charAt_5068e t1 x2_2 (fun r5 => (r4 = r5 → (jX7_skip_36 x2_2 M_2 (fun x2_2 M_2 => lX7_skip_2 t1 K2 n2 x2_2 M_2) (0 : Int32))) ∧ (¬ r4 = r5 → (jX7_skip_36 x2_2 M_2 (fun x2_2 M_2 => lX7_skip_2 t1 K2 n2 x2_2 M_2) (1 : Int32))))))) ∧ (¬ (M_2 33 15) = 0 → (K2 M_2)))))
theorem cv_X7_skip : sw_cV yX7_skip RX7 cX7_skip 3 none 1 := ⟨q_1294, q_1410, q_9, q_1295, by decide +kernel⟩
def wX7_skip (t1 : Nat) (M : sM) (Q : sM → Prop) : Prop :=
  ∃ n2, lX7_skip_2 t1 (fun M_2k => Q M_2k) n2 (0 : Int32) M
set_option maxRecDepth 20000 in
theorem kX7_skip (l : Launch) (g : sG) (o : Nat → Int64) (d : Nat → UInt64) (t1 : Nat) (ht1 : t1 < 28) (M : sM) (Q : sM → Prop) (h : wX7_skip t1 M Q) : Met l yX7_skip (sw_ws yX7_skip cX7_skip 3 none) { frames := 4, cells := 0, slots := 0, locals := 101 } (va_Pc [.ref (sw_ad g 33), .ref (sw_sk g t1)] (sw_Pr g o d M)) (va_Qv Q (sw_Po g o d) (sw_A g)) 0 0 (sw_A g) := by
  refine sw_met (by decide) (Nat.le_of_ble_eq_true rfl) ?_
  intro p e s m args below meth c ls hx hb hr hts hown hml hlocks hW hl
  have hown : s.vm.findClass RX7 = some m.cls := hown
  have hl : lv_has ls 3 [(0, .ref (sw_ad g 33)), (1, .ref (sw_sk g t1))] := hl
  unfold wX7_skip at h
  refine lv_iconst (v := 0) hx hb dX7_skip_0 (by decide) ?_
  refine lv_istore_n (lv' := [(2, .int (0 : Int32)), (0, .ref (sw_ad g 33)), (1, .ref (sw_sk g t1))]) hx hb dX7_skip_1 rfl hl (Nat.le_of_ble_eq_true rfl) rfl (fun ls hl => ?_)
  obtain ⟨n2, h⟩ := h
  refine sw_lp_iM (hd := 2) (Lf := fun x2_2 M_2 => [(0, .ref (sw_ad g 33)), (1, .ref (sw_sk g t1)), (2, .int x2_2)]) h hW (lv_sub hl [1, 2, 0] rfl) (fun _ _ h => h) (fun n2 ih2 x2_2 M_2 H locs ls h hW hl => ?_)
  rw [lX7_skip_2.eq_2] at h
  refine lv_iload_n hx hb dX7_skip_2 rfl (lv_at hl 2 rfl) ?_
  refine lv_aload_n hx hb dX7_skip_3 rfl (lv_at hl 1 rfl) ?_
  refine sw_ki (rest := [.int x2_2]) (sw_runVs (As := []) (rest := [.int x2_2]) hx hb hml hown hts (kJ0_length_8abf5 l g o d t1 ht1 M_2 _ h) cv_J0_length_8abf5 q_1296 rfl rfl ⟨(Nat.le_of_ble_eq_true rfl), (Nat.le_of_ble_eq_true rfl)⟩ hW ht1 rfl hl.1 rfl (Nat.le_of_ble_eq_true rfl) dX7_skip_4 ⟨(Nat.le_of_ble_eq_true rfl), (Nat.le_of_ble_eq_true rfl)⟩) hW (fun r1 M16 H locs h hW => ?_)
  obtain ⟨h, eM16⟩ := h
  rw [eM16] at hW
  refine lv_icmp_ge (tgt := 66) hx hb dX7_skip_7 (by decide) (fun k2 => ?_) (fun k2 => ?_)
  · have h := h.1 k2
    exact sw_rv hx hb hr hlocks hW h dX7_skip_66
  · have h := h.2 k2
    refine lv_aload_n hx hb dX7_skip_10 rfl (lv_at hl 0 rfl) ?_
    refine sw_gi (j := 15) hx hb hts hown hW rfl qf_7 (Nat.le_of_ble_eq_true rfl) sl_33 rfl (Nat.le_of_ble_eq_true rfl) q_959 dX7_skip_11 ?_
    refine lv_if_ne (tgt := 66) hx hb dX7_skip_14 (by decide) (fun k3 => ?_) (fun k3 => ?_)
    · have h := h.2 k3
      exact sw_rv hx hb hr hlocks hW h dX7_skip_66
    · have h := h.1 k3
      refine lv_aload_n hx hb dX7_skip_17 rfl (lv_at hl 0 rfl) ?_
      refine lv_aload_n hx hb dX7_skip_18 rfl (lv_at hl 0 rfl) ?_
      refine lv_iconst (v := 0) hx hb dX7_skip_19 (by decide) ?_
      refine sw_ki (rest := [.ref (sw_ad g 33)]) (sw_runV (As := [.int (0 : Int32)]) (rest := [.ref (sw_ad g 33)]) hx hb hml hown hts (kX7_behind l g o d (0 : Int32) M_2 _ h) cv_X7_behind q_1287 rfl rfl ⟨(Nat.le_of_ble_eq_true rfl), (Nat.le_of_ble_eq_true rfl)⟩ hW (Nat.le_of_ble_eq_true rfl) sl_33 rfl rfl hl.1 rfl (Nat.le_of_ble_eq_true rfl) dX7_skip_20 ⟨(Nat.le_of_ble_eq_true rfl), (Nat.le_of_ble_eq_true rfl)⟩) hW (fun r4 M15 H locs h hW => ?_)
      obtain ⟨h, eM15⟩ := h
      rw [eM15] at hW
      refine lv_aload_n hx hb dX7_skip_23 rfl (lv_at hl 1 rfl) ?_
      refine lv_iload_n hx hb dX7_skip_24 rfl (lv_at hl 2 rfl) ?_
      refine sw_ki (rest := [.int r4, .ref (sw_ad g 33)]) (sw_runVs (As := [.int x2_2]) (rest := [.int r4, .ref (sw_ad g 33)]) hx hb hml hown hts (kJ0_charAt_5068e l g o d t1 ht1 x2_2 M_2 _ h) cv_J0_charAt_5068e q_1297 rfl rfl ⟨(Nat.le_of_ble_eq_true rfl), (Nat.le_of_ble_eq_true rfl)⟩ hW ht1 rfl hl.1 rfl (Nat.le_of_ble_eq_true rfl) dX7_skip_25 ⟨(Nat.le_of_ble_eq_true rfl), (Nat.le_of_ble_eq_true rfl)⟩) hW (fun r5 M14 H locs h hW => ?_)
      obtain ⟨h, eM14⟩ := h
      rw [eM14] at hW
      refine sw_jn_i (g := g) (o := o) (d := d) (nL := 3) (M := M_2) (jp := 36) (J := fun t0_36 => jX7_skip_36 x2_2 M_2 (fun x2_2 M_2 => lX7_skip_2 t1 (fun M_2k => Q M_2k) n2 x2_2 M_2) t0_36) (Lf := fun t0_36 => [(0, .ref (sw_ad g 33)), (1, .ref (sw_sk g t1)), (2, .int x2_2)]) (Sf := fun t0_36 => [.int t0_36, .ref (sw_ad g 33)]) (fun t0_36 H locs ls h hW hl => ?_) (fun hJ36 => ?_)
      · unfold jX7_skip_36 at h
        have z7 := h.1
        have h := h.2
        refine sw_pi (j := 15) hx hb hts hown hW rfl qf_7 tyX7 tyX7_ok nmX7 (Nat.le_of_ble_eq_true rfl) sl_33 rfl (Nat.le_of_ble_eq_true rfl) q_959 rfl z7.1 z7.2 dX7_skip_36 (fun H locs hW => ?_)
        obtain ⟨M6, eM6⟩ : ∃ z : sM, z = sw_ms M_2 33 15 t0_36 := ⟨_, rfl⟩
        rw [← eM6] at hW
        have h := h M6 eM6
        refine lv_aload_n hx hb dX7_skip_39 rfl (lv_at hl 0 rfl) ?_
        refine lv_dup hx hb dX7_skip_40 rfl ?_
        refine sw_gi (j := 14) hx hb hts hown hW rfl qf_7 (Nat.le_of_ble_eq_true rfl) sl_33 rfl (Nat.le_of_ble_eq_true rfl) q_958 dX7_skip_41 ?_
        refine lv_aload_n hx hb dX7_skip_44 rfl (lv_at hl 0 rfl) ?_
        refine sw_gi (j := 15) hx hb hts hown hW rfl qf_7 (Nat.le_of_ble_eq_true rfl) sl_33 rfl (Nat.le_of_ble_eq_true rfl) q_959 dX7_skip_45 ?_
        refine lv_if_eq (tgt := 55) hx hb dX7_skip_48 (by decide) (fun k8 => ?_) (fun k8 => ?_)
        · have h := h.1 k8
          refine lv_iconst (v := 1) hx hb dX7_skip_55 (by decide) ?_
          refine lv_iadd hx hb dX7_skip_56 ?_
          refine sw_pi (j := 14) hx hb hts hown hW rfl qf_7 tyX7 tyX7_ok nmX7 (Nat.le_of_ble_eq_true rfl) sl_33 rfl (Nat.le_of_ble_eq_true rfl) q_958 rfl rfl rfl dX7_skip_57 (fun H locs hW => ?_)
          obtain ⟨M9, eM9⟩ : ∃ z : sM, z = sw_ms M6 33 14 ((M6 33 14) + (1 : Int32)) := ⟨_, rfl⟩
          rw [← eM9] at hW
          have h := h M9 eM9
          obtain ⟨v10, ev10⟩ : ∃ z : Int32, z = x2_2 + (1 : Int32) := ⟨_, rfl⟩
          have h := h v10 ev10
          refine lv_iinc (v := v10) (lv' := [(2, .int v10), (0, .ref (sw_ad g 33)), (1, .ref (sw_sk g t1))]) hx hb dX7_skip_60 hl (k := 2) rfl (by rw [ev10]; rfl) (Nat.le_of_ble_eq_true rfl) rfl (fun ls hl => ?_)
          refine lv_goto (tgt := 2) hx hb dX7_skip_63 (by decide) ?_
          exact ih2 _ _ _ _ _ h hW (lv_sub hl [1, 2, 0] rfl)
        · have h := h.2 k8
          refine lv_iconst (v := 0) hx hb dX7_skip_51 (by decide) ?_
          refine lv_goto (tgt := 56) hx hb dX7_skip_52 (by decide) ?_
          refine lv_iadd hx hb dX7_skip_56 ?_
          refine sw_pi (j := 14) hx hb hts hown hW rfl qf_7 tyX7 tyX7_ok nmX7 (Nat.le_of_ble_eq_true rfl) sl_33 rfl (Nat.le_of_ble_eq_true rfl) q_958 rfl rfl rfl dX7_skip_57 (fun H locs hW => ?_)
          obtain ⟨M11, eM11⟩ : ∃ z : sM, z = sw_ms M6 33 14 ((M6 33 14) + (0 : Int32)) := ⟨_, rfl⟩
          rw [← eM11] at hW
          have h := h M11 eM11
          obtain ⟨v12, ev12⟩ : ∃ z : Int32, z = x2_2 + (1 : Int32) := ⟨_, rfl⟩
          have h := h v12 ev12
          refine lv_iinc (v := v12) (lv' := [(2, .int v12), (0, .ref (sw_ad g 33)), (1, .ref (sw_sk g t1))]) hx hb dX7_skip_60 hl (k := 2) rfl (by rw [ev12]; rfl) (Nat.le_of_ble_eq_true rfl) rfl (fun ls hl => ?_)
          refine lv_goto (tgt := 2) hx hb dX7_skip_63 (by decide) ?_
          exact ih2 _ _ _ _ _ h hW (lv_sub hl [1, 2, 0] rfl)
      · refine lv_icmp_eq (tgt := 35) hx hb dX7_skip_28 (by decide) (fun k13 => ?_) (fun k13 => ?_)
        · have h := h.1 k13
          refine lv_iconst (v := 0) hx hb dX7_skip_35 (by decide) ?_
          exact hJ36 _ _ _ _ h hW (lv_sub hl [0, 1, 2] rfl)
        · have h := h.2 k13
          refine lv_iconst (v := 1) hx hb dX7_skip_31 (by decide) ?_
          refine lv_goto (tgt := 36) hx hb dX7_skip_32 (by decide) ?_
          exact hJ36 _ _ _ _ h hW (lv_sub hl [0, 1, 2] rfl)

theorem cv_X7_isDigit : sw_cV yX7_isDigit RX7 cX7_isDigit 1 (some .boolean) 0 := ⟨q_1302, q_1412, q_9, q_1303, by decide +kernel⟩
def wX7_isDigit  (M : sM) (Q : Int32 → Prop) : Prop :=
  ((M 33 15) = 0 → (wX7_behind (0 : Int32) M (fun r2 => wX7_in r2 (48 : Int32) (57 : Int32) (fun r3 => (r3 = 0 → (Q (0 : Int32))) ∧ (¬ r3 = 0 → (Q (1 : Int32))))))) ∧ (¬ (M 33 15) = 0 → (Q (0 : Int32)))
set_option maxRecDepth 20000 in
theorem kX7_isDigit (l : Launch) (g : sG) (o : Nat → Int64) (d : Nat → UInt64)  (M : sM) (Q : Int32 → Prop) (h : wX7_isDigit  M Q) : Met l yX7_isDigit (sw_ws yX7_isDigit cX7_isDigit 1 (some .boolean)) { frames := 1, cells := 0, slots := 0, locals := 22 } (va_Pc [.ref (sw_ad g 33)] (sw_Pr g o d M)) (va_Qi (fun r M1 => Q r ∧ M1 = M) (sw_Po g o d) (sw_A g)) 0 0 (sw_A g) := by
  refine sw_met (by decide) (Nat.le_of_ble_eq_true rfl) ?_
  intro p e s m args below meth c ls hx hb hr hts hown hml hlocks hW hl
  have hown : s.vm.findClass RX7 = some m.cls := hown
  have hl : lv_has ls 1 [(0, .ref (sw_ad g 33))] := hl
  unfold wX7_isDigit at h
  refine lv_aload_n hx hb dX7_isDigit_0 rfl (lv_at hl 0 rfl) ?_
  refine sw_gi (j := 15) hx hb hts hown hW rfl qf_7 (Nat.le_of_ble_eq_true rfl) sl_33 rfl (Nat.le_of_ble_eq_true rfl) q_959 dX7_isDigit_1 ?_
  refine lv_if_ne (tgt := 26) hx hb dX7_isDigit_4 (by decide) (fun k1 => ?_) (fun k1 => ?_)
  · have h := h.2 k1
    refine lv_iconst (v := 0) hx hb dX7_isDigit_26 (by decide) ?_
    exact sw_ri hx hb hr hlocks hW (by decide) ⟨h, rfl⟩ dX7_isDigit_27
  · have h := h.1 k1
    refine lv_aload_n hx hb dX7_isDigit_7 rfl (lv_at hl 0 rfl) ?_
    refine lv_iconst (v := 0) hx hb dX7_isDigit_8 (by decide) ?_
    refine sw_ki (rest := []) (sw_runV (As := [.int (0 : Int32)]) (rest := []) hx hb hml hown hts (kX7_behind l g o d (0 : Int32) M _ h) cv_X7_behind q_1287 rfl rfl ⟨(Nat.le_of_ble_eq_true rfl), (Nat.le_of_ble_eq_true rfl)⟩ hW (Nat.le_of_ble_eq_true rfl) sl_33 rfl rfl hl.1 rfl (Nat.le_of_ble_eq_true rfl) dX7_isDigit_9 ⟨(Nat.le_of_ble_eq_true rfl), (Nat.le_of_ble_eq_true rfl)⟩) hW (fun r2 M6 H locs h hW => ?_)
    obtain ⟨h, eM6⟩ := h
    rw [eM6] at hW
    refine lv_bipush (v := 48) hx hb dX7_isDigit_12 (by decide) ?_
    refine lv_bipush (v := 57) hx hb dX7_isDigit_14 (by decide) ?_
    refine sw_ki (rest := []) (sw_runS (As := [.int r2, .int (48 : Int32), .int (57 : Int32)]) (rest := []) hx hb hml hown hts (kX7_in l g o d r2 (48 : Int32) (57 : Int32) M _ h) cs_X7_in q_986 rfl rfl ⟨(Nat.le_of_ble_eq_true rfl), (Nat.le_of_ble_eq_true rfl)⟩ hW rfl hl.1 rfl (Nat.le_of_ble_eq_true rfl) dX7_isDigit_16 ⟨(Nat.le_of_ble_eq_true rfl), (Nat.le_of_ble_eq_true rfl)⟩) hW (fun r3 M5 H locs h hW => ?_)
    obtain ⟨h, eM5⟩ := h
    rw [eM5] at hW
    refine lv_if_eq (tgt := 26) hx hb dX7_isDigit_19 (by decide) (fun k4 => ?_) (fun k4 => ?_)
    · have h := h.1 k4
      refine lv_iconst (v := 0) hx hb dX7_isDigit_26 (by decide) ?_
      exact sw_ri hx hb hr hlocks hW (by decide) ⟨h, rfl⟩ dX7_isDigit_27
    · have h := h.2 k4
      refine lv_iconst (v := 1) hx hb dX7_isDigit_22 (by decide) ?_
      refine lv_goto (tgt := 27) hx hb dX7_isDigit_23 (by decide) ?_
      exact sw_ri hx hb hr hlocks hW (by decide) ⟨h, rfl⟩ dX7_isDigit_27

def lX7_reads_89 (a1 : Int32) (K89 : Int32 → sM → Prop) : Nat → Int32 → Int32 → sM → Prop
  | 0, _, _, _ => False
  | n89 + 1, x2_89, x3_89, M_89 => (a1 ≤ x3_89 → (K89 x2_89 M_89)) ∧ (¬ a1 ≤ x3_89 → (wX7_isDigit M_89 (fun r6 => (r6 = 0 → (K89 x2_89 M_89)) ∧ (¬ r6 = 0 → (vp_in (M_89 33 14) 60 ∧ (∀ v9 : Int32, v9 = ((((10 : Int32) * x2_89) + (M_89 43 ((M_89 33 14)).toNatClampNeg)) - (48 : Int32)) → (∀ M10 : sM, M10 = sw_ms M_89 33 14 ((M_89 33 14) + (1 : Int32)) → (∀ v11 : Int32, v11 = x3_89 + (1 : Int32) → ((fun x2_89 x3_89 M_89 => lX7_reads_89 a1 K89 n89 x2_89 x3_89 M_89) v9 v11 M10)))))))))
def jX7_reads_82 (a1 : Int32) (M1 : sM) (Q : Int32 → sM → Prop) (t0_82 : Int32) : Prop :=
  (narrow .boolean (.int t0_82) = .int t0_82 ∧ fits .boolean (.int t0_82) = true) ∧ (∀ M3 : sM, M3 = sw_ms M1 33 15 t0_82 → (∃ n89, lX7_reads_89 a1 (fun x2_89k M_89k => Q x2_89k M_89k) n89 (0 : Int32) (0 : Int32) M3))
def jX7_reads_36 (M1 : sM) (r17 : Int32) (Q : Int32 → sM → Prop) (t0_36 : Int32) : Prop :=
  (narrow .boolean (.int t0_36) = .int t0_36 ∧ fits .boolean (.int t0_36) = true) ∧ (∀ M18 : sM, M18 = sw_ms M1 33 15 t0_36 → (((M18 33 15) = 0 → (∀ M21 : sM, M21 = sw_ms M18 33 14 ((M18 33 14) + (1 : Int32)) → (Q r17 M21))) ∧ (¬ (M18 33 15) = 0 → (∀ M22 : sM, M22 = sw_ms M18 33 14 ((M18 33 14) + (0 : Int32)) → (Q r17 M22)))))
theorem cv_X7_reads : sw_cV yX7_reads RX7 cX7_reads 4 (some .int) 1 := ⟨q_1299, q_1411, q_9, q_1300, by decide +kernel⟩
def wX7_reads (a1 : Int32) (M : sM) (Q : Int32 → sM → Prop) : Prop :=
  wX7_skip 12 M (fun M1 => (a1 = 0 → (wX7_behind (0 : Int32) M1 (fun r17 => ((M1 33 15) = 0 → (wX7_isFrame r17 (fun r24 => (r24 = 0 → (jX7_reads_36 M1 r17 Q (1 : Int32))) ∧ (¬ r24 = 0 → (jX7_reads_36 M1 r17 Q (0 : Int32)))))) ∧ (¬ (M1 33 15) = 0 → (jX7_reads_36 M1 r17 Q (1 : Int32)))))) ∧ (¬ a1 = 0 → (((M1 33 15) = 0 → (wX7_isDigit M1 (fun r14 => (r14 = 0 → (jX7_reads_82 a1 M1 Q (1 : Int32))) ∧ (¬ r14 = 0 → (jX7_reads_82 a1 M1 Q (0 : Int32)))))) ∧ (¬ (M1 33 15) = 0 → (jX7_reads_82 a1 M1 Q (1 : Int32))))))
set_option maxRecDepth 20000 in
theorem kX7_reads (l : Launch) (g : sG) (o : Nat → Int64) (d : Nat → UInt64) (a1 : Int32) (M : sM) (Q : Int32 → sM → Prop) (h : wX7_reads a1 M Q) : Met l yX7_reads (sw_ws yX7_reads cX7_reads 4 (some .int)) { frames := 5, cells := 0, slots := 0, locals := 123 } (va_Pc [.ref (sw_ad g 33), .int a1] (sw_Pr g o d M)) (va_Qi Q (sw_Po g o d) (sw_A g)) 0 0 (sw_A g) := by
  refine sw_met (by decide) (Nat.le_of_ble_eq_true rfl) ?_
  intro p e s m args below meth c ls hx hb hr hts hown hml hlocks hW hl
  have hown : s.vm.findClass RX7 = some m.cls := hown
  have hl : lv_has ls 4 [(0, .ref (sw_ad g 33)), (1, .int a1)] := hl
  unfold wX7_reads at h
  refine lv_aload_n hx hb dX7_reads_0 rfl (lv_at hl 0 rfl) ?_
  refine va_ldcS hx hb hown (hW.2.2.2.2.2.2.2.2.1 12 (Nat.le_of_ble_eq_true rfl)).2.2.2.2 dX7_reads_1 ?_
  refine sw_kv (rest := []) (sw_runV (As := [.ref (sw_sk g 12)]) (rest := []) hx hb hml hown hts (kX7_skip l g o d 12 (Nat.le_of_ble_eq_true rfl) M _ h) cv_X7_skip q_1293 rfl rfl ⟨(Nat.le_of_ble_eq_true rfl), (Nat.le_of_ble_eq_true rfl)⟩ hW (Nat.le_of_ble_eq_true rfl) sl_33 rfl rfl hl.1 rfl (Nat.le_of_ble_eq_true rfl) dX7_reads_3 ⟨(Nat.le_of_ble_eq_true rfl), (Nat.le_of_ble_eq_true rfl)⟩) hW (fun  M1 H locs h hW => ?_)
  refine lv_iload_n hx hb dX7_reads_6 rfl (lv_at hl 1 rfl) ?_
  refine lv_if_ne (tgt := 62) hx hb dX7_reads_7 (by decide) (fun k2 => ?_) (fun k2 => ?_)
  · have h := h.2 k2
    refine lv_aload_n hx hb dX7_reads_62 rfl (lv_at hl 0 rfl) ?_
    refine lv_aload_n hx hb dX7_reads_63 rfl (lv_at hl 0 rfl) ?_
    refine sw_gi (j := 15) hx hb hts hown hW rfl qf_7 (Nat.le_of_ble_eq_true rfl) sl_33 rfl (Nat.le_of_ble_eq_true rfl) q_959 dX7_reads_64 ?_
    refine sw_jn_i (g := g) (o := o) (d := d) (nL := 4) (M := M1) (jp := 82) (J := fun t0_82 => jX7_reads_82 a1 M1 Q t0_82) (Lf := fun t0_82 => [(0, .ref (sw_ad g 33)), (1, .int a1)]) (Sf := fun t0_82 => [.int t0_82, .ref (sw_ad g 33)]) (fun t0_82 H locs ls h hW hl => ?_) (fun hJ82 => ?_)
    · unfold jX7_reads_82 at h
      have z4 := h.1
      have h := h.2
      refine sw_pi (j := 15) hx hb hts hown hW rfl qf_7 tyX7 tyX7_ok nmX7 (Nat.le_of_ble_eq_true rfl) sl_33 rfl (Nat.le_of_ble_eq_true rfl) q_959 rfl z4.1 z4.2 dX7_reads_82 (fun H locs hW => ?_)
      obtain ⟨M3, eM3⟩ : ∃ z : sM, z = sw_ms M1 33 15 t0_82 := ⟨_, rfl⟩
      rw [← eM3] at hW
      have h := h M3 eM3
      refine lv_iconst (v := 0) hx hb dX7_reads_85 (by decide) ?_
      refine lv_istore_n (lv' := [(2, .int (0 : Int32)), (0, .ref (sw_ad g 33)), (1, .int a1)]) hx hb dX7_reads_86 rfl hl (Nat.le_of_ble_eq_true rfl) rfl (fun ls hl => ?_)
      refine lv_iconst (v := 0) hx hb dX7_reads_87 (by decide) ?_
      refine lv_istore_n (lv' := [(3, .int (0 : Int32)), (2, .int (0 : Int32)), (0, .ref (sw_ad g 33)), (1, .int a1)]) hx hb dX7_reads_88 rfl hl (Nat.le_of_ble_eq_true rfl) rfl (fun ls hl => ?_)
      obtain ⟨n89, h⟩ := h
      refine sw_lp_iiM (hd := 89) (Lf := fun x2_89 x3_89 M_89 => [(0, .ref (sw_ad g 33)), (1, .int a1), (2, .int x2_89), (3, .int x3_89)]) h hW (lv_sub hl [2, 3, 1, 0] rfl) (fun _ _ _ h => h) (fun n89 ih89 x2_89 x3_89 M_89 H locs ls h hW hl => ?_)
      rw [lX7_reads_89.eq_2] at h
      refine lv_iload_n hx hb dX7_reads_89 rfl (lv_at hl 3 rfl) ?_
      refine lv_iload_n hx hb dX7_reads_90 rfl (lv_at hl 1 rfl) ?_
      refine lv_icmp_ge (tgt := 135) hx hb dX7_reads_91 (by decide) (fun k5 => ?_) (fun k5 => ?_)
      · have h := h.1 k5
        refine lv_iload_n hx hb dX7_reads_135 rfl (lv_at hl 2 rfl) ?_
        exact sw_ri hx hb hr hlocks hW rfl h dX7_reads_136
      · have h := h.2 k5
        refine lv_aload_n hx hb dX7_reads_94 rfl (lv_at hl 0 rfl) ?_
        refine sw_ki (rest := []) (sw_runV (As := []) (rest := []) hx hb hml hown hts (kX7_isDigit l g o d M_89 _ h) cv_X7_isDigit q_1301 rfl rfl ⟨(Nat.le_of_ble_eq_true rfl), (Nat.le_of_ble_eq_true rfl)⟩ hW (Nat.le_of_ble_eq_true rfl) sl_33 rfl rfl hl.1 rfl (Nat.le_of_ble_eq_true rfl) dX7_reads_95 ⟨(Nat.le_of_ble_eq_true rfl), (Nat.le_of_ble_eq_true rfl)⟩) hW (fun r6 M12 H locs h hW => ?_)
        obtain ⟨h, eM12⟩ := h
        rw [eM12] at hW
        refine lv_if_eq (tgt := 135) hx hb dX7_reads_98 (by decide) (fun k7 => ?_) (fun k7 => ?_)
        · have h := h.1 k7
          refine lv_iload_n hx hb dX7_reads_135 rfl (lv_at hl 2 rfl) ?_
          exact sw_ri hx hb hr hlocks hW rfl h dX7_reads_136
        · have h := h.2 k7
          refine lv_bipush (v := 10) hx hb dX7_reads_101 (by decide) ?_
          refine lv_iload_n hx hb dX7_reads_103 rfl (lv_at hl 2 rfl) ?_
          refine lv_imul hx hb dX7_reads_104 ?_
          refine lv_aload_n hx hb dX7_reads_105 rfl (lv_at hl 0 rfl) ?_
          refine sw_gr (j := 12) (r := 43) hx hb hts hown hW rfl qf_7 (Nat.le_of_ble_eq_true rfl) sl_33 rfl (Nat.le_of_ble_eq_true rfl) q_956 dX7_reads_106 ?_
          refine lv_aload_n hx hb dX7_reads_109 rfl (lv_at hl 0 rfl) ?_
          refine sw_gi (j := 14) hx hb hts hown hW rfl qf_7 (Nat.le_of_ble_eq_true rfl) sl_33 rfl (Nat.le_of_ble_eq_true rfl) q_958 dX7_reads_110 ?_
          have b8 := h.1
          have h := h.2
          refine sw_ca (n := 60) hx hb hW (Nat.le_of_ble_eq_true rfl) sl_43 b8 dX7_reads_113 ?_
          refine lv_iadd hx hb dX7_reads_114 ?_
          refine lv_bipush (v := 48) hx hb dX7_reads_115 (by decide) ?_
          refine lv_isub hx hb dX7_reads_117 ?_
          refine lv_topi (fun v9 ev9 => ?_)
          have h := h v9 ev9
          refine lv_istore_n (lv' := [(2, .int v9), (0, .ref (sw_ad g 33)), (1, .int a1), (3, .int x3_89)]) hx hb dX7_reads_118 rfl hl (Nat.le_of_ble_eq_true rfl) rfl (fun ls hl => ?_)
          refine lv_aload_n hx hb dX7_reads_119 rfl (lv_at hl 1 rfl) ?_
          refine lv_dup hx hb dX7_reads_120 rfl ?_
          refine sw_gi (j := 14) hx hb hts hown hW rfl qf_7 (Nat.le_of_ble_eq_true rfl) sl_33 rfl (Nat.le_of_ble_eq_true rfl) q_958 dX7_reads_121 ?_
          refine lv_iconst (v := 1) hx hb dX7_reads_124 (by decide) ?_
          refine lv_iadd hx hb dX7_reads_125 ?_
          refine sw_pi (j := 14) hx hb hts hown hW rfl qf_7 tyX7 tyX7_ok nmX7 (Nat.le_of_ble_eq_true rfl) sl_33 rfl (Nat.le_of_ble_eq_true rfl) q_958 rfl rfl rfl dX7_reads_126 (fun H locs hW => ?_)
          obtain ⟨M10, eM10⟩ : ∃ z : sM, z = sw_ms M_89 33 14 ((M_89 33 14) + (1 : Int32)) := ⟨_, rfl⟩
          rw [← eM10] at hW
          have h := h M10 eM10
          obtain ⟨v11, ev11⟩ : ∃ z : Int32, z = x3_89 + (1 : Int32) := ⟨_, rfl⟩
          have h := h v11 ev11
          refine lv_iinc (v := v11) (lv' := [(3, .int v11), (2, .int v9), (0, .ref (sw_ad g 33)), (1, .int a1)]) hx hb dX7_reads_129 hl (k := 3) rfl (by rw [ev11]; rfl) (Nat.le_of_ble_eq_true rfl) rfl (fun ls hl => ?_)
          refine lv_goto (tgt := 89) hx hb dX7_reads_132 (by decide) ?_
          exact ih89 _ _ _ _ _ _ h hW (lv_sub hl [2, 3, 1, 0] rfl)
    · refine lv_if_ne (tgt := 77) hx hb dX7_reads_67 (by decide) (fun k13 => ?_) (fun k13 => ?_)
      · have h := h.2 k13
        refine lv_iconst (v := 1) hx hb dX7_reads_77 (by decide) ?_
        refine lv_goto (tgt := 82) hx hb dX7_reads_78 (by decide) ?_
        exact hJ82 _ _ _ _ h hW (lv_sub hl [0, 1] rfl)
      · have h := h.1 k13
        refine lv_aload_n hx hb dX7_reads_70 rfl (lv_at hl 0 rfl) ?_
        refine sw_ki (rest := [.ref (sw_ad g 33)]) (sw_runV (As := []) (rest := [.ref (sw_ad g 33)]) hx hb hml hown hts (kX7_isDigit l g o d M1 _ h) cv_X7_isDigit q_1301 rfl rfl ⟨(Nat.le_of_ble_eq_true rfl), (Nat.le_of_ble_eq_true rfl)⟩ hW (Nat.le_of_ble_eq_true rfl) sl_33 rfl rfl hl.1 rfl (Nat.le_of_ble_eq_true rfl) dX7_reads_71 ⟨(Nat.le_of_ble_eq_true rfl), (Nat.le_of_ble_eq_true rfl)⟩) hW (fun r14 M16 H locs h hW => ?_)
        obtain ⟨h, eM16⟩ := h
        rw [eM16] at hW
        refine lv_if_ne (tgt := 81) hx hb dX7_reads_74 (by decide) (fun k15 => ?_) (fun k15 => ?_)
        · have h := h.2 k15
          refine lv_iconst (v := 0) hx hb dX7_reads_81 (by decide) ?_
          exact hJ82 _ _ _ _ h hW (lv_sub hl [0, 1] rfl)
        · have h := h.1 k15
          refine lv_iconst (v := 1) hx hb dX7_reads_77 (by decide) ?_
          refine lv_goto (tgt := 82) hx hb dX7_reads_78 (by decide) ?_
          exact hJ82 _ _ _ _ h hW (lv_sub hl [0, 1] rfl)
  · have h := h.1 k2
    refine lv_aload_n hx hb dX7_reads_10 rfl (lv_at hl 0 rfl) ?_
    refine lv_iconst (v := 0) hx hb dX7_reads_11 (by decide) ?_
    refine sw_ki (rest := []) (sw_runV (As := [.int (0 : Int32)]) (rest := []) hx hb hml hown hts (kX7_behind l g o d (0 : Int32) M1 _ h) cv_X7_behind q_1287 rfl rfl ⟨(Nat.le_of_ble_eq_true rfl), (Nat.le_of_ble_eq_true rfl)⟩ hW (Nat.le_of_ble_eq_true rfl) sl_33 rfl rfl hl.1 rfl (Nat.le_of_ble_eq_true rfl) dX7_reads_12 ⟨(Nat.le_of_ble_eq_true rfl), (Nat.le_of_ble_eq_true rfl)⟩) hW (fun r17 M27 H locs h hW => ?_)
    obtain ⟨h, eM27⟩ := h
    rw [eM27] at hW
    refine lv_istore_n (lv' := [(2, .int r17), (0, .ref (sw_ad g 33)), (1, .int a1)]) hx hb dX7_reads_15 rfl hl (Nat.le_of_ble_eq_true rfl) rfl (fun ls hl => ?_)
    refine lv_aload_n hx hb dX7_reads_16 rfl (lv_at hl 1 rfl) ?_
    refine lv_aload_n hx hb dX7_reads_17 rfl (lv_at hl 1 rfl) ?_
    refine sw_gi (j := 15) hx hb hts hown hW rfl qf_7 (Nat.le_of_ble_eq_true rfl) sl_33 rfl (Nat.le_of_ble_eq_true rfl) q_959 dX7_reads_18 ?_
    refine sw_jn_i (g := g) (o := o) (d := d) (nL := 4) (M := M1) (jp := 36) (J := fun t0_36 => jX7_reads_36 M1 r17 Q t0_36) (Lf := fun t0_36 => [(0, .ref (sw_ad g 33)), (2, .int r17)]) (Sf := fun t0_36 => [.int t0_36, .ref (sw_ad g 33)]) (fun t0_36 H locs ls h hW hl => ?_) (fun hJ36 => ?_)
    · unfold jX7_reads_36 at h
      have z19 := h.1
      have h := h.2
      refine sw_pi (j := 15) hx hb hts hown hW rfl qf_7 tyX7 tyX7_ok nmX7 (Nat.le_of_ble_eq_true rfl) sl_33 rfl (Nat.le_of_ble_eq_true rfl) q_959 rfl z19.1 z19.2 dX7_reads_36 (fun H locs hW => ?_)
      obtain ⟨M18, eM18⟩ : ∃ z : sM, z = sw_ms M1 33 15 t0_36 := ⟨_, rfl⟩
      rw [← eM18] at hW
      have h := h M18 eM18
      refine lv_aload_n hx hb dX7_reads_39 rfl (lv_at hl 0 rfl) ?_
      refine lv_dup hx hb dX7_reads_40 rfl ?_
      refine sw_gi (j := 14) hx hb hts hown hW rfl qf_7 (Nat.le_of_ble_eq_true rfl) sl_33 rfl (Nat.le_of_ble_eq_true rfl) q_958 dX7_reads_41 ?_
      refine lv_aload_n hx hb dX7_reads_44 rfl (lv_at hl 0 rfl) ?_
      refine sw_gi (j := 15) hx hb hts hown hW rfl qf_7 (Nat.le_of_ble_eq_true rfl) sl_33 rfl (Nat.le_of_ble_eq_true rfl) q_959 dX7_reads_45 ?_
      refine lv_if_eq (tgt := 55) hx hb dX7_reads_48 (by decide) (fun k20 => ?_) (fun k20 => ?_)
      · have h := h.1 k20
        refine lv_iconst (v := 1) hx hb dX7_reads_55 (by decide) ?_
        refine lv_iadd hx hb dX7_reads_56 ?_
        refine sw_pi (j := 14) hx hb hts hown hW rfl qf_7 tyX7 tyX7_ok nmX7 (Nat.le_of_ble_eq_true rfl) sl_33 rfl (Nat.le_of_ble_eq_true rfl) q_958 rfl rfl rfl dX7_reads_57 (fun H locs hW => ?_)
        obtain ⟨M21, eM21⟩ : ∃ z : sM, z = sw_ms M18 33 14 ((M18 33 14) + (1 : Int32)) := ⟨_, rfl⟩
        rw [← eM21] at hW
        have h := h M21 eM21
        refine lv_iload_n hx hb dX7_reads_60 rfl (lv_at hl 1 rfl) ?_
        exact sw_ri hx hb hr hlocks hW rfl h dX7_reads_61
      · have h := h.2 k20
        refine lv_iconst (v := 0) hx hb dX7_reads_51 (by decide) ?_
        refine lv_goto (tgt := 56) hx hb dX7_reads_52 (by decide) ?_
        refine lv_iadd hx hb dX7_reads_56 ?_
        refine sw_pi (j := 14) hx hb hts hown hW rfl qf_7 tyX7 tyX7_ok nmX7 (Nat.le_of_ble_eq_true rfl) sl_33 rfl (Nat.le_of_ble_eq_true rfl) q_958 rfl rfl rfl dX7_reads_57 (fun H locs hW => ?_)
        obtain ⟨M22, eM22⟩ : ∃ z : sM, z = sw_ms M18 33 14 ((M18 33 14) + (0 : Int32)) := ⟨_, rfl⟩
        rw [← eM22] at hW
        have h := h M22 eM22
        refine lv_iload_n hx hb dX7_reads_60 rfl (lv_at hl 1 rfl) ?_
        exact sw_ri hx hb hr hlocks hW rfl h dX7_reads_61
    · refine lv_if_ne (tgt := 31) hx hb dX7_reads_21 (by decide) (fun k23 => ?_) (fun k23 => ?_)
      · have h := h.2 k23
        refine lv_iconst (v := 1) hx hb dX7_reads_31 (by decide) ?_
        refine lv_goto (tgt := 36) hx hb dX7_reads_32 (by decide) ?_
        exact hJ36 _ _ _ _ h hW (lv_sub hl [1, 0] rfl)
      · have h := h.1 k23
        refine lv_iload_n hx hb dX7_reads_24 rfl (lv_at hl 0 rfl) ?_
        refine sw_ki (rest := [.ref (sw_ad g 33)]) (sw_runS (As := [.int r17]) (rest := [.ref (sw_ad g 33)]) hx hb hml hown hts (kX7_isFrame l g o d r17 M1 _ h) cs_X7_isFrame q_983 rfl rfl ⟨(Nat.le_of_ble_eq_true rfl), (Nat.le_of_ble_eq_true rfl)⟩ hW rfl hl.1 rfl (Nat.le_of_ble_eq_true rfl) dX7_reads_25 ⟨(Nat.le_of_ble_eq_true rfl), (Nat.le_of_ble_eq_true rfl)⟩) hW (fun r24 M26 H locs h hW => ?_)
        obtain ⟨h, eM26⟩ := h
        rw [eM26] at hW
        refine lv_if_ne (tgt := 35) hx hb dX7_reads_28 (by decide) (fun k25 => ?_) (fun k25 => ?_)
        · have h := h.2 k25
          refine lv_iconst (v := 0) hx hb dX7_reads_35 (by decide) ?_
          exact hJ36 _ _ _ _ h hW (lv_sub hl [1, 0] rfl)
        · have h := h.1 k25
          refine lv_iconst (v := 1) hx hb dX7_reads_31 (by decide) ?_
          refine lv_goto (tgt := 36) hx hb dX7_reads_32 (by decide) ?_
          exact hJ36 _ _ _ _ h hW (lv_sub hl [1, 0] rfl)

def lX7_readsWord_34 (t3 : Nat) (v1 : Int32) (K34 : sM → Prop) : Nat → Int32 → sM → Prop
  | 0, _, _ => False
  | n34 + 1, x5_34, M_34 => wJ0_length_8abf5 t3 (fun r6 => (r6 ≤ x5_34 → (K34 M_34)) ∧ (¬ r6 ≤ x5_34 → (wJ0_charAt_5068e t3 x5_34 (fun r8 => wX7_reads (r8 - (48 : Int32)) M_34 (fun r9 M10 => vp_in ((v1 + (1 : Int32)) + x5_34) 300 ∧ (∀ M12 : sM, M12 = sw_ms M10 44 (((v1 + (1 : Int32)) + x5_34)).toNatClampNeg r9 → (∀ v13 : Int32, v13 = x5_34 + (1 : Int32) → ((fun x5_34 M_34 => lX7_readsWord_34 t3 v1 K34 n34 x5_34 M_34) v13 M12))))))))
theorem cv_X7_readsWord : sw_cV yX7_readsWord RX7 cX7_readsWord 6 none 3 := ⟨q_1291, q_1409, q_9, q_1292, by decide +kernel⟩
def wX7_readsWord (a1 : Int32) (t2 : Nat) (t3 : Nat) (M : sM) (Q : sM → Prop) : Prop :=
  ∀ v1 : Int32, v1 = ((5 : Int32) * (M 33 19)) → (vp_in v1 300 ∧ (∀ M3 : sM, M3 = sw_ms M 44 (v1).toNatClampNeg a1 → (∀ M4 : sM, M4 = sw_ms M3 33 19 ((M3 33 19) + (1 : Int32)) → (wX7_skip t2 M4 (fun M5 => ∃ n34, lX7_readsWord_34 t3 v1 (fun M_34k => Q M_34k) n34 (0 : Int32) M5)))))
set_option maxRecDepth 20000 in
theorem kX7_readsWord (l : Launch) (g : sG) (o : Nat → Int64) (d : Nat → UInt64) (a1 : Int32) (t2 : Nat) (ht2 : t2 < 28) (t3 : Nat) (ht3 : t3 < 28) (M : sM) (Q : sM → Prop) (h : wX7_readsWord a1 t2 t3 M Q) : Met l yX7_readsWord (sw_ws yX7_readsWord cX7_readsWord 6 none) { frames := 6, cells := 0, slots := 0, locals := 146 } (va_Pc [.ref (sw_ad g 33), .int a1, .ref (sw_sk g t2), .ref (sw_sk g t3)] (sw_Pr g o d M)) (va_Qv Q (sw_Po g o d) (sw_A g)) 0 0 (sw_A g) := by
  refine sw_met (by decide) (Nat.le_of_ble_eq_true rfl) ?_
  intro p e s m args below meth c ls hx hb hr hts hown hml hlocks hW hl
  have hown : s.vm.findClass RX7 = some m.cls := hown
  have hl : lv_has ls 6 [(0, .ref (sw_ad g 33)), (1, .int a1), (2, .ref (sw_sk g t2)), (3, .ref (sw_sk g t3))] := hl
  unfold wX7_readsWord at h
  refine lv_iconst (v := 5) hx hb dX7_readsWord_0 (by decide) ?_
  refine lv_aload_n hx hb dX7_readsWord_1 rfl (lv_at hl 0 rfl) ?_
  refine sw_gi (j := 19) hx hb hts hown hW rfl qf_7 (Nat.le_of_ble_eq_true rfl) sl_33 rfl (Nat.le_of_ble_eq_true rfl) q_963 dX7_readsWord_2 ?_
  refine lv_imul hx hb dX7_readsWord_5 ?_
  refine lv_topi (fun v1 ev1 => ?_)
  have h := h v1 ev1
  refine lv_istore (lv' := [(4, .int v1), (0, .ref (sw_ad g 33)), (1, .int a1), (2, .ref (sw_sk g t2)), (3, .ref (sw_sk g t3))]) hx hb dX7_readsWord_6 hl (Nat.le_of_ble_eq_true rfl) rfl (fun ls hl => ?_)
  refine lv_aload_n hx hb dX7_readsWord_8 rfl (lv_at hl 1 rfl) ?_
  refine sw_gr (j := 18) (r := 44) hx hb hts hown hW rfl qf_7 (Nat.le_of_ble_eq_true rfl) sl_33 rfl (Nat.le_of_ble_eq_true rfl) q_962 dX7_readsWord_9 ?_
  refine lv_iload hx hb dX7_readsWord_12 (lv_at hl 0 rfl) ?_
  refine lv_iload_n hx hb dX7_readsWord_14 rfl (lv_at hl 2 rfl) ?_
  have b2 := h.1
  have h := h.2
  refine sw_is (n := 300) hx hb hW (Nat.le_of_ble_eq_true rfl) sl_44 b2 dX7_readsWord_15 (fun H locs hW => ?_)
  obtain ⟨M3, eM3⟩ : ∃ z : sM, z = sw_ms M 44 (v1).toNatClampNeg a1 := ⟨_, rfl⟩
  rw [← eM3] at hW
  have h := h M3 eM3
  refine lv_aload_n hx hb dX7_readsWord_16 rfl (lv_at hl 1 rfl) ?_
  refine lv_dup hx hb dX7_readsWord_17 rfl ?_
  refine sw_gi (j := 19) hx hb hts hown hW rfl qf_7 (Nat.le_of_ble_eq_true rfl) sl_33 rfl (Nat.le_of_ble_eq_true rfl) q_963 dX7_readsWord_18 ?_
  refine lv_iconst (v := 1) hx hb dX7_readsWord_21 (by decide) ?_
  refine lv_iadd hx hb dX7_readsWord_22 ?_
  refine sw_pi (j := 19) hx hb hts hown hW rfl qf_7 tyX7 tyX7_ok nmX7 (Nat.le_of_ble_eq_true rfl) sl_33 rfl (Nat.le_of_ble_eq_true rfl) q_963 rfl rfl rfl dX7_readsWord_23 (fun H locs hW => ?_)
  obtain ⟨M4, eM4⟩ : ∃ z : sM, z = sw_ms M3 33 19 ((M3 33 19) + (1 : Int32)) := ⟨_, rfl⟩
  rw [← eM4] at hW
  have h := h M4 eM4
  refine lv_aload_n hx hb dX7_readsWord_26 rfl (lv_at hl 1 rfl) ?_
  refine lv_aload_n hx hb dX7_readsWord_27 rfl (lv_at hl 3 rfl) ?_
  refine sw_kv (rest := []) (sw_runV (As := [.ref (sw_sk g t2)]) (rest := []) hx hb hml hown hts (kX7_skip l g o d t2 ht2 M4 _ h) cv_X7_skip q_1293 rfl rfl ⟨(Nat.le_of_ble_eq_true rfl), (Nat.le_of_ble_eq_true rfl)⟩ hW (Nat.le_of_ble_eq_true rfl) sl_33 rfl rfl hl.1 rfl (Nat.le_of_ble_eq_true rfl) dX7_readsWord_28 ⟨(Nat.le_of_ble_eq_true rfl), (Nat.le_of_ble_eq_true rfl)⟩) hW (fun  M5 H locs h hW => ?_)
  refine lv_iconst (v := 0) hx hb dX7_readsWord_31 (by decide) ?_
  refine lv_istore (lv' := [(5, .int (0 : Int32)), (4, .int v1), (0, .ref (sw_ad g 33)), (1, .int a1), (2, .ref (sw_sk g t2)), (3, .ref (sw_sk g t3))]) hx hb dX7_readsWord_32 hl (Nat.le_of_ble_eq_true rfl) rfl (fun ls hl => ?_)
  obtain ⟨n34, h⟩ := h
  refine sw_lp_iM (hd := 34) (Lf := fun x5_34 M_34 => [(0, .ref (sw_ad g 33)), (3, .ref (sw_sk g t3)), (4, .int v1), (5, .int x5_34)]) h hW (lv_sub hl [2, 5, 1, 0] rfl) (fun _ _ h => h) (fun n34 ih34 x5_34 M_34 H locs ls h hW hl => ?_)
  rw [lX7_readsWord_34.eq_2] at h
  refine lv_iload hx hb dX7_readsWord_34 (lv_at hl 3 rfl) ?_
  refine lv_aload_n hx hb dX7_readsWord_36 rfl (lv_at hl 1 rfl) ?_
  refine sw_ki (rest := [.int x5_34]) (sw_runVs (As := []) (rest := [.int x5_34]) hx hb hml hown hts (kJ0_length_8abf5 l g o d t3 ht3 M_34 _ h) cv_J0_length_8abf5 q_1296 rfl rfl ⟨(Nat.le_of_ble_eq_true rfl), (Nat.le_of_ble_eq_true rfl)⟩ hW ht3 rfl hl.1 rfl (Nat.le_of_ble_eq_true rfl) dX7_readsWord_37 ⟨(Nat.le_of_ble_eq_true rfl), (Nat.le_of_ble_eq_true rfl)⟩) hW (fun r6 M15 H locs h hW => ?_)
  obtain ⟨h, eM15⟩ := h
  rw [eM15] at hW
  refine lv_icmp_ge (tgt := 74) hx hb dX7_readsWord_40 (by decide) (fun k7 => ?_) (fun k7 => ?_)
  · have h := h.1 k7
    exact sw_rv hx hb hr hlocks hW h dX7_readsWord_74
  · have h := h.2 k7
    refine lv_aload_n hx hb dX7_readsWord_43 rfl (lv_at hl 0 rfl) ?_
    refine sw_gr (j := 18) (r := 44) hx hb hts hown hW rfl qf_7 (Nat.le_of_ble_eq_true rfl) sl_33 rfl (Nat.le_of_ble_eq_true rfl) q_962 dX7_readsWord_44 ?_
    refine lv_iload hx hb dX7_readsWord_47 (lv_at hl 2 rfl) ?_
    refine lv_iconst (v := 1) hx hb dX7_readsWord_49 (by decide) ?_
    refine lv_iadd hx hb dX7_readsWord_50 ?_
    refine lv_iload hx hb dX7_readsWord_51 (lv_at hl 3 rfl) ?_
    refine lv_iadd hx hb dX7_readsWord_53 ?_
    refine lv_aload_n hx hb dX7_readsWord_54 rfl (lv_at hl 0 rfl) ?_
    refine lv_aload_n hx hb dX7_readsWord_55 rfl (lv_at hl 1 rfl) ?_
    refine lv_iload hx hb dX7_readsWord_56 (lv_at hl 3 rfl) ?_
    refine sw_ki (rest := [.ref (sw_ad g 33), .int ((v1 + (1 : Int32)) + x5_34), .ref (sw_ad g 44)]) (sw_runVs (As := [.int x5_34]) (rest := [.ref (sw_ad g 33), .int ((v1 + (1 : Int32)) + x5_34), .ref (sw_ad g 44)]) hx hb hml hown hts (kJ0_charAt_5068e l g o d t3 ht3 x5_34 M_34 _ h) cv_J0_charAt_5068e q_1297 rfl rfl ⟨(Nat.le_of_ble_eq_true rfl), (Nat.le_of_ble_eq_true rfl)⟩ hW ht3 rfl hl.1 rfl (Nat.le_of_ble_eq_true rfl) dX7_readsWord_58 ⟨(Nat.le_of_ble_eq_true rfl), (Nat.le_of_ble_eq_true rfl)⟩) hW (fun r8 M14 H locs h hW => ?_)
    obtain ⟨h, eM14⟩ := h
    rw [eM14] at hW
    refine lv_bipush (v := 48) hx hb dX7_readsWord_61 (by decide) ?_
    refine lv_isub hx hb dX7_readsWord_63 ?_
    refine sw_ki (rest := [.int ((v1 + (1 : Int32)) + x5_34), .ref (sw_ad g 44)]) (sw_runV (As := [.int (r8 - (48 : Int32))]) (rest := [.int ((v1 + (1 : Int32)) + x5_34), .ref (sw_ad g 44)]) hx hb hml hown hts (kX7_reads l g o d (r8 - (48 : Int32)) M_34 _ h) cv_X7_reads q_1298 rfl rfl ⟨(Nat.le_of_ble_eq_true rfl), (Nat.le_of_ble_eq_true rfl)⟩ hW (Nat.le_of_ble_eq_true rfl) sl_33 rfl rfl hl.1 rfl (Nat.le_of_ble_eq_true rfl) dX7_readsWord_64 ⟨(Nat.le_of_ble_eq_true rfl), (Nat.le_of_ble_eq_true rfl)⟩) hW (fun r9 M10 H locs h hW => ?_)
    have b11 := h.1
    have h := h.2
    refine sw_is (n := 300) hx hb hW (Nat.le_of_ble_eq_true rfl) sl_44 b11 dX7_readsWord_67 (fun H locs hW => ?_)
    obtain ⟨M12, eM12⟩ : ∃ z : sM, z = sw_ms M10 44 (((v1 + (1 : Int32)) + x5_34)).toNatClampNeg r9 := ⟨_, rfl⟩
    rw [← eM12] at hW
    have h := h M12 eM12
    obtain ⟨v13, ev13⟩ : ∃ z : Int32, z = x5_34 + (1 : Int32) := ⟨_, rfl⟩
    have h := h v13 ev13
    refine lv_iinc (v := v13) (lv' := [(5, .int v13), (0, .ref (sw_ad g 33)), (3, .ref (sw_sk g t3)), (4, .int v1)]) hx hb dX7_readsWord_68 hl (k := 3) rfl (by rw [ev13]; rfl) (Nat.le_of_ble_eq_true rfl) rfl (fun ls hl => ?_)
    refine lv_goto (tgt := 34) hx hb dX7_readsWord_71 (by decide) ?_
    exact ih34 _ _ _ _ _ h hW (lv_sub hl [1, 2, 3, 0] rfl)

theorem cv_X7_readsCommand : sw_cV yX7_readsCommand RX7 cX7_readsCommand 3 none 0 := ⟨q_1285, q_1407, q_9, q_1286, by decide +kernel⟩
def wX7_readsCommand  (M : sM) (Q : sM → Prop) : Prop :=
  wX7_behind (0 : Int32) M (fun r1 => wX7_behind (1 : Int32) M (fun r2 => ((M 33 15) = 0 → ((r1 = (100 : Int32) → (wX7_readsWord (100 : Int32) 10 11 M (fun M54 => Q M54))) ∧ (¬ r1 = (100 : Int32) → ((r1 = (101 : Int32) → (wX7_readsWord (101 : Int32) 13 14 M (fun M53 => Q M53))) ∧ (¬ r1 = (101 : Int32) → ((r1 = (99 : Int32) → (wX7_readsWord (99 : Int32) 15 16 M (fun M52 => Q M52))) ∧ (¬ r1 = (99 : Int32) → ((r1 = (97 : Int32) → ((r2 = (112 : Int32) → (wX7_readsWord (120 : Int32) 17 18 M (fun M51 => Q M51))) ∧ (¬ r2 = (112 : Int32) → ((r1 = (97 : Int32) → ((r2 = (119 : Int32) → (wX7_readsWord (119 : Int32) 19 18 M (fun M50 => Q M50))) ∧ (¬ r2 = (119 : Int32) → ((r1 = (97 : Int32) → (wX7_readsWord (97 : Int32) 20 16 M (fun M49 => Q M49))) ∧ (¬ r1 = (97 : Int32) → ((r1 = (103 : Int32) → (wX7_readsWord (103 : Int32) 21 22 M (fun M48 => Q M48))) ∧ (¬ r1 = (103 : Int32) → ((r1 = (116 : Int32) → (wX7_readsWord (116 : Int32) 23 24 M (fun M47 => Q M47))) ∧ (¬ r1 = (116 : Int32) → ((r1 = (114 : Int32) → (wX7_readsWord (114 : Int32) 25 18 M (fun M46 => Q M46))) ∧ (¬ r1 = (114 : Int32) → (wX7_readsWord (112 : Int32) 26 27 M (fun M45 => Q M45))))))))))))) ∧ (¬ r1 = (97 : Int32) → ((r1 = (97 : Int32) → (wX7_readsWord (97 : Int32) 20 16 M (fun M39 => Q M39))) ∧ (¬ r1 = (97 : Int32) → ((r1 = (103 : Int32) → (wX7_readsWord (103 : Int32) 21 22 M (fun M38 => Q M38))) ∧ (¬ r1 = (103 : Int32) → ((r1 = (116 : Int32) → (wX7_readsWord (116 : Int32) 23 24 M (fun M37 => Q M37))) ∧ (¬ r1 = (116 : Int32) → ((r1 = (114 : Int32) → (wX7_readsWord (114 : Int32) 25 18 M (fun M36 => Q M36))) ∧ (¬ r1 = (114 : Int32) → (wX7_readsWord (112 : Int32) 26 27 M (fun M35 => Q M35))))))))))))))) ∧ (¬ r1 = (97 : Int32) → ((r1 = (97 : Int32) → ((r2 = (119 : Int32) → (wX7_readsWord (119 : Int32) 19 18 M (fun M28 => Q M28))) ∧ (¬ r2 = (119 : Int32) → ((r1 = (97 : Int32) → (wX7_readsWord (97 : Int32) 20 16 M (fun M27 => Q M27))) ∧ (¬ r1 = (97 : Int32) → ((r1 = (103 : Int32) → (wX7_readsWord (103 : Int32) 21 22 M (fun M26 => Q M26))) ∧ (¬ r1 = (103 : Int32) → ((r1 = (116 : Int32) → (wX7_readsWord (116 : Int32) 23 24 M (fun M25 => Q M25))) ∧ (¬ r1 = (116 : Int32) → ((r1 = (114 : Int32) → (wX7_readsWord (114 : Int32) 25 18 M (fun M24 => Q M24))) ∧ (¬ r1 = (114 : Int32) → (wX7_readsWord (112 : Int32) 26 27 M (fun M23 => Q M23))))))))))))) ∧ (¬ r1 = (97 : Int32) → ((r1 = (97 : Int32) → (wX7_readsWord (97 : Int32) 20 16 M (fun M17 => Q M17))) ∧ (¬ r1 = (97 : Int32) → ((r1 = (103 : Int32) → (wX7_readsWord (103 : Int32) 21 22 M (fun M16 => Q M16))) ∧ (¬ r1 = (103 : Int32) → ((r1 = (116 : Int32) → (wX7_readsWord (116 : Int32) 23 24 M (fun M15 => Q M15))) ∧ (¬ r1 = (116 : Int32) → ((r1 = (114 : Int32) → (wX7_readsWord (114 : Int32) 25 18 M (fun M14 => Q M14))) ∧ (¬ r1 = (114 : Int32) → (wX7_readsWord (112 : Int32) 26 27 M (fun M13 => Q M13))))))))))))))))))))) ∧ (¬ (M 33 15) = 0 → (Q M))))
set_option maxRecDepth 20000 in
theorem kX7_readsCommand (l : Launch) (g : sG) (o : Nat → Int64) (d : Nat → UInt64)  (M : sM) (Q : sM → Prop) (h : wX7_readsCommand  M Q) : Met l yX7_readsCommand (sw_ws yX7_readsCommand cX7_readsCommand 3 none) { frames := 7, cells := 0, slots := 0, locals := 171 } (va_Pc [.ref (sw_ad g 33)] (sw_Pr g o d M)) (va_Qv Q (sw_Po g o d) (sw_A g)) 0 0 (sw_A g) := by
  refine sw_met (by decide) (Nat.le_of_ble_eq_true rfl) ?_
  intro p e s m args below meth c ls hx hb hr hts hown hml hlocks hW hl
  have hown : s.vm.findClass RX7 = some m.cls := hown
  have hl : lv_has ls 3 [(0, .ref (sw_ad g 33))] := hl
  unfold wX7_readsCommand at h
  refine lv_aload_n hx hb dX7_readsCommand_0 rfl (lv_at hl 0 rfl) ?_
  refine lv_iconst (v := 0) hx hb dX7_readsCommand_1 (by decide) ?_
  refine sw_ki (rest := []) (sw_runV (As := [.int (0 : Int32)]) (rest := []) hx hb hml hown hts (kX7_behind l g o d (0 : Int32) M _ h) cv_X7_behind q_1287 rfl rfl ⟨(Nat.le_of_ble_eq_true rfl), (Nat.le_of_ble_eq_true rfl)⟩ hW (Nat.le_of_ble_eq_true rfl) sl_33 rfl rfl hl.1 rfl (Nat.le_of_ble_eq_true rfl) dX7_readsCommand_2 ⟨(Nat.le_of_ble_eq_true rfl), (Nat.le_of_ble_eq_true rfl)⟩) hW (fun r1 M56 H locs h hW => ?_)
  obtain ⟨h, eM56⟩ := h
  rw [eM56] at hW
  refine lv_istore_n (lv' := [(1, .int r1), (0, .ref (sw_ad g 33))]) hx hb dX7_readsCommand_5 rfl hl (Nat.le_of_ble_eq_true rfl) rfl (fun ls hl => ?_)
  refine lv_aload_n hx hb dX7_readsCommand_6 rfl (lv_at hl 1 rfl) ?_
  refine lv_iconst (v := 1) hx hb dX7_readsCommand_7 (by decide) ?_
  refine sw_ki (rest := []) (sw_runV (As := [.int (1 : Int32)]) (rest := []) hx hb hml hown hts (kX7_behind l g o d (1 : Int32) M _ h) cv_X7_behind q_1287 rfl rfl ⟨(Nat.le_of_ble_eq_true rfl), (Nat.le_of_ble_eq_true rfl)⟩ hW (Nat.le_of_ble_eq_true rfl) sl_33 rfl rfl hl.1 rfl (Nat.le_of_ble_eq_true rfl) dX7_readsCommand_8 ⟨(Nat.le_of_ble_eq_true rfl), (Nat.le_of_ble_eq_true rfl)⟩) hW (fun r2 M55 H locs h hW => ?_)
  obtain ⟨h, eM55⟩ := h
  rw [eM55] at hW
  refine lv_istore_n (lv' := [(2, .int r2), (1, .int r1), (0, .ref (sw_ad g 33))]) hx hb dX7_readsCommand_11 rfl hl (Nat.le_of_ble_eq_true rfl) rfl (fun ls hl => ?_)
  refine lv_aload_n hx hb dX7_readsCommand_12 rfl (lv_at hl 2 rfl) ?_
  refine sw_gi (j := 15) hx hb hts hown hW rfl qf_7 (Nat.le_of_ble_eq_true rfl) sl_33 rfl (Nat.le_of_ble_eq_true rfl) q_959 dX7_readsCommand_13 ?_
  refine lv_if_eq (tgt := 20) hx hb dX7_readsCommand_16 (by decide) (fun k3 => ?_) (fun k3 => ?_)
  · have h := h.1 k3
    refine lv_iload_n hx hb dX7_readsCommand_20 rfl (lv_at hl 1 rfl) ?_
    refine lv_bipush (v := 100) hx hb dX7_readsCommand_21 (by decide) ?_
    refine lv_icmp_ne (tgt := 41) hx hb dX7_readsCommand_23 (by decide) (fun k4 => ?_) (fun k4 => ?_)
    · have h := h.2 k4
      refine lv_iload_n hx hb dX7_readsCommand_41 rfl (lv_at hl 1 rfl) ?_
      refine lv_bipush (v := 101) hx hb dX7_readsCommand_42 (by decide) ?_
      refine lv_icmp_ne (tgt := 62) hx hb dX7_readsCommand_44 (by decide) (fun k5 => ?_) (fun k5 => ?_)
      · have h := h.2 k5
        refine lv_iload_n hx hb dX7_readsCommand_62 rfl (lv_at hl 1 rfl) ?_
        refine lv_bipush (v := 99) hx hb dX7_readsCommand_63 (by decide) ?_
        refine lv_icmp_ne (tgt := 83) hx hb dX7_readsCommand_65 (by decide) (fun k6 => ?_) (fun k6 => ?_)
        · have h := h.2 k6
          refine lv_iload_n hx hb dX7_readsCommand_83 rfl (lv_at hl 1 rfl) ?_
          refine lv_bipush (v := 97) hx hb dX7_readsCommand_84 (by decide) ?_
          refine lv_icmp_ne (tgt := 110) hx hb dX7_readsCommand_86 (by decide) (fun k7 => ?_) (fun k7 => ?_)
          · have h := h.2 k7
            refine lv_iload_n hx hb dX7_readsCommand_110 rfl (lv_at hl 1 rfl) ?_
            refine lv_bipush (v := 97) hx hb dX7_readsCommand_111 (by decide) ?_
            refine lv_icmp_ne (tgt := 137) hx hb dX7_readsCommand_113 (by decide) (fun k8 => ?_) (fun k8 => ?_)
            · have h := h.2 k8
              refine lv_iload_n hx hb dX7_readsCommand_137 rfl (lv_at hl 1 rfl) ?_
              refine lv_bipush (v := 97) hx hb dX7_readsCommand_138 (by decide) ?_
              refine lv_icmp_ne (tgt := 158) hx hb dX7_readsCommand_140 (by decide) (fun k9 => ?_) (fun k9 => ?_)
              · have h := h.2 k9
                refine lv_iload_n hx hb dX7_readsCommand_158 rfl (lv_at hl 1 rfl) ?_
                refine lv_bipush (v := 103) hx hb dX7_readsCommand_159 (by decide) ?_
                refine lv_icmp_ne (tgt := 179) hx hb dX7_readsCommand_161 (by decide) (fun k10 => ?_) (fun k10 => ?_)
                · have h := h.2 k10
                  refine lv_iload_n hx hb dX7_readsCommand_179 rfl (lv_at hl 1 rfl) ?_
                  refine lv_bipush (v := 116) hx hb dX7_readsCommand_180 (by decide) ?_
                  refine lv_icmp_ne (tgt := 200) hx hb dX7_readsCommand_182 (by decide) (fun k11 => ?_) (fun k11 => ?_)
                  · have h := h.2 k11
                    refine lv_iload_n hx hb dX7_readsCommand_200 rfl (lv_at hl 1 rfl) ?_
                    refine lv_bipush (v := 114) hx hb dX7_readsCommand_201 (by decide) ?_
                    refine lv_icmp_ne (tgt := 221) hx hb dX7_readsCommand_203 (by decide) (fun k12 => ?_) (fun k12 => ?_)
                    · have h := h.2 k12
                      refine lv_aload_n hx hb dX7_readsCommand_221 rfl (lv_at hl 2 rfl) ?_
                      refine lv_bipush (v := 112) hx hb dX7_readsCommand_222 (by decide) ?_
                      refine sw_ldcW hx hb hown (hW.2.2.2.2.2.2.2.2.1 26 (Nat.le_of_ble_eq_true rfl)).2.2.2.2 dX7_readsCommand_224 ?_
                      refine sw_ldcW hx hb hown (hW.2.2.2.2.2.2.2.2.1 27 (Nat.le_of_ble_eq_true rfl)).2.2.2.2 dX7_readsCommand_227 ?_
                      refine sw_kv (rest := []) (sw_runV (As := [.int (112 : Int32), .ref (sw_sk g 26), .ref (sw_sk g 27)]) (rest := []) hx hb hml hown hts (kX7_readsWord l g o d (112 : Int32) 26 (Nat.le_of_ble_eq_true rfl) 27 (Nat.le_of_ble_eq_true rfl) M _ h) cv_X7_readsWord q_1290 rfl rfl ⟨(Nat.le_of_ble_eq_true rfl), (Nat.le_of_ble_eq_true rfl)⟩ hW (Nat.le_of_ble_eq_true rfl) sl_33 rfl rfl hl.1 rfl (Nat.le_of_ble_eq_true rfl) dX7_readsCommand_230 ⟨(Nat.le_of_ble_eq_true rfl), (Nat.le_of_ble_eq_true rfl)⟩) hW (fun  M13 H locs h hW => ?_)
                      exact sw_rv hx hb hr hlocks hW h dX7_readsCommand_233
                    · have h := h.1 k12
                      refine lv_aload_n hx hb dX7_readsCommand_206 rfl (lv_at hl 2 rfl) ?_
                      refine lv_bipush (v := 114) hx hb dX7_readsCommand_207 (by decide) ?_
                      refine sw_ldcW hx hb hown (hW.2.2.2.2.2.2.2.2.1 25 (Nat.le_of_ble_eq_true rfl)).2.2.2.2 dX7_readsCommand_209 ?_
                      refine sw_ldcW hx hb hown (hW.2.2.2.2.2.2.2.2.1 18 (Nat.le_of_ble_eq_true rfl)).2.2.2.2 dX7_readsCommand_212 ?_
                      refine sw_kv (rest := []) (sw_runV (As := [.int (114 : Int32), .ref (sw_sk g 25), .ref (sw_sk g 18)]) (rest := []) hx hb hml hown hts (kX7_readsWord l g o d (114 : Int32) 25 (Nat.le_of_ble_eq_true rfl) 18 (Nat.le_of_ble_eq_true rfl) M _ h) cv_X7_readsWord q_1290 rfl rfl ⟨(Nat.le_of_ble_eq_true rfl), (Nat.le_of_ble_eq_true rfl)⟩ hW (Nat.le_of_ble_eq_true rfl) sl_33 rfl rfl hl.1 rfl (Nat.le_of_ble_eq_true rfl) dX7_readsCommand_215 ⟨(Nat.le_of_ble_eq_true rfl), (Nat.le_of_ble_eq_true rfl)⟩) hW (fun  M14 H locs h hW => ?_)
                      refine lv_goto (tgt := 233) hx hb dX7_readsCommand_218 (by decide) ?_
                      exact sw_rv hx hb hr hlocks hW h dX7_readsCommand_233
                  · have h := h.1 k11
                    refine lv_aload_n hx hb dX7_readsCommand_185 rfl (lv_at hl 2 rfl) ?_
                    refine lv_bipush (v := 116) hx hb dX7_readsCommand_186 (by decide) ?_
                    refine sw_ldcW hx hb hown (hW.2.2.2.2.2.2.2.2.1 23 (Nat.le_of_ble_eq_true rfl)).2.2.2.2 dX7_readsCommand_188 ?_
                    refine sw_ldcW hx hb hown (hW.2.2.2.2.2.2.2.2.1 24 (Nat.le_of_ble_eq_true rfl)).2.2.2.2 dX7_readsCommand_191 ?_
                    refine sw_kv (rest := []) (sw_runV (As := [.int (116 : Int32), .ref (sw_sk g 23), .ref (sw_sk g 24)]) (rest := []) hx hb hml hown hts (kX7_readsWord l g o d (116 : Int32) 23 (Nat.le_of_ble_eq_true rfl) 24 (Nat.le_of_ble_eq_true rfl) M _ h) cv_X7_readsWord q_1290 rfl rfl ⟨(Nat.le_of_ble_eq_true rfl), (Nat.le_of_ble_eq_true rfl)⟩ hW (Nat.le_of_ble_eq_true rfl) sl_33 rfl rfl hl.1 rfl (Nat.le_of_ble_eq_true rfl) dX7_readsCommand_194 ⟨(Nat.le_of_ble_eq_true rfl), (Nat.le_of_ble_eq_true rfl)⟩) hW (fun  M15 H locs h hW => ?_)
                    refine lv_goto (tgt := 233) hx hb dX7_readsCommand_197 (by decide) ?_
                    exact sw_rv hx hb hr hlocks hW h dX7_readsCommand_233
                · have h := h.1 k10
                  refine lv_aload_n hx hb dX7_readsCommand_164 rfl (lv_at hl 2 rfl) ?_
                  refine lv_bipush (v := 103) hx hb dX7_readsCommand_165 (by decide) ?_
                  refine sw_ldcW hx hb hown (hW.2.2.2.2.2.2.2.2.1 21 (Nat.le_of_ble_eq_true rfl)).2.2.2.2 dX7_readsCommand_167 ?_
                  refine sw_ldcW hx hb hown (hW.2.2.2.2.2.2.2.2.1 22 (Nat.le_of_ble_eq_true rfl)).2.2.2.2 dX7_readsCommand_170 ?_
                  refine sw_kv (rest := []) (sw_runV (As := [.int (103 : Int32), .ref (sw_sk g 21), .ref (sw_sk g 22)]) (rest := []) hx hb hml hown hts (kX7_readsWord l g o d (103 : Int32) 21 (Nat.le_of_ble_eq_true rfl) 22 (Nat.le_of_ble_eq_true rfl) M _ h) cv_X7_readsWord q_1290 rfl rfl ⟨(Nat.le_of_ble_eq_true rfl), (Nat.le_of_ble_eq_true rfl)⟩ hW (Nat.le_of_ble_eq_true rfl) sl_33 rfl rfl hl.1 rfl (Nat.le_of_ble_eq_true rfl) dX7_readsCommand_173 ⟨(Nat.le_of_ble_eq_true rfl), (Nat.le_of_ble_eq_true rfl)⟩) hW (fun  M16 H locs h hW => ?_)
                  refine lv_goto (tgt := 233) hx hb dX7_readsCommand_176 (by decide) ?_
                  exact sw_rv hx hb hr hlocks hW h dX7_readsCommand_233
              · have h := h.1 k9
                refine lv_aload_n hx hb dX7_readsCommand_143 rfl (lv_at hl 2 rfl) ?_
                refine lv_bipush (v := 97) hx hb dX7_readsCommand_144 (by decide) ?_
                refine sw_ldcW hx hb hown (hW.2.2.2.2.2.2.2.2.1 20 (Nat.le_of_ble_eq_true rfl)).2.2.2.2 dX7_readsCommand_146 ?_
                refine sw_ldcW hx hb hown (hW.2.2.2.2.2.2.2.2.1 16 (Nat.le_of_ble_eq_true rfl)).2.2.2.2 dX7_readsCommand_149 ?_
                refine sw_kv (rest := []) (sw_runV (As := [.int (97 : Int32), .ref (sw_sk g 20), .ref (sw_sk g 16)]) (rest := []) hx hb hml hown hts (kX7_readsWord l g o d (97 : Int32) 20 (Nat.le_of_ble_eq_true rfl) 16 (Nat.le_of_ble_eq_true rfl) M _ h) cv_X7_readsWord q_1290 rfl rfl ⟨(Nat.le_of_ble_eq_true rfl), (Nat.le_of_ble_eq_true rfl)⟩ hW (Nat.le_of_ble_eq_true rfl) sl_33 rfl rfl hl.1 rfl (Nat.le_of_ble_eq_true rfl) dX7_readsCommand_152 ⟨(Nat.le_of_ble_eq_true rfl), (Nat.le_of_ble_eq_true rfl)⟩) hW (fun  M17 H locs h hW => ?_)
                refine lv_goto (tgt := 233) hx hb dX7_readsCommand_155 (by decide) ?_
                exact sw_rv hx hb hr hlocks hW h dX7_readsCommand_233
            · have h := h.1 k8
              refine lv_iload_n hx hb dX7_readsCommand_116 rfl (lv_at hl 0 rfl) ?_
              refine lv_bipush (v := 119) hx hb dX7_readsCommand_117 (by decide) ?_
              refine lv_icmp_ne (tgt := 137) hx hb dX7_readsCommand_119 (by decide) (fun k18 => ?_) (fun k18 => ?_)
              · have h := h.2 k18
                refine lv_iload_n hx hb dX7_readsCommand_137 rfl (lv_at hl 1 rfl) ?_
                refine lv_bipush (v := 97) hx hb dX7_readsCommand_138 (by decide) ?_
                refine lv_icmp_ne (tgt := 158) hx hb dX7_readsCommand_140 (by decide) (fun k19 => ?_) (fun k19 => ?_)
                · have h := h.2 k19
                  refine lv_iload_n hx hb dX7_readsCommand_158 rfl (lv_at hl 1 rfl) ?_
                  refine lv_bipush (v := 103) hx hb dX7_readsCommand_159 (by decide) ?_
                  refine lv_icmp_ne (tgt := 179) hx hb dX7_readsCommand_161 (by decide) (fun k20 => ?_) (fun k20 => ?_)
                  · have h := h.2 k20
                    refine lv_iload_n hx hb dX7_readsCommand_179 rfl (lv_at hl 1 rfl) ?_
                    refine lv_bipush (v := 116) hx hb dX7_readsCommand_180 (by decide) ?_
                    refine lv_icmp_ne (tgt := 200) hx hb dX7_readsCommand_182 (by decide) (fun k21 => ?_) (fun k21 => ?_)
                    · have h := h.2 k21
                      refine lv_iload_n hx hb dX7_readsCommand_200 rfl (lv_at hl 1 rfl) ?_
                      refine lv_bipush (v := 114) hx hb dX7_readsCommand_201 (by decide) ?_
                      refine lv_icmp_ne (tgt := 221) hx hb dX7_readsCommand_203 (by decide) (fun k22 => ?_) (fun k22 => ?_)
                      · have h := h.2 k22
                        refine lv_aload_n hx hb dX7_readsCommand_221 rfl (lv_at hl 2 rfl) ?_
                        refine lv_bipush (v := 112) hx hb dX7_readsCommand_222 (by decide) ?_
                        refine sw_ldcW hx hb hown (hW.2.2.2.2.2.2.2.2.1 26 (Nat.le_of_ble_eq_true rfl)).2.2.2.2 dX7_readsCommand_224 ?_
                        refine sw_ldcW hx hb hown (hW.2.2.2.2.2.2.2.2.1 27 (Nat.le_of_ble_eq_true rfl)).2.2.2.2 dX7_readsCommand_227 ?_
                        refine sw_kv (rest := []) (sw_runV (As := [.int (112 : Int32), .ref (sw_sk g 26), .ref (sw_sk g 27)]) (rest := []) hx hb hml hown hts (kX7_readsWord l g o d (112 : Int32) 26 (Nat.le_of_ble_eq_true rfl) 27 (Nat.le_of_ble_eq_true rfl) M _ h) cv_X7_readsWord q_1290 rfl rfl ⟨(Nat.le_of_ble_eq_true rfl), (Nat.le_of_ble_eq_true rfl)⟩ hW (Nat.le_of_ble_eq_true rfl) sl_33 rfl rfl hl.1 rfl (Nat.le_of_ble_eq_true rfl) dX7_readsCommand_230 ⟨(Nat.le_of_ble_eq_true rfl), (Nat.le_of_ble_eq_true rfl)⟩) hW (fun  M23 H locs h hW => ?_)
                        exact sw_rv hx hb hr hlocks hW h dX7_readsCommand_233
                      · have h := h.1 k22
                        refine lv_aload_n hx hb dX7_readsCommand_206 rfl (lv_at hl 2 rfl) ?_
                        refine lv_bipush (v := 114) hx hb dX7_readsCommand_207 (by decide) ?_
                        refine sw_ldcW hx hb hown (hW.2.2.2.2.2.2.2.2.1 25 (Nat.le_of_ble_eq_true rfl)).2.2.2.2 dX7_readsCommand_209 ?_
                        refine sw_ldcW hx hb hown (hW.2.2.2.2.2.2.2.2.1 18 (Nat.le_of_ble_eq_true rfl)).2.2.2.2 dX7_readsCommand_212 ?_
                        refine sw_kv (rest := []) (sw_runV (As := [.int (114 : Int32), .ref (sw_sk g 25), .ref (sw_sk g 18)]) (rest := []) hx hb hml hown hts (kX7_readsWord l g o d (114 : Int32) 25 (Nat.le_of_ble_eq_true rfl) 18 (Nat.le_of_ble_eq_true rfl) M _ h) cv_X7_readsWord q_1290 rfl rfl ⟨(Nat.le_of_ble_eq_true rfl), (Nat.le_of_ble_eq_true rfl)⟩ hW (Nat.le_of_ble_eq_true rfl) sl_33 rfl rfl hl.1 rfl (Nat.le_of_ble_eq_true rfl) dX7_readsCommand_215 ⟨(Nat.le_of_ble_eq_true rfl), (Nat.le_of_ble_eq_true rfl)⟩) hW (fun  M24 H locs h hW => ?_)
                        refine lv_goto (tgt := 233) hx hb dX7_readsCommand_218 (by decide) ?_
                        exact sw_rv hx hb hr hlocks hW h dX7_readsCommand_233
                    · have h := h.1 k21
                      refine lv_aload_n hx hb dX7_readsCommand_185 rfl (lv_at hl 2 rfl) ?_
                      refine lv_bipush (v := 116) hx hb dX7_readsCommand_186 (by decide) ?_
                      refine sw_ldcW hx hb hown (hW.2.2.2.2.2.2.2.2.1 23 (Nat.le_of_ble_eq_true rfl)).2.2.2.2 dX7_readsCommand_188 ?_
                      refine sw_ldcW hx hb hown (hW.2.2.2.2.2.2.2.2.1 24 (Nat.le_of_ble_eq_true rfl)).2.2.2.2 dX7_readsCommand_191 ?_
                      refine sw_kv (rest := []) (sw_runV (As := [.int (116 : Int32), .ref (sw_sk g 23), .ref (sw_sk g 24)]) (rest := []) hx hb hml hown hts (kX7_readsWord l g o d (116 : Int32) 23 (Nat.le_of_ble_eq_true rfl) 24 (Nat.le_of_ble_eq_true rfl) M _ h) cv_X7_readsWord q_1290 rfl rfl ⟨(Nat.le_of_ble_eq_true rfl), (Nat.le_of_ble_eq_true rfl)⟩ hW (Nat.le_of_ble_eq_true rfl) sl_33 rfl rfl hl.1 rfl (Nat.le_of_ble_eq_true rfl) dX7_readsCommand_194 ⟨(Nat.le_of_ble_eq_true rfl), (Nat.le_of_ble_eq_true rfl)⟩) hW (fun  M25 H locs h hW => ?_)
                      refine lv_goto (tgt := 233) hx hb dX7_readsCommand_197 (by decide) ?_
                      exact sw_rv hx hb hr hlocks hW h dX7_readsCommand_233
                  · have h := h.1 k20
                    refine lv_aload_n hx hb dX7_readsCommand_164 rfl (lv_at hl 2 rfl) ?_
                    refine lv_bipush (v := 103) hx hb dX7_readsCommand_165 (by decide) ?_
                    refine sw_ldcW hx hb hown (hW.2.2.2.2.2.2.2.2.1 21 (Nat.le_of_ble_eq_true rfl)).2.2.2.2 dX7_readsCommand_167 ?_
                    refine sw_ldcW hx hb hown (hW.2.2.2.2.2.2.2.2.1 22 (Nat.le_of_ble_eq_true rfl)).2.2.2.2 dX7_readsCommand_170 ?_
                    refine sw_kv (rest := []) (sw_runV (As := [.int (103 : Int32), .ref (sw_sk g 21), .ref (sw_sk g 22)]) (rest := []) hx hb hml hown hts (kX7_readsWord l g o d (103 : Int32) 21 (Nat.le_of_ble_eq_true rfl) 22 (Nat.le_of_ble_eq_true rfl) M _ h) cv_X7_readsWord q_1290 rfl rfl ⟨(Nat.le_of_ble_eq_true rfl), (Nat.le_of_ble_eq_true rfl)⟩ hW (Nat.le_of_ble_eq_true rfl) sl_33 rfl rfl hl.1 rfl (Nat.le_of_ble_eq_true rfl) dX7_readsCommand_173 ⟨(Nat.le_of_ble_eq_true rfl), (Nat.le_of_ble_eq_true rfl)⟩) hW (fun  M26 H locs h hW => ?_)
                    refine lv_goto (tgt := 233) hx hb dX7_readsCommand_176 (by decide) ?_
                    exact sw_rv hx hb hr hlocks hW h dX7_readsCommand_233
                · have h := h.1 k19
                  refine lv_aload_n hx hb dX7_readsCommand_143 rfl (lv_at hl 2 rfl) ?_
                  refine lv_bipush (v := 97) hx hb dX7_readsCommand_144 (by decide) ?_
                  refine sw_ldcW hx hb hown (hW.2.2.2.2.2.2.2.2.1 20 (Nat.le_of_ble_eq_true rfl)).2.2.2.2 dX7_readsCommand_146 ?_
                  refine sw_ldcW hx hb hown (hW.2.2.2.2.2.2.2.2.1 16 (Nat.le_of_ble_eq_true rfl)).2.2.2.2 dX7_readsCommand_149 ?_
                  refine sw_kv (rest := []) (sw_runV (As := [.int (97 : Int32), .ref (sw_sk g 20), .ref (sw_sk g 16)]) (rest := []) hx hb hml hown hts (kX7_readsWord l g o d (97 : Int32) 20 (Nat.le_of_ble_eq_true rfl) 16 (Nat.le_of_ble_eq_true rfl) M _ h) cv_X7_readsWord q_1290 rfl rfl ⟨(Nat.le_of_ble_eq_true rfl), (Nat.le_of_ble_eq_true rfl)⟩ hW (Nat.le_of_ble_eq_true rfl) sl_33 rfl rfl hl.1 rfl (Nat.le_of_ble_eq_true rfl) dX7_readsCommand_152 ⟨(Nat.le_of_ble_eq_true rfl), (Nat.le_of_ble_eq_true rfl)⟩) hW (fun  M27 H locs h hW => ?_)
                  refine lv_goto (tgt := 233) hx hb dX7_readsCommand_155 (by decide) ?_
                  exact sw_rv hx hb hr hlocks hW h dX7_readsCommand_233
              · have h := h.1 k18
                refine lv_aload_n hx hb dX7_readsCommand_122 rfl (lv_at hl 2 rfl) ?_
                refine lv_bipush (v := 119) hx hb dX7_readsCommand_123 (by decide) ?_
                refine sw_ldcW hx hb hown (hW.2.2.2.2.2.2.2.2.1 19 (Nat.le_of_ble_eq_true rfl)).2.2.2.2 dX7_readsCommand_125 ?_
                refine sw_ldcW hx hb hown (hW.2.2.2.2.2.2.2.2.1 18 (Nat.le_of_ble_eq_true rfl)).2.2.2.2 dX7_readsCommand_128 ?_
                refine sw_kv (rest := []) (sw_runV (As := [.int (119 : Int32), .ref (sw_sk g 19), .ref (sw_sk g 18)]) (rest := []) hx hb hml hown hts (kX7_readsWord l g o d (119 : Int32) 19 (Nat.le_of_ble_eq_true rfl) 18 (Nat.le_of_ble_eq_true rfl) M _ h) cv_X7_readsWord q_1290 rfl rfl ⟨(Nat.le_of_ble_eq_true rfl), (Nat.le_of_ble_eq_true rfl)⟩ hW (Nat.le_of_ble_eq_true rfl) sl_33 rfl rfl hl.1 rfl (Nat.le_of_ble_eq_true rfl) dX7_readsCommand_131 ⟨(Nat.le_of_ble_eq_true rfl), (Nat.le_of_ble_eq_true rfl)⟩) hW (fun  M28 H locs h hW => ?_)
                refine lv_goto (tgt := 233) hx hb dX7_readsCommand_134 (by decide) ?_
                exact sw_rv hx hb hr hlocks hW h dX7_readsCommand_233
          · have h := h.1 k7
            refine lv_iload_n hx hb dX7_readsCommand_89 rfl (lv_at hl 0 rfl) ?_
            refine lv_bipush (v := 112) hx hb dX7_readsCommand_90 (by decide) ?_
            refine lv_icmp_ne (tgt := 110) hx hb dX7_readsCommand_92 (by decide) (fun k29 => ?_) (fun k29 => ?_)
            · have h := h.2 k29
              refine lv_iload_n hx hb dX7_readsCommand_110 rfl (lv_at hl 1 rfl) ?_
              refine lv_bipush (v := 97) hx hb dX7_readsCommand_111 (by decide) ?_
              refine lv_icmp_ne (tgt := 137) hx hb dX7_readsCommand_113 (by decide) (fun k30 => ?_) (fun k30 => ?_)
              · have h := h.2 k30
                refine lv_iload_n hx hb dX7_readsCommand_137 rfl (lv_at hl 1 rfl) ?_
                refine lv_bipush (v := 97) hx hb dX7_readsCommand_138 (by decide) ?_
                refine lv_icmp_ne (tgt := 158) hx hb dX7_readsCommand_140 (by decide) (fun k31 => ?_) (fun k31 => ?_)
                · have h := h.2 k31
                  refine lv_iload_n hx hb dX7_readsCommand_158 rfl (lv_at hl 1 rfl) ?_
                  refine lv_bipush (v := 103) hx hb dX7_readsCommand_159 (by decide) ?_
                  refine lv_icmp_ne (tgt := 179) hx hb dX7_readsCommand_161 (by decide) (fun k32 => ?_) (fun k32 => ?_)
                  · have h := h.2 k32
                    refine lv_iload_n hx hb dX7_readsCommand_179 rfl (lv_at hl 1 rfl) ?_
                    refine lv_bipush (v := 116) hx hb dX7_readsCommand_180 (by decide) ?_
                    refine lv_icmp_ne (tgt := 200) hx hb dX7_readsCommand_182 (by decide) (fun k33 => ?_) (fun k33 => ?_)
                    · have h := h.2 k33
                      refine lv_iload_n hx hb dX7_readsCommand_200 rfl (lv_at hl 1 rfl) ?_
                      refine lv_bipush (v := 114) hx hb dX7_readsCommand_201 (by decide) ?_
                      refine lv_icmp_ne (tgt := 221) hx hb dX7_readsCommand_203 (by decide) (fun k34 => ?_) (fun k34 => ?_)
                      · have h := h.2 k34
                        refine lv_aload_n hx hb dX7_readsCommand_221 rfl (lv_at hl 2 rfl) ?_
                        refine lv_bipush (v := 112) hx hb dX7_readsCommand_222 (by decide) ?_
                        refine sw_ldcW hx hb hown (hW.2.2.2.2.2.2.2.2.1 26 (Nat.le_of_ble_eq_true rfl)).2.2.2.2 dX7_readsCommand_224 ?_
                        refine sw_ldcW hx hb hown (hW.2.2.2.2.2.2.2.2.1 27 (Nat.le_of_ble_eq_true rfl)).2.2.2.2 dX7_readsCommand_227 ?_
                        refine sw_kv (rest := []) (sw_runV (As := [.int (112 : Int32), .ref (sw_sk g 26), .ref (sw_sk g 27)]) (rest := []) hx hb hml hown hts (kX7_readsWord l g o d (112 : Int32) 26 (Nat.le_of_ble_eq_true rfl) 27 (Nat.le_of_ble_eq_true rfl) M _ h) cv_X7_readsWord q_1290 rfl rfl ⟨(Nat.le_of_ble_eq_true rfl), (Nat.le_of_ble_eq_true rfl)⟩ hW (Nat.le_of_ble_eq_true rfl) sl_33 rfl rfl hl.1 rfl (Nat.le_of_ble_eq_true rfl) dX7_readsCommand_230 ⟨(Nat.le_of_ble_eq_true rfl), (Nat.le_of_ble_eq_true rfl)⟩) hW (fun  M35 H locs h hW => ?_)
                        exact sw_rv hx hb hr hlocks hW h dX7_readsCommand_233
                      · have h := h.1 k34
                        refine lv_aload_n hx hb dX7_readsCommand_206 rfl (lv_at hl 2 rfl) ?_
                        refine lv_bipush (v := 114) hx hb dX7_readsCommand_207 (by decide) ?_
                        refine sw_ldcW hx hb hown (hW.2.2.2.2.2.2.2.2.1 25 (Nat.le_of_ble_eq_true rfl)).2.2.2.2 dX7_readsCommand_209 ?_
                        refine sw_ldcW hx hb hown (hW.2.2.2.2.2.2.2.2.1 18 (Nat.le_of_ble_eq_true rfl)).2.2.2.2 dX7_readsCommand_212 ?_
                        refine sw_kv (rest := []) (sw_runV (As := [.int (114 : Int32), .ref (sw_sk g 25), .ref (sw_sk g 18)]) (rest := []) hx hb hml hown hts (kX7_readsWord l g o d (114 : Int32) 25 (Nat.le_of_ble_eq_true rfl) 18 (Nat.le_of_ble_eq_true rfl) M _ h) cv_X7_readsWord q_1290 rfl rfl ⟨(Nat.le_of_ble_eq_true rfl), (Nat.le_of_ble_eq_true rfl)⟩ hW (Nat.le_of_ble_eq_true rfl) sl_33 rfl rfl hl.1 rfl (Nat.le_of_ble_eq_true rfl) dX7_readsCommand_215 ⟨(Nat.le_of_ble_eq_true rfl), (Nat.le_of_ble_eq_true rfl)⟩) hW (fun  M36 H locs h hW => ?_)
                        refine lv_goto (tgt := 233) hx hb dX7_readsCommand_218 (by decide) ?_
                        exact sw_rv hx hb hr hlocks hW h dX7_readsCommand_233
                    · have h := h.1 k33
                      refine lv_aload_n hx hb dX7_readsCommand_185 rfl (lv_at hl 2 rfl) ?_
                      refine lv_bipush (v := 116) hx hb dX7_readsCommand_186 (by decide) ?_
                      refine sw_ldcW hx hb hown (hW.2.2.2.2.2.2.2.2.1 23 (Nat.le_of_ble_eq_true rfl)).2.2.2.2 dX7_readsCommand_188 ?_
                      refine sw_ldcW hx hb hown (hW.2.2.2.2.2.2.2.2.1 24 (Nat.le_of_ble_eq_true rfl)).2.2.2.2 dX7_readsCommand_191 ?_
                      refine sw_kv (rest := []) (sw_runV (As := [.int (116 : Int32), .ref (sw_sk g 23), .ref (sw_sk g 24)]) (rest := []) hx hb hml hown hts (kX7_readsWord l g o d (116 : Int32) 23 (Nat.le_of_ble_eq_true rfl) 24 (Nat.le_of_ble_eq_true rfl) M _ h) cv_X7_readsWord q_1290 rfl rfl ⟨(Nat.le_of_ble_eq_true rfl), (Nat.le_of_ble_eq_true rfl)⟩ hW (Nat.le_of_ble_eq_true rfl) sl_33 rfl rfl hl.1 rfl (Nat.le_of_ble_eq_true rfl) dX7_readsCommand_194 ⟨(Nat.le_of_ble_eq_true rfl), (Nat.le_of_ble_eq_true rfl)⟩) hW (fun  M37 H locs h hW => ?_)
                      refine lv_goto (tgt := 233) hx hb dX7_readsCommand_197 (by decide) ?_
                      exact sw_rv hx hb hr hlocks hW h dX7_readsCommand_233
                  · have h := h.1 k32
                    refine lv_aload_n hx hb dX7_readsCommand_164 rfl (lv_at hl 2 rfl) ?_
                    refine lv_bipush (v := 103) hx hb dX7_readsCommand_165 (by decide) ?_
                    refine sw_ldcW hx hb hown (hW.2.2.2.2.2.2.2.2.1 21 (Nat.le_of_ble_eq_true rfl)).2.2.2.2 dX7_readsCommand_167 ?_
                    refine sw_ldcW hx hb hown (hW.2.2.2.2.2.2.2.2.1 22 (Nat.le_of_ble_eq_true rfl)).2.2.2.2 dX7_readsCommand_170 ?_
                    refine sw_kv (rest := []) (sw_runV (As := [.int (103 : Int32), .ref (sw_sk g 21), .ref (sw_sk g 22)]) (rest := []) hx hb hml hown hts (kX7_readsWord l g o d (103 : Int32) 21 (Nat.le_of_ble_eq_true rfl) 22 (Nat.le_of_ble_eq_true rfl) M _ h) cv_X7_readsWord q_1290 rfl rfl ⟨(Nat.le_of_ble_eq_true rfl), (Nat.le_of_ble_eq_true rfl)⟩ hW (Nat.le_of_ble_eq_true rfl) sl_33 rfl rfl hl.1 rfl (Nat.le_of_ble_eq_true rfl) dX7_readsCommand_173 ⟨(Nat.le_of_ble_eq_true rfl), (Nat.le_of_ble_eq_true rfl)⟩) hW (fun  M38 H locs h hW => ?_)
                    refine lv_goto (tgt := 233) hx hb dX7_readsCommand_176 (by decide) ?_
                    exact sw_rv hx hb hr hlocks hW h dX7_readsCommand_233
                · have h := h.1 k31
                  refine lv_aload_n hx hb dX7_readsCommand_143 rfl (lv_at hl 2 rfl) ?_
                  refine lv_bipush (v := 97) hx hb dX7_readsCommand_144 (by decide) ?_
                  refine sw_ldcW hx hb hown (hW.2.2.2.2.2.2.2.2.1 20 (Nat.le_of_ble_eq_true rfl)).2.2.2.2 dX7_readsCommand_146 ?_
                  refine sw_ldcW hx hb hown (hW.2.2.2.2.2.2.2.2.1 16 (Nat.le_of_ble_eq_true rfl)).2.2.2.2 dX7_readsCommand_149 ?_
                  refine sw_kv (rest := []) (sw_runV (As := [.int (97 : Int32), .ref (sw_sk g 20), .ref (sw_sk g 16)]) (rest := []) hx hb hml hown hts (kX7_readsWord l g o d (97 : Int32) 20 (Nat.le_of_ble_eq_true rfl) 16 (Nat.le_of_ble_eq_true rfl) M _ h) cv_X7_readsWord q_1290 rfl rfl ⟨(Nat.le_of_ble_eq_true rfl), (Nat.le_of_ble_eq_true rfl)⟩ hW (Nat.le_of_ble_eq_true rfl) sl_33 rfl rfl hl.1 rfl (Nat.le_of_ble_eq_true rfl) dX7_readsCommand_152 ⟨(Nat.le_of_ble_eq_true rfl), (Nat.le_of_ble_eq_true rfl)⟩) hW (fun  M39 H locs h hW => ?_)
                  refine lv_goto (tgt := 233) hx hb dX7_readsCommand_155 (by decide) ?_
                  exact sw_rv hx hb hr hlocks hW h dX7_readsCommand_233
              · have h := h.1 k30
                refine lv_iload_n hx hb dX7_readsCommand_116 rfl (lv_at hl 0 rfl) ?_
                refine lv_bipush (v := 119) hx hb dX7_readsCommand_117 (by decide) ?_
                refine lv_icmp_ne (tgt := 137) hx hb dX7_readsCommand_119 (by decide) (fun k40 => ?_) (fun k40 => ?_)
                · have h := h.2 k40
                  refine lv_iload_n hx hb dX7_readsCommand_137 rfl (lv_at hl 1 rfl) ?_
                  refine lv_bipush (v := 97) hx hb dX7_readsCommand_138 (by decide) ?_
                  refine lv_icmp_ne (tgt := 158) hx hb dX7_readsCommand_140 (by decide) (fun k41 => ?_) (fun k41 => ?_)
                  · have h := h.2 k41
                    refine lv_iload_n hx hb dX7_readsCommand_158 rfl (lv_at hl 1 rfl) ?_
                    refine lv_bipush (v := 103) hx hb dX7_readsCommand_159 (by decide) ?_
                    refine lv_icmp_ne (tgt := 179) hx hb dX7_readsCommand_161 (by decide) (fun k42 => ?_) (fun k42 => ?_)
                    · have h := h.2 k42
                      refine lv_iload_n hx hb dX7_readsCommand_179 rfl (lv_at hl 1 rfl) ?_
                      refine lv_bipush (v := 116) hx hb dX7_readsCommand_180 (by decide) ?_
                      refine lv_icmp_ne (tgt := 200) hx hb dX7_readsCommand_182 (by decide) (fun k43 => ?_) (fun k43 => ?_)
                      · have h := h.2 k43
                        refine lv_iload_n hx hb dX7_readsCommand_200 rfl (lv_at hl 1 rfl) ?_
                        refine lv_bipush (v := 114) hx hb dX7_readsCommand_201 (by decide) ?_
                        refine lv_icmp_ne (tgt := 221) hx hb dX7_readsCommand_203 (by decide) (fun k44 => ?_) (fun k44 => ?_)
                        · have h := h.2 k44
                          refine lv_aload_n hx hb dX7_readsCommand_221 rfl (lv_at hl 2 rfl) ?_
                          refine lv_bipush (v := 112) hx hb dX7_readsCommand_222 (by decide) ?_
                          refine sw_ldcW hx hb hown (hW.2.2.2.2.2.2.2.2.1 26 (Nat.le_of_ble_eq_true rfl)).2.2.2.2 dX7_readsCommand_224 ?_
                          refine sw_ldcW hx hb hown (hW.2.2.2.2.2.2.2.2.1 27 (Nat.le_of_ble_eq_true rfl)).2.2.2.2 dX7_readsCommand_227 ?_
                          refine sw_kv (rest := []) (sw_runV (As := [.int (112 : Int32), .ref (sw_sk g 26), .ref (sw_sk g 27)]) (rest := []) hx hb hml hown hts (kX7_readsWord l g o d (112 : Int32) 26 (Nat.le_of_ble_eq_true rfl) 27 (Nat.le_of_ble_eq_true rfl) M _ h) cv_X7_readsWord q_1290 rfl rfl ⟨(Nat.le_of_ble_eq_true rfl), (Nat.le_of_ble_eq_true rfl)⟩ hW (Nat.le_of_ble_eq_true rfl) sl_33 rfl rfl hl.1 rfl (Nat.le_of_ble_eq_true rfl) dX7_readsCommand_230 ⟨(Nat.le_of_ble_eq_true rfl), (Nat.le_of_ble_eq_true rfl)⟩) hW (fun  M45 H locs h hW => ?_)
                          exact sw_rv hx hb hr hlocks hW h dX7_readsCommand_233
                        · have h := h.1 k44
                          refine lv_aload_n hx hb dX7_readsCommand_206 rfl (lv_at hl 2 rfl) ?_
                          refine lv_bipush (v := 114) hx hb dX7_readsCommand_207 (by decide) ?_
                          refine sw_ldcW hx hb hown (hW.2.2.2.2.2.2.2.2.1 25 (Nat.le_of_ble_eq_true rfl)).2.2.2.2 dX7_readsCommand_209 ?_
                          refine sw_ldcW hx hb hown (hW.2.2.2.2.2.2.2.2.1 18 (Nat.le_of_ble_eq_true rfl)).2.2.2.2 dX7_readsCommand_212 ?_
                          refine sw_kv (rest := []) (sw_runV (As := [.int (114 : Int32), .ref (sw_sk g 25), .ref (sw_sk g 18)]) (rest := []) hx hb hml hown hts (kX7_readsWord l g o d (114 : Int32) 25 (Nat.le_of_ble_eq_true rfl) 18 (Nat.le_of_ble_eq_true rfl) M _ h) cv_X7_readsWord q_1290 rfl rfl ⟨(Nat.le_of_ble_eq_true rfl), (Nat.le_of_ble_eq_true rfl)⟩ hW (Nat.le_of_ble_eq_true rfl) sl_33 rfl rfl hl.1 rfl (Nat.le_of_ble_eq_true rfl) dX7_readsCommand_215 ⟨(Nat.le_of_ble_eq_true rfl), (Nat.le_of_ble_eq_true rfl)⟩) hW (fun  M46 H locs h hW => ?_)
                          refine lv_goto (tgt := 233) hx hb dX7_readsCommand_218 (by decide) ?_
                          exact sw_rv hx hb hr hlocks hW h dX7_readsCommand_233
                      · have h := h.1 k43
                        refine lv_aload_n hx hb dX7_readsCommand_185 rfl (lv_at hl 2 rfl) ?_
                        refine lv_bipush (v := 116) hx hb dX7_readsCommand_186 (by decide) ?_
                        refine sw_ldcW hx hb hown (hW.2.2.2.2.2.2.2.2.1 23 (Nat.le_of_ble_eq_true rfl)).2.2.2.2 dX7_readsCommand_188 ?_
                        refine sw_ldcW hx hb hown (hW.2.2.2.2.2.2.2.2.1 24 (Nat.le_of_ble_eq_true rfl)).2.2.2.2 dX7_readsCommand_191 ?_
                        refine sw_kv (rest := []) (sw_runV (As := [.int (116 : Int32), .ref (sw_sk g 23), .ref (sw_sk g 24)]) (rest := []) hx hb hml hown hts (kX7_readsWord l g o d (116 : Int32) 23 (Nat.le_of_ble_eq_true rfl) 24 (Nat.le_of_ble_eq_true rfl) M _ h) cv_X7_readsWord q_1290 rfl rfl ⟨(Nat.le_of_ble_eq_true rfl), (Nat.le_of_ble_eq_true rfl)⟩ hW (Nat.le_of_ble_eq_true rfl) sl_33 rfl rfl hl.1 rfl (Nat.le_of_ble_eq_true rfl) dX7_readsCommand_194 ⟨(Nat.le_of_ble_eq_true rfl), (Nat.le_of_ble_eq_true rfl)⟩) hW (fun  M47 H locs h hW => ?_)
                        refine lv_goto (tgt := 233) hx hb dX7_readsCommand_197 (by decide) ?_
                        exact sw_rv hx hb hr hlocks hW h dX7_readsCommand_233
                    · have h := h.1 k42
                      refine lv_aload_n hx hb dX7_readsCommand_164 rfl (lv_at hl 2 rfl) ?_
                      refine lv_bipush (v := 103) hx hb dX7_readsCommand_165 (by decide) ?_
                      refine sw_ldcW hx hb hown (hW.2.2.2.2.2.2.2.2.1 21 (Nat.le_of_ble_eq_true rfl)).2.2.2.2 dX7_readsCommand_167 ?_
                      refine sw_ldcW hx hb hown (hW.2.2.2.2.2.2.2.2.1 22 (Nat.le_of_ble_eq_true rfl)).2.2.2.2 dX7_readsCommand_170 ?_
                      refine sw_kv (rest := []) (sw_runV (As := [.int (103 : Int32), .ref (sw_sk g 21), .ref (sw_sk g 22)]) (rest := []) hx hb hml hown hts (kX7_readsWord l g o d (103 : Int32) 21 (Nat.le_of_ble_eq_true rfl) 22 (Nat.le_of_ble_eq_true rfl) M _ h) cv_X7_readsWord q_1290 rfl rfl ⟨(Nat.le_of_ble_eq_true rfl), (Nat.le_of_ble_eq_true rfl)⟩ hW (Nat.le_of_ble_eq_true rfl) sl_33 rfl rfl hl.1 rfl (Nat.le_of_ble_eq_true rfl) dX7_readsCommand_173 ⟨(Nat.le_of_ble_eq_true rfl), (Nat.le_of_ble_eq_true rfl)⟩) hW (fun  M48 H locs h hW => ?_)
                      refine lv_goto (tgt := 233) hx hb dX7_readsCommand_176 (by decide) ?_
                      exact sw_rv hx hb hr hlocks hW h dX7_readsCommand_233
                  · have h := h.1 k41
                    refine lv_aload_n hx hb dX7_readsCommand_143 rfl (lv_at hl 2 rfl) ?_
                    refine lv_bipush (v := 97) hx hb dX7_readsCommand_144 (by decide) ?_
                    refine sw_ldcW hx hb hown (hW.2.2.2.2.2.2.2.2.1 20 (Nat.le_of_ble_eq_true rfl)).2.2.2.2 dX7_readsCommand_146 ?_
                    refine sw_ldcW hx hb hown (hW.2.2.2.2.2.2.2.2.1 16 (Nat.le_of_ble_eq_true rfl)).2.2.2.2 dX7_readsCommand_149 ?_
                    refine sw_kv (rest := []) (sw_runV (As := [.int (97 : Int32), .ref (sw_sk g 20), .ref (sw_sk g 16)]) (rest := []) hx hb hml hown hts (kX7_readsWord l g o d (97 : Int32) 20 (Nat.le_of_ble_eq_true rfl) 16 (Nat.le_of_ble_eq_true rfl) M _ h) cv_X7_readsWord q_1290 rfl rfl ⟨(Nat.le_of_ble_eq_true rfl), (Nat.le_of_ble_eq_true rfl)⟩ hW (Nat.le_of_ble_eq_true rfl) sl_33 rfl rfl hl.1 rfl (Nat.le_of_ble_eq_true rfl) dX7_readsCommand_152 ⟨(Nat.le_of_ble_eq_true rfl), (Nat.le_of_ble_eq_true rfl)⟩) hW (fun  M49 H locs h hW => ?_)
                    refine lv_goto (tgt := 233) hx hb dX7_readsCommand_155 (by decide) ?_
                    exact sw_rv hx hb hr hlocks hW h dX7_readsCommand_233
                · have h := h.1 k40
                  refine lv_aload_n hx hb dX7_readsCommand_122 rfl (lv_at hl 2 rfl) ?_
                  refine lv_bipush (v := 119) hx hb dX7_readsCommand_123 (by decide) ?_
                  refine sw_ldcW hx hb hown (hW.2.2.2.2.2.2.2.2.1 19 (Nat.le_of_ble_eq_true rfl)).2.2.2.2 dX7_readsCommand_125 ?_
                  refine sw_ldcW hx hb hown (hW.2.2.2.2.2.2.2.2.1 18 (Nat.le_of_ble_eq_true rfl)).2.2.2.2 dX7_readsCommand_128 ?_
                  refine sw_kv (rest := []) (sw_runV (As := [.int (119 : Int32), .ref (sw_sk g 19), .ref (sw_sk g 18)]) (rest := []) hx hb hml hown hts (kX7_readsWord l g o d (119 : Int32) 19 (Nat.le_of_ble_eq_true rfl) 18 (Nat.le_of_ble_eq_true rfl) M _ h) cv_X7_readsWord q_1290 rfl rfl ⟨(Nat.le_of_ble_eq_true rfl), (Nat.le_of_ble_eq_true rfl)⟩ hW (Nat.le_of_ble_eq_true rfl) sl_33 rfl rfl hl.1 rfl (Nat.le_of_ble_eq_true rfl) dX7_readsCommand_131 ⟨(Nat.le_of_ble_eq_true rfl), (Nat.le_of_ble_eq_true rfl)⟩) hW (fun  M50 H locs h hW => ?_)
                  refine lv_goto (tgt := 233) hx hb dX7_readsCommand_134 (by decide) ?_
                  exact sw_rv hx hb hr hlocks hW h dX7_readsCommand_233
            · have h := h.1 k29
              refine lv_aload_n hx hb dX7_readsCommand_95 rfl (lv_at hl 2 rfl) ?_
              refine lv_bipush (v := 120) hx hb dX7_readsCommand_96 (by decide) ?_
              refine sw_ldcW hx hb hown (hW.2.2.2.2.2.2.2.2.1 17 (Nat.le_of_ble_eq_true rfl)).2.2.2.2 dX7_readsCommand_98 ?_
              refine sw_ldcW hx hb hown (hW.2.2.2.2.2.2.2.2.1 18 (Nat.le_of_ble_eq_true rfl)).2.2.2.2 dX7_readsCommand_101 ?_
              refine sw_kv (rest := []) (sw_runV (As := [.int (120 : Int32), .ref (sw_sk g 17), .ref (sw_sk g 18)]) (rest := []) hx hb hml hown hts (kX7_readsWord l g o d (120 : Int32) 17 (Nat.le_of_ble_eq_true rfl) 18 (Nat.le_of_ble_eq_true rfl) M _ h) cv_X7_readsWord q_1290 rfl rfl ⟨(Nat.le_of_ble_eq_true rfl), (Nat.le_of_ble_eq_true rfl)⟩ hW (Nat.le_of_ble_eq_true rfl) sl_33 rfl rfl hl.1 rfl (Nat.le_of_ble_eq_true rfl) dX7_readsCommand_104 ⟨(Nat.le_of_ble_eq_true rfl), (Nat.le_of_ble_eq_true rfl)⟩) hW (fun  M51 H locs h hW => ?_)
              refine lv_goto (tgt := 233) hx hb dX7_readsCommand_107 (by decide) ?_
              exact sw_rv hx hb hr hlocks hW h dX7_readsCommand_233
        · have h := h.1 k6
          refine lv_aload_n hx hb dX7_readsCommand_68 rfl (lv_at hl 2 rfl) ?_
          refine lv_bipush (v := 99) hx hb dX7_readsCommand_69 (by decide) ?_
          refine sw_ldcW hx hb hown (hW.2.2.2.2.2.2.2.2.1 15 (Nat.le_of_ble_eq_true rfl)).2.2.2.2 dX7_readsCommand_71 ?_
          refine sw_ldcW hx hb hown (hW.2.2.2.2.2.2.2.2.1 16 (Nat.le_of_ble_eq_true rfl)).2.2.2.2 dX7_readsCommand_74 ?_
          refine sw_kv (rest := []) (sw_runV (As := [.int (99 : Int32), .ref (sw_sk g 15), .ref (sw_sk g 16)]) (rest := []) hx hb hml hown hts (kX7_readsWord l g o d (99 : Int32) 15 (Nat.le_of_ble_eq_true rfl) 16 (Nat.le_of_ble_eq_true rfl) M _ h) cv_X7_readsWord q_1290 rfl rfl ⟨(Nat.le_of_ble_eq_true rfl), (Nat.le_of_ble_eq_true rfl)⟩ hW (Nat.le_of_ble_eq_true rfl) sl_33 rfl rfl hl.1 rfl (Nat.le_of_ble_eq_true rfl) dX7_readsCommand_77 ⟨(Nat.le_of_ble_eq_true rfl), (Nat.le_of_ble_eq_true rfl)⟩) hW (fun  M52 H locs h hW => ?_)
          refine lv_goto (tgt := 233) hx hb dX7_readsCommand_80 (by decide) ?_
          exact sw_rv hx hb hr hlocks hW h dX7_readsCommand_233
      · have h := h.1 k5
        refine lv_aload_n hx hb dX7_readsCommand_47 rfl (lv_at hl 2 rfl) ?_
        refine lv_bipush (v := 101) hx hb dX7_readsCommand_48 (by decide) ?_
        refine sw_ldcW hx hb hown (hW.2.2.2.2.2.2.2.2.1 13 (Nat.le_of_ble_eq_true rfl)).2.2.2.2 dX7_readsCommand_50 ?_
        refine sw_ldcW hx hb hown (hW.2.2.2.2.2.2.2.2.1 14 (Nat.le_of_ble_eq_true rfl)).2.2.2.2 dX7_readsCommand_53 ?_
        refine sw_kv (rest := []) (sw_runV (As := [.int (101 : Int32), .ref (sw_sk g 13), .ref (sw_sk g 14)]) (rest := []) hx hb hml hown hts (kX7_readsWord l g o d (101 : Int32) 13 (Nat.le_of_ble_eq_true rfl) 14 (Nat.le_of_ble_eq_true rfl) M _ h) cv_X7_readsWord q_1290 rfl rfl ⟨(Nat.le_of_ble_eq_true rfl), (Nat.le_of_ble_eq_true rfl)⟩ hW (Nat.le_of_ble_eq_true rfl) sl_33 rfl rfl hl.1 rfl (Nat.le_of_ble_eq_true rfl) dX7_readsCommand_56 ⟨(Nat.le_of_ble_eq_true rfl), (Nat.le_of_ble_eq_true rfl)⟩) hW (fun  M53 H locs h hW => ?_)
        refine lv_goto (tgt := 233) hx hb dX7_readsCommand_59 (by decide) ?_
        exact sw_rv hx hb hr hlocks hW h dX7_readsCommand_233
    · have h := h.1 k4
      refine lv_aload_n hx hb dX7_readsCommand_26 rfl (lv_at hl 2 rfl) ?_
      refine lv_bipush (v := 100) hx hb dX7_readsCommand_27 (by decide) ?_
      refine sw_ldcW hx hb hown (hW.2.2.2.2.2.2.2.2.1 10 (Nat.le_of_ble_eq_true rfl)).2.2.2.2 dX7_readsCommand_29 ?_
      refine sw_ldcW hx hb hown (hW.2.2.2.2.2.2.2.2.1 11 (Nat.le_of_ble_eq_true rfl)).2.2.2.2 dX7_readsCommand_32 ?_
      refine sw_kv (rest := []) (sw_runV (As := [.int (100 : Int32), .ref (sw_sk g 10), .ref (sw_sk g 11)]) (rest := []) hx hb hml hown hts (kX7_readsWord l g o d (100 : Int32) 10 (Nat.le_of_ble_eq_true rfl) 11 (Nat.le_of_ble_eq_true rfl) M _ h) cv_X7_readsWord q_1290 rfl rfl ⟨(Nat.le_of_ble_eq_true rfl), (Nat.le_of_ble_eq_true rfl)⟩ hW (Nat.le_of_ble_eq_true rfl) sl_33 rfl rfl hl.1 rfl (Nat.le_of_ble_eq_true rfl) dX7_readsCommand_35 ⟨(Nat.le_of_ble_eq_true rfl), (Nat.le_of_ble_eq_true rfl)⟩) hW (fun  M54 H locs h hW => ?_)
      refine lv_goto (tgt := 233) hx hb dX7_readsCommand_38 (by decide) ?_
      exact sw_rv hx hb hr hlocks hW h dX7_readsCommand_233
  · have h := h.2 k3
    exact sw_rv hx hb hr hlocks hW h dX7_readsCommand_19

theorem cv_X7_does : sw_cV yX7_does RX7 cX7_does 6 none 1 := ⟨q_1305, q_1413, q_9, q_1306, by decide +kernel⟩
def wX7_does (a1 : Int32) (M : sM) (Q : sM → Prop) : Prop :=
  vp_in (((5 : Int32) * a1) + (1 : Int32)) 300 ∧ (∀ v2 : Int32, v2 = (M 44 ((((5 : Int32) * a1) + (1 : Int32))).toNatClampNeg) → (vp_in (((5 : Int32) * a1) + (2 : Int32)) 300 ∧ (∀ v4 : Int32, v4 = (M 44 ((((5 : Int32) * a1) + (2 : Int32))).toNatClampNeg) → (vp_in (((5 : Int32) * a1) + (3 : Int32)) 300 ∧ (∀ v6 : Int32, v6 = (M 44 ((((5 : Int32) * a1) + (3 : Int32))).toNatClampNeg) → (vp_in ((5 : Int32) * a1) 300 ∧ (∀ v8 : Int32, v8 = (M 44 (((5 : Int32) * a1)).toNatClampNeg) → ((v8 = (97 : Int32) → (wX7_doAssign v2 v4 M (fun r29 M30 => Q M30))) ∧ (¬ v8 = (97 : Int32) → ((v8 = (99 : Int32) → (wX7_doConflict v2 v4 M (fun r27 M28 => Q M28))) ∧ (¬ v8 = (99 : Int32) → ((v8 = (100 : Int32) → (wX7_doAddDoor v2 v4 M (fun r25 M26 => Q M26))) ∧ (¬ v8 = (100 : Int32) → ((v8 = (101 : Int32) → (vp_in (((5 : Int32) * a1) + (4 : Int32)) 300 ∧ (wX7_doAddExaminer v2 v4 v6 (M 44 ((((5 : Int32) * a1) + (4 : Int32))).toNatClampNeg) M (fun r23 M24 => Q M24)))) ∧ (¬ v8 = (101 : Int32) → ((v8 = (103 : Int32) → (wX7_doGrade v2 v4 v6 M (fun r20 M21 => Q M21))) ∧ (¬ v8 = (103 : Int32) → ((v8 = (114 : Int32) → (wX7_doRevoke v2 M (fun r18 M19 => Q M19))) ∧ (¬ v8 = (114 : Int32) → ((v8 = (116 : Int32) → (wX7_doThreshold v2 M (fun r16 M17 => Q M17))) ∧ (¬ v8 = (116 : Int32) → ((v8 = (119 : Int32) → (wX7_doAward v2 M (fun r14 M15 => Q M15))) ∧ (¬ v8 = (119 : Int32) → ((v8 = (120 : Int32) → (wX7_doAppeal v2 M (fun r12 M13 => Q M13))) ∧ (¬ v8 = (120 : Int32) → (wX7_doPlan M (fun r9 M10 => Q M10)))))))))))))))))))))))))))
set_option maxRecDepth 20000 in
theorem kX7_does (l : Launch) (g : sG) (o : Nat → Int64) (d : Nat → UInt64) (a1 : Int32) (M : sM) (Q : sM → Prop) (h : wX7_does a1 M Q) : Met l yX7_does (sw_ws yX7_does cX7_does 6 none) { frames := 17, cells := 0, slots := 0, locals := 400 } (va_Pc [.ref (sw_ad g 33), .int a1] (sw_Pr g o d M)) (va_Qv Q (sw_Po g o d) (sw_A g)) 0 0 (sw_A g) := by
  refine sw_met (by decide) (Nat.le_of_ble_eq_true rfl) ?_
  intro p e s m args below meth c ls hx hb hr hts hown hml hlocks hW hl
  have hown : s.vm.findClass RX7 = some m.cls := hown
  have hl : lv_has ls 6 [(0, .ref (sw_ad g 33)), (1, .int a1)] := hl
  unfold wX7_does at h
  refine lv_aload_n hx hb dX7_does_0 rfl (lv_at hl 0 rfl) ?_
  refine sw_gr (j := 18) (r := 44) hx hb hts hown hW rfl qf_7 (Nat.le_of_ble_eq_true rfl) sl_33 rfl (Nat.le_of_ble_eq_true rfl) q_962 dX7_does_1 ?_
  refine lv_iconst (v := 5) hx hb dX7_does_4 (by decide) ?_
  refine lv_iload_n hx hb dX7_does_5 rfl (lv_at hl 1 rfl) ?_
  refine lv_imul hx hb dX7_does_6 ?_
  refine lv_iconst (v := 1) hx hb dX7_does_7 (by decide) ?_
  refine lv_iadd hx hb dX7_does_8 ?_
  have b1 := h.1
  have h := h.2
  refine sw_ia (n := 300) hx hb hW (Nat.le_of_ble_eq_true rfl) sl_44 b1 dX7_does_9 ?_
  refine lv_topi (fun v2 ev2 => ?_)
  have h := h v2 ev2
  refine lv_istore_n (lv' := [(2, .int v2), (0, .ref (sw_ad g 33)), (1, .int a1)]) hx hb dX7_does_10 rfl hl (Nat.le_of_ble_eq_true rfl) rfl (fun ls hl => ?_)
  refine lv_aload_n hx hb dX7_does_11 rfl (lv_at hl 1 rfl) ?_
  refine sw_gr (j := 18) (r := 44) hx hb hts hown hW rfl qf_7 (Nat.le_of_ble_eq_true rfl) sl_33 rfl (Nat.le_of_ble_eq_true rfl) q_962 dX7_does_12 ?_
  refine lv_iconst (v := 5) hx hb dX7_does_15 (by decide) ?_
  refine lv_iload_n hx hb dX7_does_16 rfl (lv_at hl 2 rfl) ?_
  refine lv_imul hx hb dX7_does_17 ?_
  refine lv_iconst (v := 2) hx hb dX7_does_18 (by decide) ?_
  refine lv_iadd hx hb dX7_does_19 ?_
  have b3 := h.1
  have h := h.2
  refine sw_ia (n := 300) hx hb hW (Nat.le_of_ble_eq_true rfl) sl_44 b3 dX7_does_20 ?_
  refine lv_topi (fun v4 ev4 => ?_)
  have h := h v4 ev4
  refine lv_istore_n (lv' := [(3, .int v4), (2, .int v2), (0, .ref (sw_ad g 33)), (1, .int a1)]) hx hb dX7_does_21 rfl hl (Nat.le_of_ble_eq_true rfl) rfl (fun ls hl => ?_)
  refine lv_aload_n hx hb dX7_does_22 rfl (lv_at hl 2 rfl) ?_
  refine sw_gr (j := 18) (r := 44) hx hb hts hown hW rfl qf_7 (Nat.le_of_ble_eq_true rfl) sl_33 rfl (Nat.le_of_ble_eq_true rfl) q_962 dX7_does_23 ?_
  refine lv_iconst (v := 5) hx hb dX7_does_26 (by decide) ?_
  refine lv_iload_n hx hb dX7_does_27 rfl (lv_at hl 3 rfl) ?_
  refine lv_imul hx hb dX7_does_28 ?_
  refine lv_iconst (v := 3) hx hb dX7_does_29 (by decide) ?_
  refine lv_iadd hx hb dX7_does_30 ?_
  have b5 := h.1
  have h := h.2
  refine sw_ia (n := 300) hx hb hW (Nat.le_of_ble_eq_true rfl) sl_44 b5 dX7_does_31 ?_
  refine lv_topi (fun v6 ev6 => ?_)
  have h := h v6 ev6
  refine lv_istore (lv' := [(4, .int v6), (3, .int v4), (2, .int v2), (0, .ref (sw_ad g 33)), (1, .int a1)]) hx hb dX7_does_32 hl (Nat.le_of_ble_eq_true rfl) rfl (fun ls hl => ?_)
  refine lv_aload_n hx hb dX7_does_34 rfl (lv_at hl 3 rfl) ?_
  refine sw_gr (j := 18) (r := 44) hx hb hts hown hW rfl qf_7 (Nat.le_of_ble_eq_true rfl) sl_33 rfl (Nat.le_of_ble_eq_true rfl) q_962 dX7_does_35 ?_
  refine lv_iconst (v := 5) hx hb dX7_does_38 (by decide) ?_
  refine lv_iload_n hx hb dX7_does_39 rfl (lv_at hl 4 rfl) ?_
  refine lv_imul hx hb dX7_does_40 ?_
  have b7 := h.1
  have h := h.2
  refine sw_ia (n := 300) hx hb hW (Nat.le_of_ble_eq_true rfl) sl_44 b7 dX7_does_41 ?_
  refine lv_topi (fun v8 ev8 => ?_)
  have h := h v8 ev8
  by_cases k11_0 : v8 = (97 : Int32)
  · have h := h.1 k11_0
    refine lv_tableIn (tgt := 217) hx hb dX7_does_42 (by rw [k11_0]; decide) (by rw [k11_0]; decide) (by rw [k11_0]; rfl) (by decide) ?_
    refine lv_aload_n hx hb dX7_does_217 rfl (lv_at hl 3 rfl) ?_
    refine lv_iload_n hx hb dX7_does_218 rfl (lv_at hl 2 rfl) ?_
    refine lv_iload_n hx hb dX7_does_219 rfl (lv_at hl 1 rfl) ?_
    refine sw_ki (rest := []) (sw_runV (As := [.int v2, .int v4]) (rest := []) hx hb hml hown hts (kX7_doAssign l g o d v2 v4 M _ h) cv_X7_doAssign q_1040 rfl rfl ⟨(Nat.le_of_ble_eq_true rfl), (Nat.le_of_ble_eq_true rfl)⟩ hW (Nat.le_of_ble_eq_true rfl) sl_33 rfl rfl hl.1 rfl (Nat.le_of_ble_eq_true rfl) dX7_does_220 ⟨(Nat.le_of_ble_eq_true rfl), (Nat.le_of_ble_eq_true rfl)⟩) hW (fun r29 M30 H locs h hW => ?_)
    refine lv_istore (lv' := [(5, .int r29), (4, .int v6), (3, .int v4), (2, .int v2), (0, .ref (sw_ad g 33)), (1, .int a1)]) hx hb dX7_does_223 hl (Nat.le_of_ble_eq_true rfl) rfl (fun ls hl => ?_)
    refine lv_goto (tgt := 267) hx hb dX7_does_225 (by decide) ?_
    exact sw_rv hx hb hr hlocks hW h dX7_does_267
  · have h := h.2 k11_0
    by_cases k11_1 : v8 = (99 : Int32)
    · have h := h.1 k11_1
      refine lv_tableIn (tgt := 186) hx hb dX7_does_42 (by rw [k11_1]; decide) (by rw [k11_1]; decide) (by rw [k11_1]; rfl) (by decide) ?_
      refine lv_aload_n hx hb dX7_does_186 rfl (lv_at hl 3 rfl) ?_
      refine lv_iload_n hx hb dX7_does_187 rfl (lv_at hl 2 rfl) ?_
      refine lv_iload_n hx hb dX7_does_188 rfl (lv_at hl 1 rfl) ?_
      refine sw_ki (rest := []) (sw_runV (As := [.int v2, .int v4]) (rest := []) hx hb hml hown hts (kX7_doConflict l g o d v2 v4 M _ h) cv_X7_doConflict q_1006 rfl rfl ⟨(Nat.le_of_ble_eq_true rfl), (Nat.le_of_ble_eq_true rfl)⟩ hW (Nat.le_of_ble_eq_true rfl) sl_33 rfl rfl hl.1 rfl (Nat.le_of_ble_eq_true rfl) dX7_does_189 ⟨(Nat.le_of_ble_eq_true rfl), (Nat.le_of_ble_eq_true rfl)⟩) hW (fun r27 M28 H locs h hW => ?_)
      refine lv_istore (lv' := [(5, .int r27), (4, .int v6), (3, .int v4), (2, .int v2), (0, .ref (sw_ad g 33)), (1, .int a1)]) hx hb dX7_does_192 hl (Nat.le_of_ble_eq_true rfl) rfl (fun ls hl => ?_)
      refine lv_goto (tgt := 267) hx hb dX7_does_194 (by decide) ?_
      exact sw_rv hx hb hr hlocks hW h dX7_does_267
    · have h := h.2 k11_1
      by_cases k11_2 : v8 = (100 : Int32)
      · have h := h.1 k11_2
        refine lv_tableIn (tgt := 152) hx hb dX7_does_42 (by rw [k11_2]; decide) (by rw [k11_2]; decide) (by rw [k11_2]; rfl) (by decide) ?_
        refine lv_aload_n hx hb dX7_does_152 rfl (lv_at hl 3 rfl) ?_
        refine lv_iload_n hx hb dX7_does_153 rfl (lv_at hl 2 rfl) ?_
        refine lv_iload_n hx hb dX7_does_154 rfl (lv_at hl 1 rfl) ?_
        refine sw_ki (rest := []) (sw_runV (As := [.int v2, .int v4]) (rest := []) hx hb hml hown hts (kX7_doAddDoor l g o d v2 v4 M _ h) cv_X7_doAddDoor q_980 rfl rfl ⟨(Nat.le_of_ble_eq_true rfl), (Nat.le_of_ble_eq_true rfl)⟩ hW (Nat.le_of_ble_eq_true rfl) sl_33 rfl rfl hl.1 rfl (Nat.le_of_ble_eq_true rfl) dX7_does_155 ⟨(Nat.le_of_ble_eq_true rfl), (Nat.le_of_ble_eq_true rfl)⟩) hW (fun r25 M26 H locs h hW => ?_)
        refine lv_istore (lv' := [(5, .int r25), (4, .int v6), (3, .int v4), (2, .int v2), (0, .ref (sw_ad g 33)), (1, .int a1)]) hx hb dX7_does_158 hl (Nat.le_of_ble_eq_true rfl) rfl (fun ls hl => ?_)
        refine lv_goto (tgt := 267) hx hb dX7_does_160 (by decide) ?_
        exact sw_rv hx hb hr hlocks hW h dX7_does_267
      · have h := h.2 k11_2
        by_cases k11_3 : v8 = (101 : Int32)
        · have h := h.1 k11_3
          refine lv_tableIn (tgt := 163) hx hb dX7_does_42 (by rw [k11_3]; decide) (by rw [k11_3]; decide) (by rw [k11_3]; rfl) (by decide) ?_
          refine lv_aload_n hx hb dX7_does_163 rfl (lv_at hl 3 rfl) ?_
          refine lv_iload_n hx hb dX7_does_164 rfl (lv_at hl 2 rfl) ?_
          refine lv_iload_n hx hb dX7_does_165 rfl (lv_at hl 1 rfl) ?_
          refine lv_iload hx hb dX7_does_166 (lv_at hl 0 rfl) ?_
          refine lv_aload_n hx hb dX7_does_168 rfl (lv_at hl 3 rfl) ?_
          refine sw_gr (j := 18) (r := 44) hx hb hts hown hW rfl qf_7 (Nat.le_of_ble_eq_true rfl) sl_33 rfl (Nat.le_of_ble_eq_true rfl) q_962 dX7_does_169 ?_
          refine lv_iconst (v := 5) hx hb dX7_does_172 (by decide) ?_
          refine lv_iload_n hx hb dX7_does_173 rfl (lv_at hl 4 rfl) ?_
          refine lv_imul hx hb dX7_does_174 ?_
          refine lv_iconst (v := 4) hx hb dX7_does_175 (by decide) ?_
          refine lv_iadd hx hb dX7_does_176 ?_
          have b22 := h.1
          have h := h.2
          refine sw_ia (n := 300) hx hb hW (Nat.le_of_ble_eq_true rfl) sl_44 b22 dX7_does_177 ?_
          refine sw_ki (rest := []) (sw_runV (As := [.int v2, .int v4, .int v6, .int (M 44 ((((5 : Int32) * a1) + (4 : Int32))).toNatClampNeg)]) (rest := []) hx hb hml hown hts (kX7_doAddExaminer l g o d v2 v4 v6 (M 44 ((((5 : Int32) * a1) + (4 : Int32))).toNatClampNeg) M _ h) cv_X7_doAddExaminer q_999 rfl rfl ⟨(Nat.le_of_ble_eq_true rfl), (Nat.le_of_ble_eq_true rfl)⟩ hW (Nat.le_of_ble_eq_true rfl) sl_33 rfl rfl hl.1 rfl (Nat.le_of_ble_eq_true rfl) dX7_does_178 ⟨(Nat.le_of_ble_eq_true rfl), (Nat.le_of_ble_eq_true rfl)⟩) hW (fun r23 M24 H locs h hW => ?_)
          refine lv_istore (lv' := [(5, .int r23), (4, .int v6), (3, .int v4), (2, .int v2), (0, .ref (sw_ad g 33)), (1, .int a1)]) hx hb dX7_does_181 hl (Nat.le_of_ble_eq_true rfl) rfl (fun ls hl => ?_)
          refine lv_goto (tgt := 267) hx hb dX7_does_183 (by decide) ?_
          exact sw_rv hx hb hr hlocks hW h dX7_does_267
        · have h := h.2 k11_3
          by_cases k11_4 : v8 = (103 : Int32)
          · have h := h.1 k11_4
            refine lv_tableIn (tgt := 228) hx hb dX7_does_42 (by rw [k11_4]; decide) (by rw [k11_4]; decide) (by rw [k11_4]; rfl) (by decide) ?_
            refine lv_aload_n hx hb dX7_does_228 rfl (lv_at hl 3 rfl) ?_
            refine lv_iload_n hx hb dX7_does_229 rfl (lv_at hl 2 rfl) ?_
            refine lv_iload_n hx hb dX7_does_230 rfl (lv_at hl 1 rfl) ?_
            refine lv_iload hx hb dX7_does_231 (lv_at hl 0 rfl) ?_
            refine sw_ki (rest := []) (sw_runV (As := [.int v2, .int v4, .int v6]) (rest := []) hx hb hml hown hts (kX7_doGrade l g o d v2 v4 v6 M _ h) cv_X7_doGrade q_1078 rfl rfl ⟨(Nat.le_of_ble_eq_true rfl), (Nat.le_of_ble_eq_true rfl)⟩ hW (Nat.le_of_ble_eq_true rfl) sl_33 rfl rfl hl.1 rfl (Nat.le_of_ble_eq_true rfl) dX7_does_233 ⟨(Nat.le_of_ble_eq_true rfl), (Nat.le_of_ble_eq_true rfl)⟩) hW (fun r20 M21 H locs h hW => ?_)
            refine lv_istore (lv' := [(5, .int r20), (4, .int v6), (3, .int v4), (2, .int v2), (0, .ref (sw_ad g 33)), (1, .int a1)]) hx hb dX7_does_236 hl (Nat.le_of_ble_eq_true rfl) rfl (fun ls hl => ?_)
            refine lv_goto (tgt := 267) hx hb dX7_does_238 (by decide) ?_
            exact sw_rv hx hb hr hlocks hW h dX7_does_267
          · have h := h.2 k11_4
            by_cases k11_5 : v8 = (114 : Int32)
            · have h := h.1 k11_5
              refine lv_tableIn (tgt := 251) hx hb dX7_does_42 (by rw [k11_5]; decide) (by rw [k11_5]; decide) (by rw [k11_5]; rfl) (by decide) ?_
              refine lv_aload_n hx hb dX7_does_251 rfl (lv_at hl 3 rfl) ?_
              refine lv_iload_n hx hb dX7_does_252 rfl (lv_at hl 2 rfl) ?_
              refine sw_ki (rest := []) (sw_runV (As := [.int v2]) (rest := []) hx hb hml hown hts (kX7_doRevoke l g o d v2 M _ h) cv_X7_doRevoke q_1126 rfl rfl ⟨(Nat.le_of_ble_eq_true rfl), (Nat.le_of_ble_eq_true rfl)⟩ hW (Nat.le_of_ble_eq_true rfl) sl_33 rfl rfl hl.1 rfl (Nat.le_of_ble_eq_true rfl) dX7_does_253 ⟨(Nat.le_of_ble_eq_true rfl), (Nat.le_of_ble_eq_true rfl)⟩) hW (fun r18 M19 H locs h hW => ?_)
              refine lv_istore (lv' := [(5, .int r18), (4, .int v6), (3, .int v4), (2, .int v2), (0, .ref (sw_ad g 33)), (1, .int a1)]) hx hb dX7_does_256 hl (Nat.le_of_ble_eq_true rfl) rfl (fun ls hl => ?_)
              refine lv_goto (tgt := 267) hx hb dX7_does_258 (by decide) ?_
              exact sw_rv hx hb hr hlocks hW h dX7_does_267
            · have h := h.2 k11_5
              by_cases k11_6 : v8 = (116 : Int32)
              · have h := h.1 k11_6
                refine lv_tableIn (tgt := 241) hx hb dX7_does_42 (by rw [k11_6]; decide) (by rw [k11_6]; decide) (by rw [k11_6]; rfl) (by decide) ?_
                refine lv_aload_n hx hb dX7_does_241 rfl (lv_at hl 3 rfl) ?_
                refine lv_iload_n hx hb dX7_does_242 rfl (lv_at hl 2 rfl) ?_
                refine sw_ki (rest := []) (sw_runV (As := [.int v2]) (rest := []) hx hb hml hown hts (kX7_doThreshold l g o d v2 M _ h) cv_X7_doThreshold q_1088 rfl rfl ⟨(Nat.le_of_ble_eq_true rfl), (Nat.le_of_ble_eq_true rfl)⟩ hW (Nat.le_of_ble_eq_true rfl) sl_33 rfl rfl hl.1 rfl (Nat.le_of_ble_eq_true rfl) dX7_does_243 ⟨(Nat.le_of_ble_eq_true rfl), (Nat.le_of_ble_eq_true rfl)⟩) hW (fun r16 M17 H locs h hW => ?_)
                refine lv_istore (lv' := [(5, .int r16), (4, .int v6), (3, .int v4), (2, .int v2), (0, .ref (sw_ad g 33)), (1, .int a1)]) hx hb dX7_does_246 hl (Nat.le_of_ble_eq_true rfl) rfl (fun ls hl => ?_)
                refine lv_goto (tgt := 267) hx hb dX7_does_248 (by decide) ?_
                exact sw_rv hx hb hr hlocks hW h dX7_does_267
              · have h := h.2 k11_6
                by_cases k11_7 : v8 = (119 : Int32)
                · have h := h.1 k11_7
                  refine lv_tableIn (tgt := 207) hx hb dX7_does_42 (by rw [k11_7]; decide) (by rw [k11_7]; decide) (by rw [k11_7]; rfl) (by decide) ?_
                  refine lv_aload_n hx hb dX7_does_207 rfl (lv_at hl 3 rfl) ?_
                  refine lv_iload_n hx hb dX7_does_208 rfl (lv_at hl 2 rfl) ?_
                  refine sw_ki (rest := []) (sw_runV (As := [.int v2]) (rest := []) hx hb hml hown hts (kX7_doAward l g o d v2 M _ h) cv_X7_doAward q_1116 rfl rfl ⟨(Nat.le_of_ble_eq_true rfl), (Nat.le_of_ble_eq_true rfl)⟩ hW (Nat.le_of_ble_eq_true rfl) sl_33 rfl rfl hl.1 rfl (Nat.le_of_ble_eq_true rfl) dX7_does_209 ⟨(Nat.le_of_ble_eq_true rfl), (Nat.le_of_ble_eq_true rfl)⟩) hW (fun r14 M15 H locs h hW => ?_)
                  refine lv_istore (lv' := [(5, .int r14), (4, .int v6), (3, .int v4), (2, .int v2), (0, .ref (sw_ad g 33)), (1, .int a1)]) hx hb dX7_does_212 hl (Nat.le_of_ble_eq_true rfl) rfl (fun ls hl => ?_)
                  refine lv_goto (tgt := 267) hx hb dX7_does_214 (by decide) ?_
                  exact sw_rv hx hb hr hlocks hW h dX7_does_267
                · have h := h.2 k11_7
                  by_cases k11_8 : v8 = (120 : Int32)
                  · have h := h.1 k11_8
                    refine lv_tableIn (tgt := 197) hx hb dX7_does_42 (by rw [k11_8]; decide) (by rw [k11_8]; decide) (by rw [k11_8]; rfl) (by decide) ?_
                    refine lv_aload_n hx hb dX7_does_197 rfl (lv_at hl 3 rfl) ?_
                    refine lv_iload_n hx hb dX7_does_198 rfl (lv_at hl 2 rfl) ?_
                    refine sw_ki (rest := []) (sw_runV (As := [.int v2]) (rest := []) hx hb hml hown hts (kX7_doAppeal l g o d v2 M _ h) cv_X7_doAppeal q_1095 rfl rfl ⟨(Nat.le_of_ble_eq_true rfl), (Nat.le_of_ble_eq_true rfl)⟩ hW (Nat.le_of_ble_eq_true rfl) sl_33 rfl rfl hl.1 rfl (Nat.le_of_ble_eq_true rfl) dX7_does_199 ⟨(Nat.le_of_ble_eq_true rfl), (Nat.le_of_ble_eq_true rfl)⟩) hW (fun r12 M13 H locs h hW => ?_)
                    refine lv_istore (lv' := [(5, .int r12), (4, .int v6), (3, .int v4), (2, .int v2), (0, .ref (sw_ad g 33)), (1, .int a1)]) hx hb dX7_does_202 hl (Nat.le_of_ble_eq_true rfl) rfl (fun ls hl => ?_)
                    refine lv_goto (tgt := 267) hx hb dX7_does_204 (by decide) ?_
                    exact sw_rv hx hb hr hlocks hW h dX7_does_267
                  · have h := h.2 k11_8
                    refine sw_tdef (tgt := 261) hx hb dX7_does_42 (by intro hz; have e0 := lv_neT k11_0 (by decide : ((97) : Int32).toInt = 97); have e1 := lv_neT k11_1 (by decide : ((99) : Int32).toInt = 99); have e2 := lv_neT k11_2 (by decide : ((100) : Int32).toInt = 100); have e3 := lv_neT k11_3 (by decide : ((101) : Int32).toInt = 101); have e4 := lv_neT k11_4 (by decide : ((103) : Int32).toInt = 103); have e5 := lv_neT k11_5 (by decide : ((114) : Int32).toInt = 114); have e6 := lv_neT k11_6 (by decide : ((116) : Int32).toInt = 116); have e7 := lv_neT k11_7 (by decide : ((119) : Int32).toInt = 119); have e8 := lv_neT k11_8 (by decide : ((120) : Int32).toInt = 120); have hq : v8.toInt = 98 ∨ v8.toInt = 102 ∨ v8.toInt = 104 ∨ v8.toInt = 105 ∨ v8.toInt = 106 ∨ v8.toInt = 107 ∨ v8.toInt = 108 ∨ v8.toInt = 109 ∨ v8.toInt = 110 ∨ v8.toInt = 111 ∨ v8.toInt = 112 ∨ v8.toInt = 113 ∨ v8.toInt = 115 ∨ v8.toInt = 117 ∨ v8.toInt = 118 := (by omega); rcases hq with hq | hq | hq | hq | hq | hq | hq | hq | hq | hq | hq | hq | hq | hq | hq <;> (rw [hq]; try rfl)) (by decide) ?_
                    refine lv_aload_n hx hb dX7_does_261 rfl (lv_at hl 3 rfl) ?_
                    refine sw_ki (rest := []) (sw_runV (As := []) (rest := []) hx hb hml hown hts (kX7_doPlan l g o d M _ h) cv_X7_doPlan q_1056 rfl rfl ⟨(Nat.le_of_ble_eq_true rfl), (Nat.le_of_ble_eq_true rfl)⟩ hW (Nat.le_of_ble_eq_true rfl) sl_33 rfl rfl hl.1 rfl (Nat.le_of_ble_eq_true rfl) dX7_does_262 ⟨(Nat.le_of_ble_eq_true rfl), (Nat.le_of_ble_eq_true rfl)⟩) hW (fun r9 M10 H locs h hW => ?_)
                    refine lv_istore (lv' := [(5, .int r9), (4, .int v6), (3, .int v4), (2, .int v2), (0, .ref (sw_ad g 33)), (1, .int a1)]) hx hb dX7_does_265 hl (Nat.le_of_ble_eq_true rfl) rfl (fun ls hl => ?_)
                    exact sw_rv hx hb hr hlocks hW h dX7_does_267

def lX7_run_126 (Q : Int32 → sM → Prop) (K126 : sM → Prop) : Nat → Int32 → sM → Prop
  | 0, _, _ => False
  | n126 + 1, x1_126, M_126 => ((M_126 33 19) ≤ x1_126 → (K126 M_126)) ∧ (¬ (M_126 33 19) ≤ x1_126 → (wX7_does x1_126 M_126 (fun M16 => ((M16 33 6) ≤ 0 → (∀ v18 : Int32, v18 = x1_126 + (1 : Int32) → ((fun x1_126 M_126 => lX7_run_126 Q K126 n126 x1_126 M_126) v18 M16))) ∧ (¬ (M16 33 6) ≤ 0 → (∀ M19 : sM, M19 = sw_ms M16 33 17 x1_126 → (wX7_fails (2 : Int32) M19 (fun r20 M21 => wX7_ends r20 M21 (fun r22 M23 => Q r22 M23))))))))
def jX7_run_99 (M5 : sM) (Q : Int32 → sM → Prop) (t0_99 : Int32) : Prop :=
  ∀ M7 : sM, M7 = sw_ms M5 33 16 t0_99 → (∀ M8 : sM, M8 = sw_ms M7 33 13 (0 : Int32) → (((M8 33 15) = 0 → (wX7_keep M8 (fun M10 => ∃ n126, lX7_run_126 Q (fun M_126k => wX7_ends (M_126k 33 19) M_126k (fun r11 M12 => Q r11 M12)) n126 (0 : Int32) M10))) ∧ (¬ (M8 33 15) = 0 → (wX7_fails (1 : Int32) M8 (fun r24 M25 => Q r24 M25)))))
def jX7_run_77 (M_19k : sM) (Q : Int32 → sM → Prop) (t0_77 : Int32) : Prop :=
  (narrow .boolean (.int t0_77) = .int t0_77 ∧ fits .boolean (.int t0_77) = true) ∧ (∀ M5 : sM, M5 = sw_ms M_19k 33 15 t0_77 → (((M5 33 15) = 0 → (jX7_run_99 M5 Q (M5 33 16))) ∧ (¬ (M5 33 15) = 0 → (jX7_run_99 M5 Q (M5 33 14)))))
def lX7_run_19 (K19 : sM → Prop) : Nat → sM → Prop
  | 0, _ => False
  | n19 + 1, M_19 => ((M_19 33 15) = 0 → (wX7_behind (0 : Int32) M_19 (fun r30 => (r30 = (59 : Int32) → (∀ M32 : sM, M32 = sw_ms M_19 33 14 ((M_19 33 14) + (1 : Int32)) → (wX7_readsCommand M32 (fun M33 => (fun M_19 => lX7_run_19 K19 n19 M_19) M33)))) ∧ (¬ r30 = (59 : Int32) → (K19 M_19))))) ∧ (¬ (M_19 33 15) = 0 → (K19 M_19))
theorem cv_X7_run : sw_cV yX7_run RX7 cX7_run 2 (some .int) 0 := ⟨q_1281, q_1282, q_9, q_1283, by decide +kernel⟩
def wX7_run  (M : sM) (Q : Int32 → sM → Prop) : Prop :=
  ∀ M1 : sM, M1 = sw_ms M 33 14 (0 : Int32) → (∀ M2 : sM, M2 = sw_ms M1 33 15 (0 : Int32) → (∀ M3 : sM, M3 = sw_ms M2 33 19 (0 : Int32) → (wX7_readsCommand M3 (fun M4 => ∃ n19, lX7_run_19 (fun M_19k => ((M_19k 33 15) = 0 → (((M_19k 33 13) ≤ (M_19k 33 14) → (jX7_run_77 M_19k Q (0 : Int32))) ∧ (¬ (M_19k 33 13) ≤ (M_19k 33 14) → (jX7_run_77 M_19k Q (1 : Int32))))) ∧ (¬ (M_19k 33 15) = 0 → (jX7_run_77 M_19k Q (1 : Int32)))) n19 M4))))
set_option maxRecDepth 20000 in
theorem kX7_run (l : Launch) (g : sG) (o : Nat → Int64) (d : Nat → UInt64)  (M : sM) (Q : Int32 → sM → Prop) (h : wX7_run  M Q) : Met l yX7_run (sw_ws yX7_run cX7_run 2 (some .int)) { frames := 18, cells := 0, slots := 0, locals := 425 } (va_Pc [.ref (sw_ad g 33)] (sw_Pr g o d M)) (va_Qi Q (sw_Po g o d) (sw_A g)) 0 0 (sw_A g) := by
  refine sw_met (by decide) (Nat.le_of_ble_eq_true rfl) ?_
  intro p e s m args below meth c ls hx hb hr hts hown hml hlocks hW hl
  have hown : s.vm.findClass RX7 = some m.cls := hown
  have hl : lv_has ls 2 [(0, .ref (sw_ad g 33))] := hl
  unfold wX7_run at h
  refine lv_aload_n hx hb dX7_run_0 rfl (lv_at hl 0 rfl) ?_
  refine lv_iconst (v := 0) hx hb dX7_run_1 (by decide) ?_
  refine sw_pi (j := 14) hx hb hts hown hW rfl qf_7 tyX7 tyX7_ok nmX7 (Nat.le_of_ble_eq_true rfl) sl_33 rfl (Nat.le_of_ble_eq_true rfl) q_958 rfl rfl rfl dX7_run_2 (fun H locs hW => ?_)
  obtain ⟨M1, eM1⟩ : ∃ z : sM, z = sw_ms M 33 14 (0 : Int32) := ⟨_, rfl⟩
  rw [← eM1] at hW
  have h := h M1 eM1
  refine lv_aload_n hx hb dX7_run_5 rfl (lv_at hl 0 rfl) ?_
  refine lv_iconst (v := 0) hx hb dX7_run_6 (by decide) ?_
  refine sw_pi (j := 15) hx hb hts hown hW rfl qf_7 tyX7 tyX7_ok nmX7 (Nat.le_of_ble_eq_true rfl) sl_33 rfl (Nat.le_of_ble_eq_true rfl) q_959 rfl (by decide) (by decide) dX7_run_7 (fun H locs hW => ?_)
  obtain ⟨M2, eM2⟩ : ∃ z : sM, z = sw_ms M1 33 15 (0 : Int32) := ⟨_, rfl⟩
  rw [← eM2] at hW
  have h := h M2 eM2
  refine lv_aload_n hx hb dX7_run_10 rfl (lv_at hl 0 rfl) ?_
  refine lv_iconst (v := 0) hx hb dX7_run_11 (by decide) ?_
  refine sw_pi (j := 19) hx hb hts hown hW rfl qf_7 tyX7 tyX7_ok nmX7 (Nat.le_of_ble_eq_true rfl) sl_33 rfl (Nat.le_of_ble_eq_true rfl) q_963 rfl rfl rfl dX7_run_12 (fun H locs hW => ?_)
  obtain ⟨M3, eM3⟩ : ∃ z : sM, z = sw_ms M2 33 19 (0 : Int32) := ⟨_, rfl⟩
  rw [← eM3] at hW
  have h := h M3 eM3
  refine lv_aload_n hx hb dX7_run_15 rfl (lv_at hl 0 rfl) ?_
  refine sw_kv (rest := []) (sw_runV (As := []) (rest := []) hx hb hml hown hts (kX7_readsCommand l g o d M3 _ h) cv_X7_readsCommand q_1284 rfl rfl ⟨(Nat.le_of_ble_eq_true rfl), (Nat.le_of_ble_eq_true rfl)⟩ hW (Nat.le_of_ble_eq_true rfl) sl_33 rfl rfl hl.1 rfl (Nat.le_of_ble_eq_true rfl) dX7_run_16 ⟨(Nat.le_of_ble_eq_true rfl), (Nat.le_of_ble_eq_true rfl)⟩) hW (fun  M4 H locs h hW => ?_)
  obtain ⟨n19, h⟩ := h
  refine sw_jn_M (g := g) (o := o) (d := d) (nL := 2) (jp := 53) (J := (fun M_19k => ((M_19k 33 15) = 0 → (((M_19k 33 13) ≤ (M_19k 33 14) → (jX7_run_77 M_19k Q (0 : Int32))) ∧ (¬ (M_19k 33 13) ≤ (M_19k 33 14) → (jX7_run_77 M_19k Q (1 : Int32))))) ∧ (¬ (M_19k 33 15) = 0 → (jX7_run_77 M_19k Q (1 : Int32))))) (Lf := fun M_19k => [(0, .ref (sw_ad g 33))]) (Sf := fun M_19k => []) (fun M_19k H locs ls h hW hl => ?_) (fun hX19 => ?_)
  · refine lv_aload_n hx hb dX7_run_53 rfl (lv_at hl 0 rfl) ?_
    refine lv_aload_n hx hb dX7_run_54 rfl (lv_at hl 0 rfl) ?_
    refine sw_gi (j := 15) hx hb hts hown hW rfl qf_7 (Nat.le_of_ble_eq_true rfl) sl_33 rfl (Nat.le_of_ble_eq_true rfl) q_959 dX7_run_55 ?_
    refine sw_jn_i (g := g) (o := o) (d := d) (nL := 2) (M := M_19k) (jp := 77) (J := fun t0_77 => jX7_run_77 M_19k Q t0_77) (Lf := fun t0_77 => [(0, .ref (sw_ad g 33))]) (Sf := fun t0_77 => [.int t0_77, .ref (sw_ad g 33)]) (fun t0_77 H locs ls h hW hl => ?_) (fun hJ77 => ?_)
    · unfold jX7_run_77 at h
      have z6 := h.1
      have h := h.2
      refine sw_pi (j := 15) hx hb hts hown hW rfl qf_7 tyX7 tyX7_ok nmX7 (Nat.le_of_ble_eq_true rfl) sl_33 rfl (Nat.le_of_ble_eq_true rfl) q_959 rfl z6.1 z6.2 dX7_run_77 (fun H locs hW => ?_)
      obtain ⟨M5, eM5⟩ : ∃ z : sM, z = sw_ms M_19k 33 15 t0_77 := ⟨_, rfl⟩
      rw [← eM5] at hW
      have h := h M5 eM5
      refine lv_aload_n hx hb dX7_run_80 rfl (lv_at hl 0 rfl) ?_
      refine lv_aload_n hx hb dX7_run_81 rfl (lv_at hl 0 rfl) ?_
      refine sw_gi (j := 15) hx hb hts hown hW rfl qf_7 (Nat.le_of_ble_eq_true rfl) sl_33 rfl (Nat.le_of_ble_eq_true rfl) q_959 dX7_run_82 ?_
      refine sw_jn_i (g := g) (o := o) (d := d) (nL := 2) (M := M5) (jp := 99) (J := fun t0_99 => jX7_run_99 M5 Q t0_99) (Lf := fun t0_99 => [(0, .ref (sw_ad g 33))]) (Sf := fun t0_99 => [.int t0_99, .ref (sw_ad g 33)]) (fun t0_99 H locs ls h hW hl => ?_) (fun hJ99 => ?_)
      · unfold jX7_run_99 at h
        refine sw_pi (j := 16) hx hb hts hown hW rfl qf_7 tyX7 tyX7_ok nmX7 (Nat.le_of_ble_eq_true rfl) sl_33 rfl (Nat.le_of_ble_eq_true rfl) q_960 rfl rfl rfl dX7_run_99 (fun H locs hW => ?_)
        obtain ⟨M7, eM7⟩ : ∃ z : sM, z = sw_ms M5 33 16 t0_99 := ⟨_, rfl⟩
        rw [← eM7] at hW
        have h := h M7 eM7
        refine lv_aload_n hx hb dX7_run_102 rfl (lv_at hl 0 rfl) ?_
        refine lv_iconst (v := 0) hx hb dX7_run_103 (by decide) ?_
        refine sw_pi (j := 13) hx hb hts hown hW rfl qf_7 tyX7 tyX7_ok nmX7 (Nat.le_of_ble_eq_true rfl) sl_33 rfl (Nat.le_of_ble_eq_true rfl) q_957 rfl rfl rfl dX7_run_104 (fun H locs hW => ?_)
        obtain ⟨M8, eM8⟩ : ∃ z : sM, z = sw_ms M7 33 13 (0 : Int32) := ⟨_, rfl⟩
        rw [← eM8] at hW
        have h := h M8 eM8
        refine lv_aload_n hx hb dX7_run_107 rfl (lv_at hl 0 rfl) ?_
        refine sw_gi (j := 15) hx hb hts hown hW rfl qf_7 (Nat.le_of_ble_eq_true rfl) sl_33 rfl (Nat.le_of_ble_eq_true rfl) q_959 dX7_run_108 ?_
        refine lv_if_eq (tgt := 120) hx hb dX7_run_111 (by decide) (fun k9 => ?_) (fun k9 => ?_)
        · have h := h.1 k9
          refine lv_aload_n hx hb dX7_run_120 rfl (lv_at hl 0 rfl) ?_
          refine sw_kv (rest := []) (sw_runV (As := []) (rest := []) hx hb hml hown hts (kX7_keep l g o d M8 _ h) cv_X7_keep q_974 rfl rfl ⟨(Nat.le_of_ble_eq_true rfl), (Nat.le_of_ble_eq_true rfl)⟩ hW (Nat.le_of_ble_eq_true rfl) sl_33 rfl rfl hl.1 rfl (Nat.le_of_ble_eq_true rfl) dX7_run_121 ⟨(Nat.le_of_ble_eq_true rfl), (Nat.le_of_ble_eq_true rfl)⟩) hW (fun  M10 H locs h hW => ?_)
          refine lv_iconst (v := 0) hx hb dX7_run_124 (by decide) ?_
          refine lv_istore_n (lv' := [(1, .int (0 : Int32)), (0, .ref (sw_ad g 33))]) hx hb dX7_run_125 rfl hl (Nat.le_of_ble_eq_true rfl) rfl (fun ls hl => ?_)
          obtain ⟨n126, h⟩ := h
          refine sw_lp_iM (hd := 126) (Lf := fun x1_126 M_126 => [(0, .ref (sw_ad g 33)), (1, .int x1_126)]) h hW (lv_sub hl [1, 0] rfl) (fun _ _ h => h) (fun n126 ih126 x1_126 M_126 H locs ls h hW hl => ?_)
          rw [lX7_run_126.eq_2] at h
          refine lv_iload_n hx hb dX7_run_126 rfl (lv_at hl 1 rfl) ?_
          refine lv_aload_n hx hb dX7_run_127 rfl (lv_at hl 0 rfl) ?_
          refine sw_gi (j := 19) hx hb hts hown hW rfl qf_7 (Nat.le_of_ble_eq_true rfl) sl_33 rfl (Nat.le_of_ble_eq_true rfl) q_963 dX7_run_128 ?_
          refine lv_icmp_ge (tgt := 167) hx hb dX7_run_131 (by decide) (fun k13 => ?_) (fun k13 => ?_)
          · have h := h.1 k13
            refine lv_aload_n hx hb dX7_run_167 rfl (lv_at hl 0 rfl) ?_
            refine lv_aload_n hx hb dX7_run_168 rfl (lv_at hl 0 rfl) ?_
            refine sw_gi (j := 19) hx hb hts hown hW rfl qf_7 (Nat.le_of_ble_eq_true rfl) sl_33 rfl (Nat.le_of_ble_eq_true rfl) q_963 dX7_run_169 ?_
            refine sw_ki (rest := []) (sw_runV (As := [.int (M_126 33 19)]) (rest := []) hx hb hml hown hts (kX7_ends l g o d (M_126 33 19) M_126 _ h) cv_X7_ends q_992 rfl rfl ⟨(Nat.le_of_ble_eq_true rfl), (Nat.le_of_ble_eq_true rfl)⟩ hW (Nat.le_of_ble_eq_true rfl) sl_33 rfl rfl hl.1 rfl (Nat.le_of_ble_eq_true rfl) dX7_run_172 ⟨(Nat.le_of_ble_eq_true rfl), (Nat.le_of_ble_eq_true rfl)⟩) hW (fun r14 M15 H locs h hW => ?_)
            exact sw_ri hx hb hr hlocks hW rfl h dX7_run_175
          · have h := h.2 k13
            refine lv_aload_n hx hb dX7_run_134 rfl (lv_at hl 0 rfl) ?_
            refine lv_iload_n hx hb dX7_run_135 rfl (lv_at hl 1 rfl) ?_
            refine sw_kv (rest := []) (sw_runV (As := [.int x1_126]) (rest := []) hx hb hml hown hts (kX7_does l g o d x1_126 M_126 _ h) cv_X7_does q_1304 rfl rfl ⟨(Nat.le_of_ble_eq_true rfl), (Nat.le_of_ble_eq_true rfl)⟩ hW (Nat.le_of_ble_eq_true rfl) sl_33 rfl rfl hl.1 rfl (Nat.le_of_ble_eq_true rfl) dX7_run_136 ⟨(Nat.le_of_ble_eq_true rfl), (Nat.le_of_ble_eq_true rfl)⟩) hW (fun  M16 H locs h hW => ?_)
            refine lv_aload_n hx hb dX7_run_139 rfl (lv_at hl 0 rfl) ?_
            refine sw_gi (j := 6) hx hb hts hown hW rfl qf_7 (Nat.le_of_ble_eq_true rfl) sl_33 rfl (Nat.le_of_ble_eq_true rfl) q_950 dX7_run_140 ?_
            refine lv_if_le (tgt := 161) hx hb dX7_run_143 (by decide) (fun k17 => ?_) (fun k17 => ?_)
            · have h := h.1 k17
              obtain ⟨v18, ev18⟩ : ∃ z : Int32, z = x1_126 + (1 : Int32) := ⟨_, rfl⟩
              have h := h v18 ev18
              refine lv_iinc (v := v18) (lv' := [(1, .int v18), (0, .ref (sw_ad g 33))]) hx hb dX7_run_161 hl (k := 1) rfl (by rw [ev18]; rfl) (Nat.le_of_ble_eq_true rfl) rfl (fun ls hl => ?_)
              refine lv_goto (tgt := 126) hx hb dX7_run_164 (by decide) ?_
              exact ih126 _ _ _ _ _ h hW (lv_sub hl [1, 0] rfl)
            · have h := h.2 k17
              refine lv_aload_n hx hb dX7_run_146 rfl (lv_at hl 0 rfl) ?_
              refine lv_iload_n hx hb dX7_run_147 rfl (lv_at hl 1 rfl) ?_
              refine sw_pi (j := 17) hx hb hts hown hW rfl qf_7 tyX7 tyX7_ok nmX7 (Nat.le_of_ble_eq_true rfl) sl_33 rfl (Nat.le_of_ble_eq_true rfl) q_961 rfl rfl rfl dX7_run_148 (fun H locs hW => ?_)
              obtain ⟨M19, eM19⟩ : ∃ z : sM, z = sw_ms M16 33 17 x1_126 := ⟨_, rfl⟩
              rw [← eM19] at hW
              have h := h M19 eM19
              refine lv_aload_n hx hb dX7_run_151 rfl (lv_at hl 0 rfl) ?_
              refine lv_aload_n hx hb dX7_run_152 rfl (lv_at hl 0 rfl) ?_
              refine lv_iconst (v := 2) hx hb dX7_run_153 (by decide) ?_
              refine sw_ki (rest := [.ref (sw_ad g 33)]) (sw_runV (As := [.int (2 : Int32)]) (rest := [.ref (sw_ad g 33)]) hx hb hml hown hts (kX7_fails l g o d (2 : Int32) M19 _ h) cv_X7_fails q_989 rfl rfl ⟨(Nat.le_of_ble_eq_true rfl), (Nat.le_of_ble_eq_true rfl)⟩ hW (Nat.le_of_ble_eq_true rfl) sl_33 rfl rfl hl.1 rfl (Nat.le_of_ble_eq_true rfl) dX7_run_154 ⟨(Nat.le_of_ble_eq_true rfl), (Nat.le_of_ble_eq_true rfl)⟩) hW (fun r20 M21 H locs h hW => ?_)
              refine sw_ki (rest := []) (sw_runV (As := [.int r20]) (rest := []) hx hb hml hown hts (kX7_ends l g o d r20 M21 _ h) cv_X7_ends q_992 rfl rfl ⟨(Nat.le_of_ble_eq_true rfl), (Nat.le_of_ble_eq_true rfl)⟩ hW (Nat.le_of_ble_eq_true rfl) sl_33 rfl rfl hl.1 rfl (Nat.le_of_ble_eq_true rfl) dX7_run_157 ⟨(Nat.le_of_ble_eq_true rfl), (Nat.le_of_ble_eq_true rfl)⟩) hW (fun r22 M23 H locs h hW => ?_)
              exact sw_ri hx hb hr hlocks hW rfl h dX7_run_160
        · have h := h.2 k9
          refine lv_aload_n hx hb dX7_run_114 rfl (lv_at hl 0 rfl) ?_
          refine lv_iconst (v := 1) hx hb dX7_run_115 (by decide) ?_
          refine sw_ki (rest := []) (sw_runV (As := [.int (1 : Int32)]) (rest := []) hx hb hml hown hts (kX7_fails l g o d (1 : Int32) M8 _ h) cv_X7_fails q_989 rfl rfl ⟨(Nat.le_of_ble_eq_true rfl), (Nat.le_of_ble_eq_true rfl)⟩ hW (Nat.le_of_ble_eq_true rfl) sl_33 rfl rfl hl.1 rfl (Nat.le_of_ble_eq_true rfl) dX7_run_116 ⟨(Nat.le_of_ble_eq_true rfl), (Nat.le_of_ble_eq_true rfl)⟩) hW (fun r24 M25 H locs h hW => ?_)
          exact sw_ri hx hb hr hlocks hW rfl h dX7_run_119
      · refine lv_if_eq (tgt := 95) hx hb dX7_run_85 (by decide) (fun k26 => ?_) (fun k26 => ?_)
        · have h := h.1 k26
          refine lv_aload_n hx hb dX7_run_95 rfl (lv_at hl 0 rfl) ?_
          refine sw_gi (j := 16) hx hb hts hown hW rfl qf_7 (Nat.le_of_ble_eq_true rfl) sl_33 rfl (Nat.le_of_ble_eq_true rfl) q_960 dX7_run_96 ?_
          exact hJ99 _ _ _ _ h hW (lv_sub hl [0] rfl)
        · have h := h.2 k26
          refine lv_aload_n hx hb dX7_run_88 rfl (lv_at hl 0 rfl) ?_
          refine sw_gi (j := 14) hx hb hts hown hW rfl qf_7 (Nat.le_of_ble_eq_true rfl) sl_33 rfl (Nat.le_of_ble_eq_true rfl) q_958 dX7_run_89 ?_
          refine lv_goto (tgt := 99) hx hb dX7_run_92 (by decide) ?_
          exact hJ99 _ _ _ _ h hW (lv_sub hl [0] rfl)
    · refine lv_if_ne (tgt := 72) hx hb dX7_run_58 (by decide) (fun k27 => ?_) (fun k27 => ?_)
      · have h := h.2 k27
        refine lv_iconst (v := 1) hx hb dX7_run_72 (by decide) ?_
        refine lv_goto (tgt := 77) hx hb dX7_run_73 (by decide) ?_
        exact hJ77 _ _ _ _ h hW (lv_sub hl [0] rfl)
      · have h := h.1 k27
        refine lv_aload_n hx hb dX7_run_61 rfl (lv_at hl 0 rfl) ?_
        refine sw_gi (j := 14) hx hb hts hown hW rfl qf_7 (Nat.le_of_ble_eq_true rfl) sl_33 rfl (Nat.le_of_ble_eq_true rfl) q_958 dX7_run_62 ?_
        refine lv_aload_n hx hb dX7_run_65 rfl (lv_at hl 0 rfl) ?_
        refine sw_gi (j := 13) hx hb hts hown hW rfl qf_7 (Nat.le_of_ble_eq_true rfl) sl_33 rfl (Nat.le_of_ble_eq_true rfl) q_957 dX7_run_66 ?_
        refine lv_icmp_ge (tgt := 76) hx hb dX7_run_69 (by decide) (fun k28 => ?_) (fun k28 => ?_)
        · have h := h.1 k28
          refine lv_iconst (v := 0) hx hb dX7_run_76 (by decide) ?_
          exact hJ77 _ _ _ _ h hW (lv_sub hl [0] rfl)
        · have h := h.2 k28
          refine lv_iconst (v := 1) hx hb dX7_run_72 (by decide) ?_
          refine lv_goto (tgt := 77) hx hb dX7_run_73 (by decide) ?_
          exact hJ77 _ _ _ _ h hW (lv_sub hl [0] rfl)
  · skip
    refine sw_lp_M (hd := 19) (Lf := fun M_19 => [(0, .ref (sw_ad g 33))]) h hW (lv_sub hl [0] rfl) (fun _ h => h) (fun n19 ih19 M_19 H locs ls h hW hl => ?_)
    rw [lX7_run_19.eq_2] at h
    refine lv_aload_n hx hb dX7_run_19 rfl (lv_at hl 0 rfl) ?_
    refine sw_gi (j := 15) hx hb hts hown hW rfl qf_7 (Nat.le_of_ble_eq_true rfl) sl_33 rfl (Nat.le_of_ble_eq_true rfl) q_959 dX7_run_20 ?_
    refine lv_if_ne (tgt := 53) hx hb dX7_run_23 (by decide) (fun k29 => ?_) (fun k29 => ?_)
    · have h := h.2 k29
      exact hX19 _ _ _ _ h hW (lv_sub hl [0] rfl)
    · have h := h.1 k29
      refine lv_aload_n hx hb dX7_run_26 rfl (lv_at hl 0 rfl) ?_
      refine lv_iconst (v := 0) hx hb dX7_run_27 (by decide) ?_
      refine sw_ki (rest := []) (sw_runV (As := [.int (0 : Int32)]) (rest := []) hx hb hml hown hts (kX7_behind l g o d (0 : Int32) M_19 _ h) cv_X7_behind q_1287 rfl rfl ⟨(Nat.le_of_ble_eq_true rfl), (Nat.le_of_ble_eq_true rfl)⟩ hW (Nat.le_of_ble_eq_true rfl) sl_33 rfl rfl hl.1 rfl (Nat.le_of_ble_eq_true rfl) dX7_run_28 ⟨(Nat.le_of_ble_eq_true rfl), (Nat.le_of_ble_eq_true rfl)⟩) hW (fun r30 M34 H locs h hW => ?_)
      obtain ⟨h, eM34⟩ := h
      rw [eM34] at hW
      refine lv_bipush (v := 59) hx hb dX7_run_31 (by decide) ?_
      refine lv_icmp_ne (tgt := 53) hx hb dX7_run_33 (by decide) (fun k31 => ?_) (fun k31 => ?_)
      · have h := h.2 k31
        exact hX19 _ _ _ _ h hW (lv_sub hl [0] rfl)
      · have h := h.1 k31
        refine lv_aload_n hx hb dX7_run_36 rfl (lv_at hl 0 rfl) ?_
        refine lv_dup hx hb dX7_run_37 rfl ?_
        refine sw_gi (j := 14) hx hb hts hown hW rfl qf_7 (Nat.le_of_ble_eq_true rfl) sl_33 rfl (Nat.le_of_ble_eq_true rfl) q_958 dX7_run_38 ?_
        refine lv_iconst (v := 1) hx hb dX7_run_41 (by decide) ?_
        refine lv_iadd hx hb dX7_run_42 ?_
        refine sw_pi (j := 14) hx hb hts hown hW rfl qf_7 tyX7 tyX7_ok nmX7 (Nat.le_of_ble_eq_true rfl) sl_33 rfl (Nat.le_of_ble_eq_true rfl) q_958 rfl rfl rfl dX7_run_43 (fun H locs hW => ?_)
        obtain ⟨M32, eM32⟩ : ∃ z : sM, z = sw_ms M_19 33 14 ((M_19 33 14) + (1 : Int32)) := ⟨_, rfl⟩
        rw [← eM32] at hW
        have h := h M32 eM32
        refine lv_aload_n hx hb dX7_run_46 rfl (lv_at hl 0 rfl) ?_
        refine sw_kv (rest := []) (sw_runV (As := []) (rest := []) hx hb hml hown hts (kX7_readsCommand l g o d M32 _ h) cv_X7_readsCommand q_1284 rfl rfl ⟨(Nat.le_of_ble_eq_true rfl), (Nat.le_of_ble_eq_true rfl)⟩ hW (Nat.le_of_ble_eq_true rfl) sl_33 rfl rfl hl.1 rfl (Nat.le_of_ble_eq_true rfl) dX7_run_47 ⟨(Nat.le_of_ble_eq_true rfl), (Nat.le_of_ble_eq_true rfl)⟩) hW (fun  M33 H locs h hW => ?_)
        refine lv_goto (tgt := 19) hx hb dX7_run_50 (by decide) ?_
        exact ih19 _ _ _ _ h hW (lv_sub hl [0] rfl)

def jX7_errorPosition_13 (M : sM) (Q : Int32 → sM → Prop) (t0_13 : Int32) : Prop :=
  wX7_isThere t0_13 M (fun r1 M2 => (r1 = 0 → (Q (0 : Int32) M2)) ∧ (¬ r1 = 0 → (Q (M2 33 16) M2)))
theorem cv_X7_errorPosition : sw_cV yX7_errorPosition RX7 cX7_errorPosition 1 (some .int) 0 := ⟨q_1308, q_1309, q_9, q_1310, by decide +kernel⟩
def wX7_errorPosition  (M : sM) (Q : Int32 → sM → Prop) : Prop :=
  ((M 33 16) < 0 → (jX7_errorPosition_13 M Q (0 : Int32))) ∧ (¬ (M 33 16) < 0 → (jX7_errorPosition_13 M Q (1 : Int32)))
set_option maxRecDepth 20000 in
theorem kX7_errorPosition (l : Launch) (g : sG) (o : Nat → Int64) (d : Nat → UInt64)  (M : sM) (Q : Int32 → sM → Prop) (h : wX7_errorPosition  M Q) : Met l yX7_errorPosition (sw_ws yX7_errorPosition cX7_errorPosition 1 (some .int)) { frames := 1, cells := 0, slots := 0, locals := 21 } (va_Pc [.ref (sw_ad g 33)] (sw_Pr g o d M)) (va_Qi Q (sw_Po g o d) (sw_A g)) 0 0 (sw_A g) := by
  refine sw_met (by decide) (Nat.le_of_ble_eq_true rfl) ?_
  intro p e s m args below meth c ls hx hb hr hts hown hml hlocks hW hl
  have hown : s.vm.findClass RX7 = some m.cls := hown
  have hl : lv_has ls 1 [(0, .ref (sw_ad g 33))] := hl
  unfold wX7_errorPosition at h
  refine lv_aload_n hx hb dX7_errorPosition_0 rfl (lv_at hl 0 rfl) ?_
  refine lv_aload_n hx hb dX7_errorPosition_1 rfl (lv_at hl 0 rfl) ?_
  refine sw_gi (j := 16) hx hb hts hown hW rfl qf_7 (Nat.le_of_ble_eq_true rfl) sl_33 rfl (Nat.le_of_ble_eq_true rfl) q_960 dX7_errorPosition_2 ?_
  refine sw_jn_i (g := g) (o := o) (d := d) (nL := 1) (M := M) (jp := 13) (J := fun t0_13 => jX7_errorPosition_13 M Q t0_13) (Lf := fun t0_13 => [(0, .ref (sw_ad g 33))]) (Sf := fun t0_13 => [.int t0_13, .ref (sw_ad g 33)]) (fun t0_13 H locs ls h hW hl => ?_) (fun hJ13 => ?_)
  · unfold jX7_errorPosition_13 at h
    refine sw_ki (rest := []) (sw_runV (As := [.int t0_13]) (rest := []) hx hb hml hown hts (kX7_isThere l g o d t0_13 M _ h) cv_X7_isThere q_1143 rfl rfl ⟨(Nat.le_of_ble_eq_true rfl), (Nat.le_of_ble_eq_true rfl)⟩ hW (Nat.le_of_ble_eq_true rfl) sl_33 rfl rfl hl.1 rfl (Nat.le_of_ble_eq_true rfl) dX7_errorPosition_13 ⟨(Nat.le_of_ble_eq_true rfl), (Nat.le_of_ble_eq_true rfl)⟩) hW (fun r1 M2 H locs h hW => ?_)
    refine lv_if_eq (tgt := 26) hx hb dX7_errorPosition_16 (by decide) (fun k3 => ?_) (fun k3 => ?_)
    · have h := h.1 k3
      refine lv_iconst (v := 0) hx hb dX7_errorPosition_26 (by decide) ?_
      exact sw_ri hx hb hr hlocks hW rfl h dX7_errorPosition_27
    · have h := h.2 k3
      refine lv_aload_n hx hb dX7_errorPosition_19 rfl (lv_at hl 0 rfl) ?_
      refine sw_gi (j := 16) hx hb hts hown hW rfl qf_7 (Nat.le_of_ble_eq_true rfl) sl_33 rfl (Nat.le_of_ble_eq_true rfl) q_960 dX7_errorPosition_20 ?_
      refine lv_goto (tgt := 27) hx hb dX7_errorPosition_23 (by decide) ?_
      exact sw_ri hx hb hr hlocks hW rfl h dX7_errorPosition_27
  · refine lv_if_lt (tgt := 12) hx hb dX7_errorPosition_5 (by decide) (fun k4 => ?_) (fun k4 => ?_)
    · have h := h.1 k4
      refine lv_iconst (v := 0) hx hb dX7_errorPosition_12 (by decide) ?_
      exact hJ13 _ _ _ _ h hW (lv_sub hl [0] rfl)
    · have h := h.2 k4
      refine lv_iconst (v := 1) hx hb dX7_errorPosition_8 (by decide) ?_
      refine lv_goto (tgt := 13) hx hb dX7_errorPosition_9 (by decide) ?_
      exact hJ13 _ _ _ _ h hW (lv_sub hl [0] rfl)

def jX7_failedCommand_13 (M : sM) (Q : Int32 → sM → Prop) (t0_13 : Int32) : Prop :=
  wX7_isThere t0_13 M (fun r1 M2 => (r1 = 0 → (Q (0 : Int32) M2)) ∧ (¬ r1 = 0 → (Q (M2 33 17) M2)))
theorem cv_X7_failedCommand : sw_cV yX7_failedCommand RX7 cX7_failedCommand 1 (some .int) 0 := ⟨q_1312, q_1313, q_9, q_1314, by decide +kernel⟩
def wX7_failedCommand  (M : sM) (Q : Int32 → sM → Prop) : Prop :=
  ((M 33 17) < 0 → (jX7_failedCommand_13 M Q (0 : Int32))) ∧ (¬ (M 33 17) < 0 → (jX7_failedCommand_13 M Q (1 : Int32)))
set_option maxRecDepth 20000 in
theorem kX7_failedCommand (l : Launch) (g : sG) (o : Nat → Int64) (d : Nat → UInt64)  (M : sM) (Q : Int32 → sM → Prop) (h : wX7_failedCommand  M Q) : Met l yX7_failedCommand (sw_ws yX7_failedCommand cX7_failedCommand 1 (some .int)) { frames := 1, cells := 0, slots := 0, locals := 21 } (va_Pc [.ref (sw_ad g 33)] (sw_Pr g o d M)) (va_Qi Q (sw_Po g o d) (sw_A g)) 0 0 (sw_A g) := by
  refine sw_met (by decide) (Nat.le_of_ble_eq_true rfl) ?_
  intro p e s m args below meth c ls hx hb hr hts hown hml hlocks hW hl
  have hown : s.vm.findClass RX7 = some m.cls := hown
  have hl : lv_has ls 1 [(0, .ref (sw_ad g 33))] := hl
  unfold wX7_failedCommand at h
  refine lv_aload_n hx hb dX7_failedCommand_0 rfl (lv_at hl 0 rfl) ?_
  refine lv_aload_n hx hb dX7_failedCommand_1 rfl (lv_at hl 0 rfl) ?_
  refine sw_gi (j := 17) hx hb hts hown hW rfl qf_7 (Nat.le_of_ble_eq_true rfl) sl_33 rfl (Nat.le_of_ble_eq_true rfl) q_961 dX7_failedCommand_2 ?_
  refine sw_jn_i (g := g) (o := o) (d := d) (nL := 1) (M := M) (jp := 13) (J := fun t0_13 => jX7_failedCommand_13 M Q t0_13) (Lf := fun t0_13 => [(0, .ref (sw_ad g 33))]) (Sf := fun t0_13 => [.int t0_13, .ref (sw_ad g 33)]) (fun t0_13 H locs ls h hW hl => ?_) (fun hJ13 => ?_)
  · unfold jX7_failedCommand_13 at h
    refine sw_ki (rest := []) (sw_runV (As := [.int t0_13]) (rest := []) hx hb hml hown hts (kX7_isThere l g o d t0_13 M _ h) cv_X7_isThere q_1143 rfl rfl ⟨(Nat.le_of_ble_eq_true rfl), (Nat.le_of_ble_eq_true rfl)⟩ hW (Nat.le_of_ble_eq_true rfl) sl_33 rfl rfl hl.1 rfl (Nat.le_of_ble_eq_true rfl) dX7_failedCommand_13 ⟨(Nat.le_of_ble_eq_true rfl), (Nat.le_of_ble_eq_true rfl)⟩) hW (fun r1 M2 H locs h hW => ?_)
    refine lv_if_eq (tgt := 26) hx hb dX7_failedCommand_16 (by decide) (fun k3 => ?_) (fun k3 => ?_)
    · have h := h.1 k3
      refine lv_iconst (v := 0) hx hb dX7_failedCommand_26 (by decide) ?_
      exact sw_ri hx hb hr hlocks hW rfl h dX7_failedCommand_27
    · have h := h.2 k3
      refine lv_aload_n hx hb dX7_failedCommand_19 rfl (lv_at hl 0 rfl) ?_
      refine sw_gi (j := 17) hx hb hts hown hW rfl qf_7 (Nat.le_of_ble_eq_true rfl) sl_33 rfl (Nat.le_of_ble_eq_true rfl) q_961 dX7_failedCommand_20 ?_
      refine lv_goto (tgt := 27) hx hb dX7_failedCommand_23 (by decide) ?_
      exact sw_ri hx hb hr hlocks hW rfl h dX7_failedCommand_27
  · refine lv_if_lt (tgt := 12) hx hb dX7_failedCommand_5 (by decide) (fun k4 => ?_) (fun k4 => ?_)
    · have h := h.1 k4
      refine lv_iconst (v := 0) hx hb dX7_failedCommand_12 (by decide) ?_
      exact hJ13 _ _ _ _ h hW (lv_sub hl [0] rfl)
    · have h := h.2 k4
      refine lv_iconst (v := 1) hx hb dX7_failedCommand_8 (by decide) ?_
      refine lv_goto (tgt := 13) hx hb dX7_failedCommand_9 (by decide) ?_
      exact hJ13 _ _ _ _ h hW (lv_sub hl [0] rfl)

theorem cv_X7_says : sw_cV yX7_says RX7 cX7_says 2 none 1 := ⟨q_1320, q_1414, q_9, q_1321, by decide +kernel⟩
def wX7_says (a1 : Int32) (M : sM) (Q : sM → Prop) : Prop :=
  ∀ v1 : Int32, v1 = ((a1).toUInt32 % 65536).toInt32 → (vp_in (M 33 21) 40 ∧ (∀ M3 : sM, M3 = sw_ms M 45 ((M 33 21)).toNatClampNeg (vp_nar .char v1) → (∀ M4 : sM, M4 = sw_ms M3 33 21 ((M3 33 21) + (1 : Int32)) → (Q M4))))
set_option maxRecDepth 20000 in
theorem kX7_says (l : Launch) (g : sG) (o : Nat → Int64) (d : Nat → UInt64) (a1 : Int32) (M : sM) (Q : sM → Prop) (h : wX7_says a1 M Q) : Met l yX7_says (sw_ws yX7_says cX7_says 2 none) { frames := 0, cells := 0, slots := 0, locals := 0 } (va_Pc [.ref (sw_ad g 33), .int a1] (sw_Pr g o d M)) (va_Qv Q (sw_Po g o d) (sw_A g)) 0 0 (sw_A g) := by
  refine sw_met (by decide) (Nat.le_of_ble_eq_true rfl) ?_
  intro p e s m args below meth c ls hx hb hr hts hown hml hlocks hW hl
  have hown : s.vm.findClass RX7 = some m.cls := hown
  have hl : lv_has ls 2 [(0, .ref (sw_ad g 33)), (1, .int a1)] := hl
  unfold wX7_says at h
  refine lv_aload_n hx hb dX7_says_0 rfl (lv_at hl 0 rfl) ?_
  refine sw_gr (j := 20) (r := 45) hx hb hts hown hW rfl qf_7 (Nat.le_of_ble_eq_true rfl) sl_33 rfl (Nat.le_of_ble_eq_true rfl) q_964 dX7_says_1 ?_
  refine lv_aload_n hx hb dX7_says_4 rfl (lv_at hl 0 rfl) ?_
  refine sw_gi (j := 21) hx hb hts hown hW rfl qf_7 (Nat.le_of_ble_eq_true rfl) sl_33 rfl (Nat.le_of_ble_eq_true rfl) q_965 dX7_says_5 ?_
  refine lv_iload_n hx hb dX7_says_8 rfl (lv_at hl 1 rfl) ?_
  refine lv_i2c hx hb dX7_says_9 rfl ?_
  refine lv_topi (fun v1 ev1 => ?_)
  have h := h v1 ev1
  have b2 := h.1
  have h := h.2
  refine sw_cs (n := 40) hx hb hW (Nat.le_of_ble_eq_true rfl) sl_45 b2 dX7_says_10 (fun H locs hW => ?_)
  obtain ⟨M3, eM3⟩ : ∃ z : sM, z = sw_ms M 45 ((M 33 21)).toNatClampNeg (vp_nar .char v1) := ⟨_, rfl⟩
  rw [← eM3] at hW
  have h := h M3 eM3
  refine lv_aload_n hx hb dX7_says_11 rfl (lv_at hl 0 rfl) ?_
  refine lv_dup hx hb dX7_says_12 rfl ?_
  refine sw_gi (j := 21) hx hb hts hown hW rfl qf_7 (Nat.le_of_ble_eq_true rfl) sl_33 rfl (Nat.le_of_ble_eq_true rfl) q_965 dX7_says_13 ?_
  refine lv_iconst (v := 1) hx hb dX7_says_16 (by decide) ?_
  refine lv_iadd hx hb dX7_says_17 ?_
  refine sw_pi (j := 21) hx hb hts hown hW rfl qf_7 tyX7 tyX7_ok nmX7 (Nat.le_of_ble_eq_true rfl) sl_33 rfl (Nat.le_of_ble_eq_true rfl) q_965 rfl rfl rfl dX7_says_18 (fun H locs hW => ?_)
  obtain ⟨M4, eM4⟩ : ∃ z : sM, z = sw_ms M3 33 21 ((M3 33 21) + (1 : Int32)) := ⟨_, rfl⟩
  rw [← eM4] at hW
  have h := h M4 eM4
  exact sw_rv hx hb hr hlocks hW h dX7_says_21

def jX7_saysNumber_14 (a1 : Int32) (Q : sM → Prop) (M_14 : sM) : Prop :=
  wX7_says ((48 : Int32) + (a1 - a1 / (10 : Int32) * (10 : Int32))) M_14 (fun M1 => Q M1)
theorem cv_X7_saysNumber : sw_cV yX7_saysNumber RX7 cX7_saysNumber 2 none 1 := ⟨q_1323, q_1415, q_9, q_1324, by decide +kernel⟩
def wX7_saysNumber : Nat → Int32 → sM → (sM → Prop) → Prop
  | 0, _, _, _ => False
  | n + 1, a1, M, Q => (a1 ≤ (9 : Int32) → (jX7_saysNumber_14 a1 Q M)) ∧ (¬ a1 ≤ (9 : Int32) → ((fun a1 M Q => wX7_saysNumber n a1 M Q) (a1 / (10 : Int32)) M (fun M3 => jX7_saysNumber_14 a1 Q M3)))
set_option maxRecDepth 20000 in
theorem kX7_saysNumber (l : Launch) (g : sG) (o : Nat → Int64) (d : Nat → UInt64) : ∀ (n : Nat) (a1 : Int32) (M : sM) (Q : sM → Prop) (h : wX7_saysNumber n a1 M Q), Met l yX7_saysNumber (sw_ws yX7_saysNumber cX7_saysNumber 2 none) { frames := 2 + n, cells := 0, slots := 0, locals := 42 + 21 * n } (va_Pc [.ref (sw_ad g 33), .int a1] (sw_Pr g o d M)) (va_Qv Q (sw_Po g o d) (sw_A g)) 0 0 (sw_A g) := by
  intro n
  induction n with
  | zero => intro a1 M Q h; exact h.elim
  | succ n ih =>
    intro a1 M Q h
    refine sw_met (by decide) (Nat.le_of_ble_eq_true rfl) ?_
    intro p e s m args below meth c ls hx hb hr hts hown hml hlocks hW hl
    have hown : s.vm.findClass RX7 = some m.cls := hown
    have hl : lv_has ls 2 [(0, .ref (sw_ad g 33)), (1, .int a1)] := hl
    rw [wX7_saysNumber.eq_2] at h
    refine lv_iload_n hx hb dX7_saysNumber_0 rfl (lv_at hl 1 rfl) ?_
    refine lv_bipush (v := 9) hx hb dX7_saysNumber_1 (by decide) ?_
    refine sw_jn_M (g := g) (o := o) (d := d) (nL := 2) (jp := 14) (J := fun M_14 => jX7_saysNumber_14 a1 Q M_14) (Lf := fun M_14 => [(0, .ref (sw_ad g 33)), (1, .int a1)]) (Sf := fun M_14 => []) (fun M_14 H locs ls h hW hl => ?_) (fun hJ14 => ?_)
    · unfold jX7_saysNumber_14 at h
      refine lv_aload_n hx hb dX7_saysNumber_14 rfl (lv_at hl 0 rfl) ?_
      refine lv_bipush (v := 48) hx hb dX7_saysNumber_15 (by decide) ?_
      refine lv_iload_n hx hb dX7_saysNumber_17 rfl (lv_at hl 1 rfl) ?_
      refine lv_bipush (v := 10) hx hb dX7_saysNumber_18 (by decide) ?_
      refine lv_irem hx hb dX7_saysNumber_20 (by decide) ?_
      refine lv_iadd hx hb dX7_saysNumber_21 ?_
      refine sw_kv (rest := []) (sw_runV (As := [.int ((48 : Int32) + (a1 - a1 / (10 : Int32) * (10 : Int32)))]) (rest := []) hx hb hml hown hts (kX7_says l g o d ((48 : Int32) + (a1 - a1 / (10 : Int32) * (10 : Int32))) M_14 _ h) cv_X7_says q_1319 rfl rfl ⟨by dsimp only; omega, by dsimp only; omega⟩ hW (Nat.le_of_ble_eq_true rfl) sl_33 rfl rfl hl.1 rfl (Nat.le_of_ble_eq_true rfl) dX7_saysNumber_22 ⟨(Nat.le_of_ble_eq_true rfl), (Nat.le_of_ble_eq_true rfl)⟩) hW (fun  M1 H locs h hW => ?_)
      exact sw_rv hx hb hr hlocks hW h dX7_saysNumber_25
    · refine lv_icmp_le (tgt := 14) hx hb dX7_saysNumber_3 (by decide) (fun k2 => ?_) (fun k2 => ?_)
      · have h := h.1 k2
        exact hJ14 _ _ _ _ h hW (lv_sub hl [0, 1] rfl)
      · have h := h.2 k2
        refine lv_aload_n hx hb dX7_saysNumber_6 rfl (lv_at hl 0 rfl) ?_
        refine lv_iload_n hx hb dX7_saysNumber_7 rfl (lv_at hl 1 rfl) ?_
        refine lv_bipush (v := 10) hx hb dX7_saysNumber_8 (by decide) ?_
        refine lv_idiv hx hb dX7_saysNumber_10 (by decide) ?_
        refine sw_kv (rest := []) (sw_runV (As := [.int (a1 / (10 : Int32))]) (rest := []) hx hb hml hown hts (ih (a1 / (10 : Int32)) M _ h) cv_X7_saysNumber q_1322 rfl rfl ⟨by dsimp only; omega, by dsimp only; omega⟩ hW (Nat.le_of_ble_eq_true rfl) sl_33 rfl rfl hl.1 rfl (Nat.le_of_ble_eq_true rfl) dX7_saysNumber_11 ⟨(Nat.le_of_ble_eq_true rfl), (Nat.le_of_ble_eq_true rfl)⟩) hW (fun  M3 H locs h hW => ?_)
        exact hJ14 _ _ _ _ h hW (lv_sub hl [0, 1] rfl)

def jX7_writeDoor_129 (a1 : Int32) (Q : Int32 → sM → Prop) (M_129 : sM) : Prop :=
  wX7_door a1 (4 : Int32) M_129 (fun r11 => (r11 ≤ 0 → (Q (M_129 33 21) M_129)) ∧ (¬ r11 ≤ 0 → (wX7_door a1 (4 : Int32) M_129 (fun r13 => wX7_revoked r13 M_129 (fun r14 => (r14 = 0 → (wX7_says (42 : Int32) M_129 (fun M16 => Q (M16 33 21) M16))) ∧ (¬ r14 = 0 → (Q (M_129 33 21) M_129)))))))
def jX7_writeDoor_71 (a1 : Int32) (x2_41 : Int32) (N41 : Int32 → sM → Prop) (M_71 : sM) : Prop :=
  wX7_pair x2_41 a1 (2 : Int32) M_71 (fun r44 => (r44 ≤ 0 → (∀ v46 : Int32, v46 = x2_41 + (1 : Int32) → (N41 v46 M_71))) ∧ (¬ r44 ≤ 0 → (wX7_says (58 : Int32) M_71 (fun M47 => wX7_pair x2_41 a1 (2 : Int32) M47 (fun r48 => wX7_saysNumber 3 (r48 - (1 : Int32)) M47 (fun M49 => ∀ v50 : Int32, v50 = x2_41 + (1 : Int32) → (N41 v50 M49)))))))
def lX7_writeDoor_41 (a1 : Int32) (K41 : sM → Prop) : Nat → Int32 → sM → Prop
  | 0, _, _ => False
  | n41 + 1, x2_41, M_41 => ((M_41 34 ((1 : Int32)).toNatClampNeg) ≤ x2_41 → (K41 M_41)) ∧ (¬ (M_41 34 ((1 : Int32)).toNatClampNeg) ≤ x2_41 → (wX7_assigned x2_41 a1 M_41 (fun r43 => (r43 = 0 → (jX7_writeDoor_71 a1 x2_41 (fun x2_41 M_41 => lX7_writeDoor_41 a1 K41 n41 x2_41 M_41) M_41)) ∧ (¬ r43 = 0 → (wX7_says (32 : Int32) M_41 (fun M54 => wX7_saysNumber 3 x2_41 M54 (fun M55 => jX7_writeDoor_71 a1 x2_41 (fun x2_41 M_41 => lX7_writeDoor_41 a1 K41 n41 x2_41 M_41) M55)))))))
theorem cv_X7_writeDoor : sw_cV yX7_writeDoor RX7 cX7_writeDoor 3 (some .int) 1 := ⟨q_1316, q_1317, q_9, q_1318, by decide +kernel⟩
def wX7_writeDoor (a1 : Int32) (M : sM) (Q : Int32 → sM → Prop) : Prop :=
  wX7_isDoor a1 M (fun r1 => wX7_isThere r1 M (fun r2 M3 => (r2 = 0 → (Q (0 : Int32) M3)) ∧ (¬ r2 = 0 → (∀ M5 : sM, M5 = sw_ms M3 33 21 (0 : Int32) → (wX7_door a1 (0 : Int32) M5 (fun r6 => wX7_says r6 M5 (fun M7 => wX7_door a1 (1 : Int32) M7 (fun r8 => wX7_saysNumber 3 r8 M7 (fun M9 => ∃ n41, lX7_writeDoor_41 a1 (fun M_41k => wX7_resultOf a1 M_41k (fun r10 => (r10 < 0 → (jX7_writeDoor_129 a1 Q M_41k)) ∧ (¬ r10 < 0 → (wX7_says (61 : Int32) M_41k (fun M21 => wX7_resultOf a1 M21 (fun r22 => wX7_saysNumber 3 r22 M21 (fun M23 => jX7_writeDoor_129 a1 Q M23))))))) n41 (0 : Int32) M9)))))))))
set_option maxRecDepth 20000 in
theorem kX7_writeDoor (l : Launch) (g : sG) (o : Nat → Int64) (d : Nat → UInt64) (a1 : Int32) (M : sM) (Q : Int32 → sM → Prop) (h : wX7_writeDoor a1 M Q) : Met l yX7_writeDoor (sw_ws yX7_writeDoor cX7_writeDoor 3 (some .int)) { frames := 6, cells := 0, slots := 0, locals := 126 } (va_Pc [.ref (sw_ad g 33), .int a1] (sw_Pr g o d M)) (va_Qi Q (sw_Po g o d) (sw_A g)) 0 0 (sw_A g) := by
  refine sw_met (by decide) (Nat.le_of_ble_eq_true rfl) ?_
  intro p e s m args below meth c ls hx hb hr hts hown hml hlocks hW hl
  have hown : s.vm.findClass RX7 = some m.cls := hown
  have hl : lv_has ls 3 [(0, .ref (sw_ad g 33)), (1, .int a1)] := hl
  unfold wX7_writeDoor at h
  refine lv_aload_n hx hb dX7_writeDoor_0 rfl (lv_at hl 0 rfl) ?_
  refine lv_aload_n hx hb dX7_writeDoor_1 rfl (lv_at hl 0 rfl) ?_
  refine lv_iload_n hx hb dX7_writeDoor_2 rfl (lv_at hl 1 rfl) ?_
  refine sw_ki (rest := [.ref (sw_ad g 33)]) (sw_runV (As := [.int a1]) (rest := [.ref (sw_ad g 33)]) hx hb hml hown hts (kX7_isDoor l g o d a1 M _ h) cv_X7_isDoor q_1015 rfl rfl ⟨(Nat.le_of_ble_eq_true rfl), (Nat.le_of_ble_eq_true rfl)⟩ hW (Nat.le_of_ble_eq_true rfl) sl_33 rfl rfl hl.1 rfl (Nat.le_of_ble_eq_true rfl) dX7_writeDoor_3 ⟨(Nat.le_of_ble_eq_true rfl), (Nat.le_of_ble_eq_true rfl)⟩) hW (fun r1 M59 H locs h hW => ?_)
  obtain ⟨h, eM59⟩ := h
  rw [eM59] at hW
  refine sw_ki (rest := []) (sw_runV (As := [.int r1]) (rest := []) hx hb hml hown hts (kX7_isThere l g o d r1 M _ h) cv_X7_isThere q_1143 rfl rfl ⟨(Nat.le_of_ble_eq_true rfl), (Nat.le_of_ble_eq_true rfl)⟩ hW (Nat.le_of_ble_eq_true rfl) sl_33 rfl rfl hl.1 rfl (Nat.le_of_ble_eq_true rfl) dX7_writeDoor_6 ⟨(Nat.le_of_ble_eq_true rfl), (Nat.le_of_ble_eq_true rfl)⟩) hW (fun r2 M3 H locs h hW => ?_)
  refine lv_if_ne (tgt := 14) hx hb dX7_writeDoor_9 (by decide) (fun k4 => ?_) (fun k4 => ?_)
  · have h := h.2 k4
    refine lv_aload_n hx hb dX7_writeDoor_14 rfl (lv_at hl 0 rfl) ?_
    refine lv_iconst (v := 0) hx hb dX7_writeDoor_15 (by decide) ?_
    refine sw_pi (j := 21) hx hb hts hown hW rfl qf_7 tyX7 tyX7_ok nmX7 (Nat.le_of_ble_eq_true rfl) sl_33 rfl (Nat.le_of_ble_eq_true rfl) q_965 rfl rfl rfl dX7_writeDoor_16 (fun H locs hW => ?_)
    obtain ⟨M5, eM5⟩ : ∃ z : sM, z = sw_ms M3 33 21 (0 : Int32) := ⟨_, rfl⟩
    rw [← eM5] at hW
    have h := h M5 eM5
    refine lv_aload_n hx hb dX7_writeDoor_19 rfl (lv_at hl 0 rfl) ?_
    refine lv_aload_n hx hb dX7_writeDoor_20 rfl (lv_at hl 0 rfl) ?_
    refine lv_iload_n hx hb dX7_writeDoor_21 rfl (lv_at hl 1 rfl) ?_
    refine lv_iconst (v := 0) hx hb dX7_writeDoor_22 (by decide) ?_
    refine sw_ki (rest := [.ref (sw_ad g 33)]) (sw_runV (As := [.int a1, .int (0 : Int32)]) (rest := [.ref (sw_ad g 33)]) hx hb hml hown hts (kX7_door l g o d a1 (0 : Int32) M5 _ h) cv_X7_door q_1033 rfl rfl ⟨(Nat.le_of_ble_eq_true rfl), (Nat.le_of_ble_eq_true rfl)⟩ hW (Nat.le_of_ble_eq_true rfl) sl_33 rfl rfl hl.1 rfl (Nat.le_of_ble_eq_true rfl) dX7_writeDoor_23 ⟨(Nat.le_of_ble_eq_true rfl), (Nat.le_of_ble_eq_true rfl)⟩) hW (fun r6 M58 H locs h hW => ?_)
    obtain ⟨h, eM58⟩ := h
    rw [eM58] at hW
    refine sw_kv (rest := []) (sw_runV (As := [.int r6]) (rest := []) hx hb hml hown hts (kX7_says l g o d r6 M5 _ h) cv_X7_says q_1319 rfl rfl ⟨(Nat.le_of_ble_eq_true rfl), (Nat.le_of_ble_eq_true rfl)⟩ hW (Nat.le_of_ble_eq_true rfl) sl_33 rfl rfl hl.1 rfl (Nat.le_of_ble_eq_true rfl) dX7_writeDoor_26 ⟨(Nat.le_of_ble_eq_true rfl), (Nat.le_of_ble_eq_true rfl)⟩) hW (fun  M7 H locs h hW => ?_)
    refine lv_aload_n hx hb dX7_writeDoor_29 rfl (lv_at hl 0 rfl) ?_
    refine lv_aload_n hx hb dX7_writeDoor_30 rfl (lv_at hl 0 rfl) ?_
    refine lv_iload_n hx hb dX7_writeDoor_31 rfl (lv_at hl 1 rfl) ?_
    refine lv_iconst (v := 1) hx hb dX7_writeDoor_32 (by decide) ?_
    refine sw_ki (rest := [.ref (sw_ad g 33)]) (sw_runV (As := [.int a1, .int (1 : Int32)]) (rest := [.ref (sw_ad g 33)]) hx hb hml hown hts (kX7_door l g o d a1 (1 : Int32) M7 _ h) cv_X7_door q_1033 rfl rfl ⟨(Nat.le_of_ble_eq_true rfl), (Nat.le_of_ble_eq_true rfl)⟩ hW (Nat.le_of_ble_eq_true rfl) sl_33 rfl rfl hl.1 rfl (Nat.le_of_ble_eq_true rfl) dX7_writeDoor_33 ⟨(Nat.le_of_ble_eq_true rfl), (Nat.le_of_ble_eq_true rfl)⟩) hW (fun r8 M57 H locs h hW => ?_)
    obtain ⟨h, eM57⟩ := h
    rw [eM57] at hW
    refine sw_kv (rest := []) (sw_runV (As := [.int r8]) (rest := []) hx hb hml hown hts (kX7_saysNumber l g o d 3 r8 M7 _ h) cv_X7_saysNumber q_1322 rfl rfl ⟨(Nat.le_of_ble_eq_true rfl), (Nat.le_of_ble_eq_true rfl)⟩ hW (Nat.le_of_ble_eq_true rfl) sl_33 rfl rfl hl.1 rfl (Nat.le_of_ble_eq_true rfl) dX7_writeDoor_36 ⟨(Nat.le_of_ble_eq_true rfl), (Nat.le_of_ble_eq_true rfl)⟩) hW (fun  M9 H locs h hW => ?_)
    refine lv_iconst (v := 0) hx hb dX7_writeDoor_39 (by decide) ?_
    refine lv_istore_n (lv' := [(2, .int (0 : Int32)), (0, .ref (sw_ad g 33)), (1, .int a1)]) hx hb dX7_writeDoor_40 rfl hl (Nat.le_of_ble_eq_true rfl) rfl (fun ls hl => ?_)
    obtain ⟨n41, h⟩ := h
    refine sw_lp_iM (hd := 41) (Lf := fun x2_41 M_41 => [(0, .ref (sw_ad g 33)), (1, .int a1), (2, .int x2_41)]) h hW (lv_sub hl [1, 2, 0] rfl) (fun _ _ h => h) (fun n41 ih41 x2_41 M_41 H locs ls h hW hl => ?_)
    rw [lX7_writeDoor_41.eq_2] at h
    refine lv_iload_n hx hb dX7_writeDoor_41 rfl (lv_at hl 2 rfl) ?_
    refine lv_aload_n hx hb dX7_writeDoor_42 rfl (lv_at hl 0 rfl) ?_
    refine sw_gr (j := 0) (r := 34) hx hb hts hown hW rfl qf_7 (Nat.le_of_ble_eq_true rfl) sl_33 rfl (Nat.le_of_ble_eq_true rfl) q_944 dX7_writeDoor_43 ?_
    refine lv_iconst (v := 1) hx hb dX7_writeDoor_46 (by decide) ?_
    refine sw_ia (n := 228) hx hb hW (Nat.le_of_ble_eq_true rfl) sl_34 (vp_in_iff.mpr (by decide)) dX7_writeDoor_47 ?_
    refine lv_icmp_ge (tgt := 106) hx hb dX7_writeDoor_48 (by decide) (fun k26 => ?_) (fun k26 => ?_)
    · have h := h.1 k26
      refine lv_aload_n hx hb dX7_writeDoor_106 rfl (lv_at hl 0 rfl) ?_
      refine lv_iload_n hx hb dX7_writeDoor_107 rfl (lv_at hl 1 rfl) ?_
      refine sw_ki (rest := []) (sw_runV (As := [.int a1]) (rest := []) hx hb hml hown hts (kX7_resultOf l g o d a1 M_41 _ h) cv_X7_resultOf q_1098 rfl rfl ⟨(Nat.le_of_ble_eq_true rfl), (Nat.le_of_ble_eq_true rfl)⟩ hW (Nat.le_of_ble_eq_true rfl) sl_33 rfl rfl hl.1 rfl (Nat.le_of_ble_eq_true rfl) dX7_writeDoor_108 ⟨(Nat.le_of_ble_eq_true rfl), (Nat.le_of_ble_eq_true rfl)⟩) hW (fun r27 M42 H locs h hW => ?_)
      obtain ⟨h, eM42⟩ := h
      rw [eM42] at hW
      refine sw_jn_M (g := g) (o := o) (d := d) (nL := 3) (jp := 129) (J := fun M_129 => jX7_writeDoor_129 a1 Q M_129) (Lf := fun M_129 => [(0, .ref (sw_ad g 33)), (1, .int a1)]) (Sf := fun M_129 => []) (fun M_129 H locs ls h hW hl => ?_) (fun hJ129 => ?_)
      · unfold jX7_writeDoor_129 at h
        refine lv_aload_n hx hb dX7_writeDoor_129 rfl (lv_at hl 0 rfl) ?_
        refine lv_iload_n hx hb dX7_writeDoor_130 rfl (lv_at hl 1 rfl) ?_
        refine lv_iconst (v := 4) hx hb dX7_writeDoor_131 (by decide) ?_
        refine sw_ki (rest := []) (sw_runV (As := [.int a1, .int (4 : Int32)]) (rest := []) hx hb hml hown hts (kX7_door l g o d a1 (4 : Int32) M_129 _ h) cv_X7_door q_1033 rfl rfl ⟨(Nat.le_of_ble_eq_true rfl), (Nat.le_of_ble_eq_true rfl)⟩ hW (Nat.le_of_ble_eq_true rfl) sl_33 rfl rfl hl.1 rfl (Nat.le_of_ble_eq_true rfl) dX7_writeDoor_132 ⟨(Nat.le_of_ble_eq_true rfl), (Nat.le_of_ble_eq_true rfl)⟩) hW (fun r28 M36 H locs h hW => ?_)
        obtain ⟨h, eM36⟩ := h
        rw [eM36] at hW
        refine lv_if_le (tgt := 157) hx hb dX7_writeDoor_135 (by decide) (fun k29 => ?_) (fun k29 => ?_)
        · have h := h.1 k29
          refine lv_aload_n hx hb dX7_writeDoor_157 rfl (lv_at hl 0 rfl) ?_
          refine sw_gi (j := 21) hx hb hts hown hW rfl qf_7 (Nat.le_of_ble_eq_true rfl) sl_33 rfl (Nat.le_of_ble_eq_true rfl) q_965 dX7_writeDoor_158 ?_
          exact sw_ri hx hb hr hlocks hW rfl h dX7_writeDoor_161
        · have h := h.2 k29
          refine lv_aload_n hx hb dX7_writeDoor_138 rfl (lv_at hl 0 rfl) ?_
          refine lv_aload_n hx hb dX7_writeDoor_139 rfl (lv_at hl 0 rfl) ?_
          refine lv_iload_n hx hb dX7_writeDoor_140 rfl (lv_at hl 1 rfl) ?_
          refine lv_iconst (v := 4) hx hb dX7_writeDoor_141 (by decide) ?_
          refine sw_ki (rest := [.ref (sw_ad g 33)]) (sw_runV (As := [.int a1, .int (4 : Int32)]) (rest := [.ref (sw_ad g 33)]) hx hb hml hown hts (kX7_door l g o d a1 (4 : Int32) M_129 _ h) cv_X7_door q_1033 rfl rfl ⟨(Nat.le_of_ble_eq_true rfl), (Nat.le_of_ble_eq_true rfl)⟩ hW (Nat.le_of_ble_eq_true rfl) sl_33 rfl rfl hl.1 rfl (Nat.le_of_ble_eq_true rfl) dX7_writeDoor_142 ⟨(Nat.le_of_ble_eq_true rfl), (Nat.le_of_ble_eq_true rfl)⟩) hW (fun r30 M35 H locs h hW => ?_)
          obtain ⟨h, eM35⟩ := h
          rw [eM35] at hW
          refine sw_ki (rest := []) (sw_runV (As := [.int r30]) (rest := []) hx hb hml hown hts (kX7_revoked l g o d r30 M_129 _ h) cv_X7_revoked q_1132 rfl rfl ⟨(Nat.le_of_ble_eq_true rfl), (Nat.le_of_ble_eq_true rfl)⟩ hW (Nat.le_of_ble_eq_true rfl) sl_33 rfl rfl hl.1 rfl (Nat.le_of_ble_eq_true rfl) dX7_writeDoor_145 ⟨(Nat.le_of_ble_eq_true rfl), (Nat.le_of_ble_eq_true rfl)⟩) hW (fun r31 M34 H locs h hW => ?_)
          obtain ⟨h, eM34⟩ := h
          rw [eM34] at hW
          refine lv_if_ne (tgt := 157) hx hb dX7_writeDoor_148 (by decide) (fun k32 => ?_) (fun k32 => ?_)
          · have h := h.2 k32
            refine lv_aload_n hx hb dX7_writeDoor_157 rfl (lv_at hl 0 rfl) ?_
            refine sw_gi (j := 21) hx hb hts hown hW rfl qf_7 (Nat.le_of_ble_eq_true rfl) sl_33 rfl (Nat.le_of_ble_eq_true rfl) q_965 dX7_writeDoor_158 ?_
            exact sw_ri hx hb hr hlocks hW rfl h dX7_writeDoor_161
          · have h := h.1 k32
            refine lv_aload_n hx hb dX7_writeDoor_151 rfl (lv_at hl 0 rfl) ?_
            refine lv_bipush (v := 42) hx hb dX7_writeDoor_152 (by decide) ?_
            refine sw_kv (rest := []) (sw_runV (As := [.int (42 : Int32)]) (rest := []) hx hb hml hown hts (kX7_says l g o d (42 : Int32) M_129 _ h) cv_X7_says q_1319 rfl rfl ⟨(Nat.le_of_ble_eq_true rfl), (Nat.le_of_ble_eq_true rfl)⟩ hW (Nat.le_of_ble_eq_true rfl) sl_33 rfl rfl hl.1 rfl (Nat.le_of_ble_eq_true rfl) dX7_writeDoor_154 ⟨(Nat.le_of_ble_eq_true rfl), (Nat.le_of_ble_eq_true rfl)⟩) hW (fun  M33 H locs h hW => ?_)
            refine lv_aload_n hx hb dX7_writeDoor_157 rfl (lv_at hl 0 rfl) ?_
            refine sw_gi (j := 21) hx hb hts hown hW rfl qf_7 (Nat.le_of_ble_eq_true rfl) sl_33 rfl (Nat.le_of_ble_eq_true rfl) q_965 dX7_writeDoor_158 ?_
            exact sw_ri hx hb hr hlocks hW rfl h dX7_writeDoor_161
      · refine lv_if_lt (tgt := 129) hx hb dX7_writeDoor_111 (by decide) (fun k37 => ?_) (fun k37 => ?_)
        · have h := h.1 k37
          exact hJ129 _ _ _ _ h hW (lv_sub hl [0, 1] rfl)
        · have h := h.2 k37
          refine lv_aload_n hx hb dX7_writeDoor_114 rfl (lv_at hl 0 rfl) ?_
          refine lv_bipush (v := 61) hx hb dX7_writeDoor_115 (by decide) ?_
          refine sw_kv (rest := []) (sw_runV (As := [.int (61 : Int32)]) (rest := []) hx hb hml hown hts (kX7_says l g o d (61 : Int32) M_41 _ h) cv_X7_says q_1319 rfl rfl ⟨(Nat.le_of_ble_eq_true rfl), (Nat.le_of_ble_eq_true rfl)⟩ hW (Nat.le_of_ble_eq_true rfl) sl_33 rfl rfl hl.1 rfl (Nat.le_of_ble_eq_true rfl) dX7_writeDoor_117 ⟨(Nat.le_of_ble_eq_true rfl), (Nat.le_of_ble_eq_true rfl)⟩) hW (fun  M38 H locs h hW => ?_)
          refine lv_aload_n hx hb dX7_writeDoor_120 rfl (lv_at hl 0 rfl) ?_
          refine lv_aload_n hx hb dX7_writeDoor_121 rfl (lv_at hl 0 rfl) ?_
          refine lv_iload_n hx hb dX7_writeDoor_122 rfl (lv_at hl 1 rfl) ?_
          refine sw_ki (rest := [.ref (sw_ad g 33)]) (sw_runV (As := [.int a1]) (rest := [.ref (sw_ad g 33)]) hx hb hml hown hts (kX7_resultOf l g o d a1 M38 _ h) cv_X7_resultOf q_1098 rfl rfl ⟨(Nat.le_of_ble_eq_true rfl), (Nat.le_of_ble_eq_true rfl)⟩ hW (Nat.le_of_ble_eq_true rfl) sl_33 rfl rfl hl.1 rfl (Nat.le_of_ble_eq_true rfl) dX7_writeDoor_123 ⟨(Nat.le_of_ble_eq_true rfl), (Nat.le_of_ble_eq_true rfl)⟩) hW (fun r39 M41 H locs h hW => ?_)
          obtain ⟨h, eM41⟩ := h
          rw [eM41] at hW
          refine sw_kv (rest := []) (sw_runV (As := [.int r39]) (rest := []) hx hb hml hown hts (kX7_saysNumber l g o d 3 r39 M38 _ h) cv_X7_saysNumber q_1322 rfl rfl ⟨(Nat.le_of_ble_eq_true rfl), (Nat.le_of_ble_eq_true rfl)⟩ hW (Nat.le_of_ble_eq_true rfl) sl_33 rfl rfl hl.1 rfl (Nat.le_of_ble_eq_true rfl) dX7_writeDoor_126 ⟨(Nat.le_of_ble_eq_true rfl), (Nat.le_of_ble_eq_true rfl)⟩) hW (fun  M40 H locs h hW => ?_)
          exact hJ129 _ _ _ _ h hW (lv_sub hl [0, 1] rfl)
    · have h := h.2 k26
      refine lv_aload_n hx hb dX7_writeDoor_51 rfl (lv_at hl 0 rfl) ?_
      refine lv_iload_n hx hb dX7_writeDoor_52 rfl (lv_at hl 2 rfl) ?_
      refine lv_iload_n hx hb dX7_writeDoor_53 rfl (lv_at hl 1 rfl) ?_
      refine sw_ki (rest := []) (sw_runV (As := [.int x2_41, .int a1]) (rest := []) hx hb hml hown hts (kX7_assigned l g o d x2_41 a1 M_41 _ h) cv_X7_assigned q_1021 rfl rfl ⟨(Nat.le_of_ble_eq_true rfl), (Nat.le_of_ble_eq_true rfl)⟩ hW (Nat.le_of_ble_eq_true rfl) sl_33 rfl rfl hl.1 rfl (Nat.le_of_ble_eq_true rfl) dX7_writeDoor_54 ⟨(Nat.le_of_ble_eq_true rfl), (Nat.le_of_ble_eq_true rfl)⟩) hW (fun r43 M56 H locs h hW => ?_)
      obtain ⟨h, eM56⟩ := h
      rw [eM56] at hW
      refine sw_jn_M (g := g) (o := o) (d := d) (nL := 3) (jp := 71) (J := fun M_71 => jX7_writeDoor_71 a1 x2_41 (fun x2_41 M_41 => lX7_writeDoor_41 a1 (fun M_41k => wX7_resultOf a1 M_41k (fun r10 => (r10 < 0 → (jX7_writeDoor_129 a1 Q M_41k)) ∧ (¬ r10 < 0 → (wX7_says (61 : Int32) M_41k (fun M21 => wX7_resultOf a1 M21 (fun r22 => wX7_saysNumber 3 r22 M21 (fun M23 => jX7_writeDoor_129 a1 Q M23))))))) n41 x2_41 M_41) M_71) (Lf := fun M_71 => [(0, .ref (sw_ad g 33)), (1, .int a1), (2, .int x2_41)]) (Sf := fun M_71 => []) (fun M_71 H locs ls h hW hl => ?_) (fun hJ71 => ?_)
      · unfold jX7_writeDoor_71 at h
        refine lv_aload_n hx hb dX7_writeDoor_71 rfl (lv_at hl 0 rfl) ?_
        refine lv_iload_n hx hb dX7_writeDoor_72 rfl (lv_at hl 2 rfl) ?_
        refine lv_iload_n hx hb dX7_writeDoor_73 rfl (lv_at hl 1 rfl) ?_
        refine lv_iconst (v := 2) hx hb dX7_writeDoor_74 (by decide) ?_
        refine sw_ki (rest := []) (sw_runV (As := [.int x2_41, .int a1, .int (2 : Int32)]) (rest := []) hx hb hml hown hts (kX7_pair l g o d x2_41 a1 (2 : Int32) M_71 _ h) cv_X7_pair q_1018 rfl rfl ⟨(Nat.le_of_ble_eq_true rfl), (Nat.le_of_ble_eq_true rfl)⟩ hW (Nat.le_of_ble_eq_true rfl) sl_33 rfl rfl hl.1 rfl (Nat.le_of_ble_eq_true rfl) dX7_writeDoor_75 ⟨(Nat.le_of_ble_eq_true rfl), (Nat.le_of_ble_eq_true rfl)⟩) hW (fun r44 M52 H locs h hW => ?_)
        obtain ⟨h, eM52⟩ := h
        rw [eM52] at hW
        refine lv_if_le (tgt := 100) hx hb dX7_writeDoor_78 (by decide) (fun k45 => ?_) (fun k45 => ?_)
        · have h := h.1 k45
          obtain ⟨v46, ev46⟩ : ∃ z : Int32, z = x2_41 + (1 : Int32) := ⟨_, rfl⟩
          have h := h v46 ev46
          refine lv_iinc (v := v46) (lv' := [(2, .int v46), (0, .ref (sw_ad g 33)), (1, .int a1)]) hx hb dX7_writeDoor_100 hl (k := 2) rfl (by rw [ev46]; rfl) (Nat.le_of_ble_eq_true rfl) rfl (fun ls hl => ?_)
          refine lv_goto (tgt := 41) hx hb dX7_writeDoor_103 (by decide) ?_
          exact ih41 _ _ _ _ _ h hW (lv_sub hl [1, 2, 0] rfl)
        · have h := h.2 k45
          refine lv_aload_n hx hb dX7_writeDoor_81 rfl (lv_at hl 0 rfl) ?_
          refine lv_bipush (v := 58) hx hb dX7_writeDoor_82 (by decide) ?_
          refine sw_kv (rest := []) (sw_runV (As := [.int (58 : Int32)]) (rest := []) hx hb hml hown hts (kX7_says l g o d (58 : Int32) M_71 _ h) cv_X7_says q_1319 rfl rfl ⟨(Nat.le_of_ble_eq_true rfl), (Nat.le_of_ble_eq_true rfl)⟩ hW (Nat.le_of_ble_eq_true rfl) sl_33 rfl rfl hl.1 rfl (Nat.le_of_ble_eq_true rfl) dX7_writeDoor_84 ⟨(Nat.le_of_ble_eq_true rfl), (Nat.le_of_ble_eq_true rfl)⟩) hW (fun  M47 H locs h hW => ?_)
          refine lv_aload_n hx hb dX7_writeDoor_87 rfl (lv_at hl 0 rfl) ?_
          refine lv_aload_n hx hb dX7_writeDoor_88 rfl (lv_at hl 0 rfl) ?_
          refine lv_iload_n hx hb dX7_writeDoor_89 rfl (lv_at hl 2 rfl) ?_
          refine lv_iload_n hx hb dX7_writeDoor_90 rfl (lv_at hl 1 rfl) ?_
          refine lv_iconst (v := 2) hx hb dX7_writeDoor_91 (by decide) ?_
          refine sw_ki (rest := [.ref (sw_ad g 33)]) (sw_runV (As := [.int x2_41, .int a1, .int (2 : Int32)]) (rest := [.ref (sw_ad g 33)]) hx hb hml hown hts (kX7_pair l g o d x2_41 a1 (2 : Int32) M47 _ h) cv_X7_pair q_1018 rfl rfl ⟨(Nat.le_of_ble_eq_true rfl), (Nat.le_of_ble_eq_true rfl)⟩ hW (Nat.le_of_ble_eq_true rfl) sl_33 rfl rfl hl.1 rfl (Nat.le_of_ble_eq_true rfl) dX7_writeDoor_92 ⟨(Nat.le_of_ble_eq_true rfl), (Nat.le_of_ble_eq_true rfl)⟩) hW (fun r48 M51 H locs h hW => ?_)
          obtain ⟨h, eM51⟩ := h
          rw [eM51] at hW
          refine lv_iconst (v := 1) hx hb dX7_writeDoor_95 (by decide) ?_
          refine lv_isub hx hb dX7_writeDoor_96 ?_
          refine sw_kv (rest := []) (sw_runV (As := [.int (r48 - (1 : Int32))]) (rest := []) hx hb hml hown hts (kX7_saysNumber l g o d 3 (r48 - (1 : Int32)) M47 _ h) cv_X7_saysNumber q_1322 rfl rfl ⟨(Nat.le_of_ble_eq_true rfl), (Nat.le_of_ble_eq_true rfl)⟩ hW (Nat.le_of_ble_eq_true rfl) sl_33 rfl rfl hl.1 rfl (Nat.le_of_ble_eq_true rfl) dX7_writeDoor_97 ⟨(Nat.le_of_ble_eq_true rfl), (Nat.le_of_ble_eq_true rfl)⟩) hW (fun  M49 H locs h hW => ?_)
          obtain ⟨v50, ev50⟩ : ∃ z : Int32, z = x2_41 + (1 : Int32) := ⟨_, rfl⟩
          have h := h v50 ev50
          refine lv_iinc (v := v50) (lv' := [(2, .int v50), (0, .ref (sw_ad g 33)), (1, .int a1)]) hx hb dX7_writeDoor_100 hl (k := 2) rfl (by rw [ev50]; rfl) (Nat.le_of_ble_eq_true rfl) rfl (fun ls hl => ?_)
          refine lv_goto (tgt := 41) hx hb dX7_writeDoor_103 (by decide) ?_
          exact ih41 _ _ _ _ _ h hW (lv_sub hl [1, 2, 0] rfl)
      · refine lv_if_eq (tgt := 71) hx hb dX7_writeDoor_57 (by decide) (fun k53 => ?_) (fun k53 => ?_)
        · have h := h.1 k53
          exact hJ71 _ _ _ _ h hW (lv_sub hl [0, 1, 2] rfl)
        · have h := h.2 k53
          refine lv_aload_n hx hb dX7_writeDoor_60 rfl (lv_at hl 0 rfl) ?_
          refine lv_bipush (v := 32) hx hb dX7_writeDoor_61 (by decide) ?_
          refine sw_kv (rest := []) (sw_runV (As := [.int (32 : Int32)]) (rest := []) hx hb hml hown hts (kX7_says l g o d (32 : Int32) M_41 _ h) cv_X7_says q_1319 rfl rfl ⟨(Nat.le_of_ble_eq_true rfl), (Nat.le_of_ble_eq_true rfl)⟩ hW (Nat.le_of_ble_eq_true rfl) sl_33 rfl rfl hl.1 rfl (Nat.le_of_ble_eq_true rfl) dX7_writeDoor_63 ⟨(Nat.le_of_ble_eq_true rfl), (Nat.le_of_ble_eq_true rfl)⟩) hW (fun  M54 H locs h hW => ?_)
          refine lv_aload_n hx hb dX7_writeDoor_66 rfl (lv_at hl 0 rfl) ?_
          refine lv_iload_n hx hb dX7_writeDoor_67 rfl (lv_at hl 2 rfl) ?_
          refine sw_kv (rest := []) (sw_runV (As := [.int x2_41]) (rest := []) hx hb hml hown hts (kX7_saysNumber l g o d 3 x2_41 M54 _ h) cv_X7_saysNumber q_1322 rfl rfl ⟨(Nat.le_of_ble_eq_true rfl), (Nat.le_of_ble_eq_true rfl)⟩ hW (Nat.le_of_ble_eq_true rfl) sl_33 rfl rfl hl.1 rfl (Nat.le_of_ble_eq_true rfl) dX7_writeDoor_68 ⟨(Nat.le_of_ble_eq_true rfl), (Nat.le_of_ble_eq_true rfl)⟩) hW (fun  M55 H locs h hW => ?_)
          exact hJ71 _ _ _ _ h hW (lv_sub hl [0, 1, 2] rfl)
  · have h := h.1 k4
    refine lv_iconst (v := 0) hx hb dX7_writeDoor_12 (by decide) ?_
    exact sw_ri hx hb hr hlocks hW rfl h dX7_writeDoor_13

def lX7_writeExaminer_62 (a1 : Int32) (K62 : sM → Prop) : Nat → Int32 → sM → Prop
  | 0, _, _ => False
  | n62 + 1, x2_62, M_62 => ((6 : Int32) ≤ x2_62 → (K62 M_62)) ∧ (¬ (6 : Int32) ≤ x2_62 → (wX7_examiner a1 (1 : Int32) M_62 (fun r23 => (((r23 >>> (x2_62 &&& 31)) &&& (1 : Int32)) = (1 : Int32) → (wX7_saysNumber 3 x2_62 M_62 (fun M26 => ∀ v27 : Int32, v27 = x2_62 + (1 : Int32) → ((fun x2_62 M_62 => lX7_writeExaminer_62 a1 K62 n62 x2_62 M_62) v27 M26)))) ∧ (¬ ((r23 >>> (x2_62 &&& 31)) &&& (1 : Int32)) = (1 : Int32) → (∀ v25 : Int32, v25 = x2_62 + (1 : Int32) → ((fun x2_62 M_62 => lX7_writeExaminer_62 a1 K62 n62 x2_62 M_62) v25 M_62))))))
theorem cv_X7_writeExaminer : sw_cV yX7_writeExaminer RX7 cX7_writeExaminer 3 (some .int) 1 := ⟨q_1326, q_1327, q_9, q_1328, by decide +kernel⟩
def wX7_writeExaminer (a1 : Int32) (M : sM) (Q : Int32 → sM → Prop) : Prop :=
  wX7_isExaminer a1 M (fun r1 => wX7_isThere r1 M (fun r2 M3 => (r2 = 0 → (Q (0 : Int32) M3)) ∧ (¬ r2 = 0 → (∀ M5 : sM, M5 = sw_ms M3 33 21 (0 : Int32) → (wX7_examiner a1 (0 : Int32) M5 (fun r6 => wX7_says r6 M5 (fun M7 => wX7_loadOf a1 M7 (fun r8 => wX7_saysNumber 3 r8 M7 (fun M9 => wX7_says (47 : Int32) M9 (fun M10 => wX7_examiner a1 (2 : Int32) M10 (fun r11 => wX7_saysNumber 3 r11 M10 (fun M12 => wX7_says (35 : Int32) M12 (fun M13 => ∃ n62, lX7_writeExaminer_62 a1 (fun M_62k => wX7_says (43 : Int32) M_62k (fun M14 => wX7_examiner a1 (3 : Int32) M14 (fun r15 => wX7_saysNumber 3 r15 M14 (fun M16 => Q (M16 33 21) M16)))) n62 (0 : Int32) M13)))))))))))))
set_option maxRecDepth 20000 in
theorem kX7_writeExaminer (l : Launch) (g : sG) (o : Nat → Int64) (d : Nat → UInt64) (a1 : Int32) (M : sM) (Q : Int32 → sM → Prop) (h : wX7_writeExaminer a1 M Q) : Met l yX7_writeExaminer (sw_ws yX7_writeExaminer cX7_writeExaminer 3 (some .int)) { frames := 6, cells := 0, slots := 0, locals := 126 } (va_Pc [.ref (sw_ad g 33), .int a1] (sw_Pr g o d M)) (va_Qi Q (sw_Po g o d) (sw_A g)) 0 0 (sw_A g) := by
  refine sw_met (by decide) (Nat.le_of_ble_eq_true rfl) ?_
  intro p e s m args below meth c ls hx hb hr hts hown hml hlocks hW hl
  have hown : s.vm.findClass RX7 = some m.cls := hown
  have hl : lv_has ls 3 [(0, .ref (sw_ad g 33)), (1, .int a1)] := hl
  unfold wX7_writeExaminer at h
  refine lv_aload_n hx hb dX7_writeExaminer_0 rfl (lv_at hl 0 rfl) ?_
  refine lv_aload_n hx hb dX7_writeExaminer_1 rfl (lv_at hl 0 rfl) ?_
  refine lv_iload_n hx hb dX7_writeExaminer_2 rfl (lv_at hl 1 rfl) ?_
  refine sw_ki (rest := [.ref (sw_ad g 33)]) (sw_runV (As := [.int a1]) (rest := [.ref (sw_ad g 33)]) hx hb hml hown hts (kX7_isExaminer l g o d a1 M _ h) cv_X7_isExaminer q_1012 rfl rfl ⟨(Nat.le_of_ble_eq_true rfl), (Nat.le_of_ble_eq_true rfl)⟩ hW (Nat.le_of_ble_eq_true rfl) sl_33 rfl rfl hl.1 rfl (Nat.le_of_ble_eq_true rfl) dX7_writeExaminer_3 ⟨(Nat.le_of_ble_eq_true rfl), (Nat.le_of_ble_eq_true rfl)⟩) hW (fun r1 M32 H locs h hW => ?_)
  obtain ⟨h, eM32⟩ := h
  rw [eM32] at hW
  refine sw_ki (rest := []) (sw_runV (As := [.int r1]) (rest := []) hx hb hml hown hts (kX7_isThere l g o d r1 M _ h) cv_X7_isThere q_1143 rfl rfl ⟨(Nat.le_of_ble_eq_true rfl), (Nat.le_of_ble_eq_true rfl)⟩ hW (Nat.le_of_ble_eq_true rfl) sl_33 rfl rfl hl.1 rfl (Nat.le_of_ble_eq_true rfl) dX7_writeExaminer_6 ⟨(Nat.le_of_ble_eq_true rfl), (Nat.le_of_ble_eq_true rfl)⟩) hW (fun r2 M3 H locs h hW => ?_)
  refine lv_if_ne (tgt := 14) hx hb dX7_writeExaminer_9 (by decide) (fun k4 => ?_) (fun k4 => ?_)
  · have h := h.2 k4
    refine lv_aload_n hx hb dX7_writeExaminer_14 rfl (lv_at hl 0 rfl) ?_
    refine lv_iconst (v := 0) hx hb dX7_writeExaminer_15 (by decide) ?_
    refine sw_pi (j := 21) hx hb hts hown hW rfl qf_7 tyX7 tyX7_ok nmX7 (Nat.le_of_ble_eq_true rfl) sl_33 rfl (Nat.le_of_ble_eq_true rfl) q_965 rfl rfl rfl dX7_writeExaminer_16 (fun H locs hW => ?_)
    obtain ⟨M5, eM5⟩ : ∃ z : sM, z = sw_ms M3 33 21 (0 : Int32) := ⟨_, rfl⟩
    rw [← eM5] at hW
    have h := h M5 eM5
    refine lv_aload_n hx hb dX7_writeExaminer_19 rfl (lv_at hl 0 rfl) ?_
    refine lv_aload_n hx hb dX7_writeExaminer_20 rfl (lv_at hl 0 rfl) ?_
    refine lv_iload_n hx hb dX7_writeExaminer_21 rfl (lv_at hl 1 rfl) ?_
    refine lv_iconst (v := 0) hx hb dX7_writeExaminer_22 (by decide) ?_
    refine sw_ki (rest := [.ref (sw_ad g 33)]) (sw_runV (As := [.int a1, .int (0 : Int32)]) (rest := [.ref (sw_ad g 33)]) hx hb hml hown hts (kX7_examiner l g o d a1 (0 : Int32) M5 _ h) cv_X7_examiner q_1030 rfl rfl ⟨(Nat.le_of_ble_eq_true rfl), (Nat.le_of_ble_eq_true rfl)⟩ hW (Nat.le_of_ble_eq_true rfl) sl_33 rfl rfl hl.1 rfl (Nat.le_of_ble_eq_true rfl) dX7_writeExaminer_23 ⟨(Nat.le_of_ble_eq_true rfl), (Nat.le_of_ble_eq_true rfl)⟩) hW (fun r6 M31 H locs h hW => ?_)
    obtain ⟨h, eM31⟩ := h
    rw [eM31] at hW
    refine sw_kv (rest := []) (sw_runV (As := [.int r6]) (rest := []) hx hb hml hown hts (kX7_says l g o d r6 M5 _ h) cv_X7_says q_1319 rfl rfl ⟨(Nat.le_of_ble_eq_true rfl), (Nat.le_of_ble_eq_true rfl)⟩ hW (Nat.le_of_ble_eq_true rfl) sl_33 rfl rfl hl.1 rfl (Nat.le_of_ble_eq_true rfl) dX7_writeExaminer_26 ⟨(Nat.le_of_ble_eq_true rfl), (Nat.le_of_ble_eq_true rfl)⟩) hW (fun  M7 H locs h hW => ?_)
    refine lv_aload_n hx hb dX7_writeExaminer_29 rfl (lv_at hl 0 rfl) ?_
    refine lv_aload_n hx hb dX7_writeExaminer_30 rfl (lv_at hl 0 rfl) ?_
    refine lv_iload_n hx hb dX7_writeExaminer_31 rfl (lv_at hl 1 rfl) ?_
    refine sw_ki (rest := [.ref (sw_ad g 33)]) (sw_runV (As := [.int a1]) (rest := [.ref (sw_ad g 33)]) hx hb hml hown hts (kX7_loadOf l g o d a1 M7 _ h) cv_X7_loadOf q_1046 rfl rfl ⟨(Nat.le_of_ble_eq_true rfl), (Nat.le_of_ble_eq_true rfl)⟩ hW (Nat.le_of_ble_eq_true rfl) sl_33 rfl rfl hl.1 rfl (Nat.le_of_ble_eq_true rfl) dX7_writeExaminer_32 ⟨(Nat.le_of_ble_eq_true rfl), (Nat.le_of_ble_eq_true rfl)⟩) hW (fun r8 M30 H locs h hW => ?_)
    obtain ⟨h, eM30⟩ := h
    rw [eM30] at hW
    refine sw_kv (rest := []) (sw_runV (As := [.int r8]) (rest := []) hx hb hml hown hts (kX7_saysNumber l g o d 3 r8 M7 _ h) cv_X7_saysNumber q_1322 rfl rfl ⟨(Nat.le_of_ble_eq_true rfl), (Nat.le_of_ble_eq_true rfl)⟩ hW (Nat.le_of_ble_eq_true rfl) sl_33 rfl rfl hl.1 rfl (Nat.le_of_ble_eq_true rfl) dX7_writeExaminer_35 ⟨(Nat.le_of_ble_eq_true rfl), (Nat.le_of_ble_eq_true rfl)⟩) hW (fun  M9 H locs h hW => ?_)
    refine lv_aload_n hx hb dX7_writeExaminer_38 rfl (lv_at hl 0 rfl) ?_
    refine lv_bipush (v := 47) hx hb dX7_writeExaminer_39 (by decide) ?_
    refine sw_kv (rest := []) (sw_runV (As := [.int (47 : Int32)]) (rest := []) hx hb hml hown hts (kX7_says l g o d (47 : Int32) M9 _ h) cv_X7_says q_1319 rfl rfl ⟨(Nat.le_of_ble_eq_true rfl), (Nat.le_of_ble_eq_true rfl)⟩ hW (Nat.le_of_ble_eq_true rfl) sl_33 rfl rfl hl.1 rfl (Nat.le_of_ble_eq_true rfl) dX7_writeExaminer_41 ⟨(Nat.le_of_ble_eq_true rfl), (Nat.le_of_ble_eq_true rfl)⟩) hW (fun  M10 H locs h hW => ?_)
    refine lv_aload_n hx hb dX7_writeExaminer_44 rfl (lv_at hl 0 rfl) ?_
    refine lv_aload_n hx hb dX7_writeExaminer_45 rfl (lv_at hl 0 rfl) ?_
    refine lv_iload_n hx hb dX7_writeExaminer_46 rfl (lv_at hl 1 rfl) ?_
    refine lv_iconst (v := 2) hx hb dX7_writeExaminer_47 (by decide) ?_
    refine sw_ki (rest := [.ref (sw_ad g 33)]) (sw_runV (As := [.int a1, .int (2 : Int32)]) (rest := [.ref (sw_ad g 33)]) hx hb hml hown hts (kX7_examiner l g o d a1 (2 : Int32) M10 _ h) cv_X7_examiner q_1030 rfl rfl ⟨(Nat.le_of_ble_eq_true rfl), (Nat.le_of_ble_eq_true rfl)⟩ hW (Nat.le_of_ble_eq_true rfl) sl_33 rfl rfl hl.1 rfl (Nat.le_of_ble_eq_true rfl) dX7_writeExaminer_48 ⟨(Nat.le_of_ble_eq_true rfl), (Nat.le_of_ble_eq_true rfl)⟩) hW (fun r11 M29 H locs h hW => ?_)
    obtain ⟨h, eM29⟩ := h
    rw [eM29] at hW
    refine sw_kv (rest := []) (sw_runV (As := [.int r11]) (rest := []) hx hb hml hown hts (kX7_saysNumber l g o d 3 r11 M10 _ h) cv_X7_saysNumber q_1322 rfl rfl ⟨(Nat.le_of_ble_eq_true rfl), (Nat.le_of_ble_eq_true rfl)⟩ hW (Nat.le_of_ble_eq_true rfl) sl_33 rfl rfl hl.1 rfl (Nat.le_of_ble_eq_true rfl) dX7_writeExaminer_51 ⟨(Nat.le_of_ble_eq_true rfl), (Nat.le_of_ble_eq_true rfl)⟩) hW (fun  M12 H locs h hW => ?_)
    refine lv_aload_n hx hb dX7_writeExaminer_54 rfl (lv_at hl 0 rfl) ?_
    refine lv_bipush (v := 35) hx hb dX7_writeExaminer_55 (by decide) ?_
    refine sw_kv (rest := []) (sw_runV (As := [.int (35 : Int32)]) (rest := []) hx hb hml hown hts (kX7_says l g o d (35 : Int32) M12 _ h) cv_X7_says q_1319 rfl rfl ⟨(Nat.le_of_ble_eq_true rfl), (Nat.le_of_ble_eq_true rfl)⟩ hW (Nat.le_of_ble_eq_true rfl) sl_33 rfl rfl hl.1 rfl (Nat.le_of_ble_eq_true rfl) dX7_writeExaminer_57 ⟨(Nat.le_of_ble_eq_true rfl), (Nat.le_of_ble_eq_true rfl)⟩) hW (fun  M13 H locs h hW => ?_)
    refine lv_iconst (v := 0) hx hb dX7_writeExaminer_60 (by decide) ?_
    refine lv_istore_n (lv' := [(2, .int (0 : Int32)), (0, .ref (sw_ad g 33)), (1, .int a1)]) hx hb dX7_writeExaminer_61 rfl hl (Nat.le_of_ble_eq_true rfl) rfl (fun ls hl => ?_)
    obtain ⟨n62, h⟩ := h
    refine sw_lp_iM (hd := 62) (Lf := fun x2_62 M_62 => [(0, .ref (sw_ad g 33)), (1, .int a1), (2, .int x2_62)]) h hW (lv_sub hl [1, 2, 0] rfl) (fun _ _ h => h) (fun n62 ih62 x2_62 M_62 H locs ls h hW hl => ?_)
    rw [lX7_writeExaminer_62.eq_2] at h
    refine lv_iload_n hx hb dX7_writeExaminer_62 rfl (lv_at hl 2 rfl) ?_
    refine lv_bipush (v := 6) hx hb dX7_writeExaminer_63 (by decide) ?_
    refine lv_icmp_ge (tgt := 93) hx hb dX7_writeExaminer_65 (by decide) (fun k18 => ?_) (fun k18 => ?_)
    · have h := h.1 k18
      refine lv_aload_n hx hb dX7_writeExaminer_93 rfl (lv_at hl 0 rfl) ?_
      refine lv_bipush (v := 43) hx hb dX7_writeExaminer_94 (by decide) ?_
      refine sw_kv (rest := []) (sw_runV (As := [.int (43 : Int32)]) (rest := []) hx hb hml hown hts (kX7_says l g o d (43 : Int32) M_62 _ h) cv_X7_says q_1319 rfl rfl ⟨(Nat.le_of_ble_eq_true rfl), (Nat.le_of_ble_eq_true rfl)⟩ hW (Nat.le_of_ble_eq_true rfl) sl_33 rfl rfl hl.1 rfl (Nat.le_of_ble_eq_true rfl) dX7_writeExaminer_96 ⟨(Nat.le_of_ble_eq_true rfl), (Nat.le_of_ble_eq_true rfl)⟩) hW (fun  M19 H locs h hW => ?_)
      refine lv_aload_n hx hb dX7_writeExaminer_99 rfl (lv_at hl 0 rfl) ?_
      refine lv_aload_n hx hb dX7_writeExaminer_100 rfl (lv_at hl 0 rfl) ?_
      refine lv_iload_n hx hb dX7_writeExaminer_101 rfl (lv_at hl 1 rfl) ?_
      refine lv_iconst (v := 3) hx hb dX7_writeExaminer_102 (by decide) ?_
      refine sw_ki (rest := [.ref (sw_ad g 33)]) (sw_runV (As := [.int a1, .int (3 : Int32)]) (rest := [.ref (sw_ad g 33)]) hx hb hml hown hts (kX7_examiner l g o d a1 (3 : Int32) M19 _ h) cv_X7_examiner q_1030 rfl rfl ⟨(Nat.le_of_ble_eq_true rfl), (Nat.le_of_ble_eq_true rfl)⟩ hW (Nat.le_of_ble_eq_true rfl) sl_33 rfl rfl hl.1 rfl (Nat.le_of_ble_eq_true rfl) dX7_writeExaminer_103 ⟨(Nat.le_of_ble_eq_true rfl), (Nat.le_of_ble_eq_true rfl)⟩) hW (fun r20 M22 H locs h hW => ?_)
      obtain ⟨h, eM22⟩ := h
      rw [eM22] at hW
      refine sw_kv (rest := []) (sw_runV (As := [.int r20]) (rest := []) hx hb hml hown hts (kX7_saysNumber l g o d 3 r20 M19 _ h) cv_X7_saysNumber q_1322 rfl rfl ⟨(Nat.le_of_ble_eq_true rfl), (Nat.le_of_ble_eq_true rfl)⟩ hW (Nat.le_of_ble_eq_true rfl) sl_33 rfl rfl hl.1 rfl (Nat.le_of_ble_eq_true rfl) dX7_writeExaminer_106 ⟨(Nat.le_of_ble_eq_true rfl), (Nat.le_of_ble_eq_true rfl)⟩) hW (fun  M21 H locs h hW => ?_)
      refine lv_aload_n hx hb dX7_writeExaminer_109 rfl (lv_at hl 0 rfl) ?_
      refine sw_gi (j := 21) hx hb hts hown hW rfl qf_7 (Nat.le_of_ble_eq_true rfl) sl_33 rfl (Nat.le_of_ble_eq_true rfl) q_965 dX7_writeExaminer_110 ?_
      exact sw_ri hx hb hr hlocks hW rfl h dX7_writeExaminer_113
    · have h := h.2 k18
      refine lv_aload_n hx hb dX7_writeExaminer_68 rfl (lv_at hl 0 rfl) ?_
      refine lv_iload_n hx hb dX7_writeExaminer_69 rfl (lv_at hl 1 rfl) ?_
      refine lv_iconst (v := 1) hx hb dX7_writeExaminer_70 (by decide) ?_
      refine sw_ki (rest := []) (sw_runV (As := [.int a1, .int (1 : Int32)]) (rest := []) hx hb hml hown hts (kX7_examiner l g o d a1 (1 : Int32) M_62 _ h) cv_X7_examiner q_1030 rfl rfl ⟨(Nat.le_of_ble_eq_true rfl), (Nat.le_of_ble_eq_true rfl)⟩ hW (Nat.le_of_ble_eq_true rfl) sl_33 rfl rfl hl.1 rfl (Nat.le_of_ble_eq_true rfl) dX7_writeExaminer_71 ⟨(Nat.le_of_ble_eq_true rfl), (Nat.le_of_ble_eq_true rfl)⟩) hW (fun r23 M28 H locs h hW => ?_)
      obtain ⟨h, eM28⟩ := h
      rw [eM28] at hW
      refine lv_iload_n hx hb dX7_writeExaminer_74 rfl (lv_at hl 2 rfl) ?_
      refine lv_ishr hx hb dX7_writeExaminer_75 ?_
      refine lv_iconst (v := 1) hx hb dX7_writeExaminer_76 (by decide) ?_
      refine lv_iand hx hb dX7_writeExaminer_77 ?_
      refine lv_iconst (v := 1) hx hb dX7_writeExaminer_78 (by decide) ?_
      refine lv_icmp_ne (tgt := 87) hx hb dX7_writeExaminer_79 (by decide) (fun k24 => ?_) (fun k24 => ?_)
      · have h := h.2 k24
        obtain ⟨v25, ev25⟩ : ∃ z : Int32, z = x2_62 + (1 : Int32) := ⟨_, rfl⟩
        have h := h v25 ev25
        refine lv_iinc (v := v25) (lv' := [(2, .int v25), (0, .ref (sw_ad g 33)), (1, .int a1)]) hx hb dX7_writeExaminer_87 hl (k := 2) rfl (by rw [ev25]; rfl) (Nat.le_of_ble_eq_true rfl) rfl (fun ls hl => ?_)
        refine lv_goto (tgt := 62) hx hb dX7_writeExaminer_90 (by decide) ?_
        exact ih62 _ _ _ _ _ h hW (lv_sub hl [1, 2, 0] rfl)
      · have h := h.1 k24
        refine lv_aload_n hx hb dX7_writeExaminer_82 rfl (lv_at hl 0 rfl) ?_
        refine lv_iload_n hx hb dX7_writeExaminer_83 rfl (lv_at hl 2 rfl) ?_
        refine sw_kv (rest := []) (sw_runV (As := [.int x2_62]) (rest := []) hx hb hml hown hts (kX7_saysNumber l g o d 3 x2_62 M_62 _ h) cv_X7_saysNumber q_1322 rfl rfl ⟨(Nat.le_of_ble_eq_true rfl), (Nat.le_of_ble_eq_true rfl)⟩ hW (Nat.le_of_ble_eq_true rfl) sl_33 rfl rfl hl.1 rfl (Nat.le_of_ble_eq_true rfl) dX7_writeExaminer_84 ⟨(Nat.le_of_ble_eq_true rfl), (Nat.le_of_ble_eq_true rfl)⟩) hW (fun  M26 H locs h hW => ?_)
        obtain ⟨v27, ev27⟩ : ∃ z : Int32, z = x2_62 + (1 : Int32) := ⟨_, rfl⟩
        have h := h v27 ev27
        refine lv_iinc (v := v27) (lv' := [(2, .int v27), (0, .ref (sw_ad g 33)), (1, .int a1)]) hx hb dX7_writeExaminer_87 hl (k := 2) rfl (by rw [ev27]; rfl) (Nat.le_of_ble_eq_true rfl) rfl (fun ls hl => ?_)
        refine lv_goto (tgt := 62) hx hb dX7_writeExaminer_90 (by decide) ?_
        exact ih62 _ _ _ _ _ h hW (lv_sub hl [1, 2, 0] rfl)
  · have h := h.1 k4
    refine lv_iconst (v := 0) hx hb dX7_writeExaminer_12 (by decide) ?_
    exact sw_ri hx hb hr hlocks hW rfl h dX7_writeExaminer_13

theorem cv_X7_outputAt : sw_cV yX7_outputAt RX7 cX7_outputAt 2 (some .char) 1 := ⟨q_1330, q_1331, q_9, q_1332, by decide +kernel⟩
def wX7_outputAt (a1 : Int32) (M : sM) (Q : Int32 → sM → Prop) : Prop :=
  wX7_in a1 (0 : Int32) ((M 33 21) - (1 : Int32)) (fun r1 => wX7_isThere r1 M (fun r2 M3 => (r2 = 0 → (narrow .char (.int (32 : Int32)) = .int (32 : Int32) ∧ (Q (32 : Int32) M3))) ∧ (¬ r2 = 0 → (vp_in a1 40 ∧ (narrow .char (.int (M3 45 (a1).toNatClampNeg)) = .int (M3 45 (a1).toNatClampNeg) ∧ (Q (M3 45 (a1).toNatClampNeg) M3))))))
set_option maxRecDepth 20000 in
theorem kX7_outputAt (l : Launch) (g : sG) (o : Nat → Int64) (d : Nat → UInt64) (a1 : Int32) (M : sM) (Q : Int32 → sM → Prop) (h : wX7_outputAt a1 M Q) : Met l yX7_outputAt (sw_ws yX7_outputAt cX7_outputAt 2 (some .char)) { frames := 1, cells := 0, slots := 0, locals := 22 } (va_Pc [.ref (sw_ad g 33), .int a1] (sw_Pr g o d M)) (va_Qi Q (sw_Po g o d) (sw_A g)) 0 0 (sw_A g) := by
  refine sw_met (by decide) (Nat.le_of_ble_eq_true rfl) ?_
  intro p e s m args below meth c ls hx hb hr hts hown hml hlocks hW hl
  have hown : s.vm.findClass RX7 = some m.cls := hown
  have hl : lv_has ls 2 [(0, .ref (sw_ad g 33)), (1, .int a1)] := hl
  unfold wX7_outputAt at h
  refine lv_aload_n hx hb dX7_outputAt_0 rfl (lv_at hl 0 rfl) ?_
  refine lv_iload_n hx hb dX7_outputAt_1 rfl (lv_at hl 1 rfl) ?_
  refine lv_iconst (v := 0) hx hb dX7_outputAt_2 (by decide) ?_
  refine lv_aload_n hx hb dX7_outputAt_3 rfl (lv_at hl 0 rfl) ?_
  refine sw_gi (j := 21) hx hb hts hown hW rfl qf_7 (Nat.le_of_ble_eq_true rfl) sl_33 rfl (Nat.le_of_ble_eq_true rfl) q_965 dX7_outputAt_4 ?_
  refine lv_iconst (v := 1) hx hb dX7_outputAt_7 (by decide) ?_
  refine lv_isub hx hb dX7_outputAt_8 ?_
  refine sw_ki (rest := [.ref (sw_ad g 33)]) (sw_runS (As := [.int a1, .int (0 : Int32), .int ((M 33 21) - (1 : Int32))]) (rest := [.ref (sw_ad g 33)]) hx hb hml hown hts (kX7_in l g o d a1 (0 : Int32) ((M 33 21) - (1 : Int32)) M _ h) cs_X7_in q_986 rfl rfl ⟨(Nat.le_of_ble_eq_true rfl), (Nat.le_of_ble_eq_true rfl)⟩ hW rfl hl.1 rfl (Nat.le_of_ble_eq_true rfl) dX7_outputAt_9 ⟨(Nat.le_of_ble_eq_true rfl), (Nat.le_of_ble_eq_true rfl)⟩) hW (fun r1 M6 H locs h hW => ?_)
  obtain ⟨h, eM6⟩ := h
  rw [eM6] at hW
  refine sw_ki (rest := []) (sw_runV (As := [.int r1]) (rest := []) hx hb hml hown hts (kX7_isThere l g o d r1 M _ h) cv_X7_isThere q_1143 rfl rfl ⟨(Nat.le_of_ble_eq_true rfl), (Nat.le_of_ble_eq_true rfl)⟩ hW (Nat.le_of_ble_eq_true rfl) sl_33 rfl rfl hl.1 rfl (Nat.le_of_ble_eq_true rfl) dX7_outputAt_12 ⟨(Nat.le_of_ble_eq_true rfl), (Nat.le_of_ble_eq_true rfl)⟩) hW (fun r2 M3 H locs h hW => ?_)
  refine lv_if_eq (tgt := 27) hx hb dX7_outputAt_15 (by decide) (fun k4 => ?_) (fun k4 => ?_)
  · have h := h.1 k4
    refine lv_bipush (v := 32) hx hb dX7_outputAt_27 (by decide) ?_
    exact sw_ri hx hb hr hlocks hW h.1 h.2 dX7_outputAt_29
  · have h := h.2 k4
    refine lv_aload_n hx hb dX7_outputAt_18 rfl (lv_at hl 0 rfl) ?_
    refine sw_gr (j := 20) (r := 45) hx hb hts hown hW rfl qf_7 (Nat.le_of_ble_eq_true rfl) sl_33 rfl (Nat.le_of_ble_eq_true rfl) q_964 dX7_outputAt_19 ?_
    refine lv_iload_n hx hb dX7_outputAt_22 rfl (lv_at hl 1 rfl) ?_
    have b5 := h.1
    have h := h.2
    refine sw_ca (n := 40) hx hb hW (Nat.le_of_ble_eq_true rfl) sl_45 b5 dX7_outputAt_23 ?_
    refine lv_goto (tgt := 29) hx hb dX7_outputAt_24 (by decide) ?_
    exact sw_ri hx hb hr hlocks hW h.1 h.2 dX7_outputAt_29

def jX7_undo_13 (M : sM) (Q : Int32 → sM → Prop) (t0_13 : Int32) : Prop :=
  ∀ M1 : sM, M1 = sw_ms M 33 6 t0_13 → (((M1 33 6) ≤ 0 → (∀ M3 : sM, M3 = sw_ms M1 33 5 ((M1 33 5) - (1 : Int32)) → ((¬ ((228 : Int32) * (M3 33 5)) < 0 ∧ ¬ (0 : Int32) < 0 ∧ ¬ (228 : Int32) < 0 ∧ (((228 : Int32) * (M3 33 5))).toNatClampNeg + ((228 : Int32)).toNatClampNeg ≤ 1824 ∧ ((0 : Int32)).toNatClampNeg + ((228 : Int32)).toNatClampNeg ≤ 228) ∧ (∀ M4 : sM, M4 = sw_ma M3 34 (va_cpy (M3 37) (M3 34) (((228 : Int32) * (M3 33 5))).toNatClampNeg ((0 : Int32)).toNatClampNeg ((228 : Int32)).toNatClampNeg) → (Q (M4 33 5) M4))))) ∧ (¬ (M1 33 6) ≤ 0 → (Q (0 : Int32) M1)))
theorem cv_X7_undo : sw_cV yX7_undo RX7 cX7_undo 1 (some .int) 0 := ⟨q_1334, q_1335, q_9, q_1336, by decide +kernel⟩
def wX7_undo  (M : sM) (Q : Int32 → sM → Prop) : Prop :=
  ((M 33 5) = 0 → (jX7_undo_13 M Q (1 : Int32))) ∧ (¬ (M 33 5) = 0 → (jX7_undo_13 M Q (0 : Int32)))
set_option maxRecDepth 20000 in
theorem kX7_undo (l : Launch) (g : sG) (o : Nat → Int64) (d : Nat → UInt64)  (M : sM) (Q : Int32 → sM → Prop) (h : wX7_undo  M Q) : Met l yX7_undo (sw_ws yX7_undo cX7_undo 1 (some .int)) { frames := 1, cells := 0, slots := 0, locals := 40 } (va_Pc [.ref (sw_ad g 33)] (sw_Pr g o d M)) (va_Qi Q (sw_Po g o d) (sw_A g)) 0 0 (sw_A g) := by
  refine sw_met (by decide) (Nat.le_of_ble_eq_true rfl) ?_
  intro p e s m args below meth c ls hx hb hr hts hown hml hlocks hW hl
  have hown : s.vm.findClass RX7 = some m.cls := hown
  have hl : lv_has ls 1 [(0, .ref (sw_ad g 33))] := hl
  unfold wX7_undo at h
  refine lv_aload_n hx hb dX7_undo_0 rfl (lv_at hl 0 rfl) ?_
  refine lv_aload_n hx hb dX7_undo_1 rfl (lv_at hl 0 rfl) ?_
  refine sw_gi (j := 5) hx hb hts hown hW rfl qf_7 (Nat.le_of_ble_eq_true rfl) sl_33 rfl (Nat.le_of_ble_eq_true rfl) q_949 dX7_undo_2 ?_
  refine sw_jn_i (g := g) (o := o) (d := d) (nL := 1) (M := M) (jp := 13) (J := fun t0_13 => jX7_undo_13 M Q t0_13) (Lf := fun t0_13 => [(0, .ref (sw_ad g 33))]) (Sf := fun t0_13 => [.int t0_13, .ref (sw_ad g 33)]) (fun t0_13 H locs ls h hW hl => ?_) (fun hJ13 => ?_)
  · unfold jX7_undo_13 at h
    refine sw_pi (j := 6) hx hb hts hown hW rfl qf_7 tyX7 tyX7_ok nmX7 (Nat.le_of_ble_eq_true rfl) sl_33 rfl (Nat.le_of_ble_eq_true rfl) q_950 rfl rfl rfl dX7_undo_13 (fun H locs hW => ?_)
    obtain ⟨M1, eM1⟩ : ∃ z : sM, z = sw_ms M 33 6 t0_13 := ⟨_, rfl⟩
    rw [← eM1] at hW
    have h := h M1 eM1
    refine lv_aload_n hx hb dX7_undo_16 rfl (lv_at hl 0 rfl) ?_
    refine sw_gi (j := 6) hx hb hts hown hW rfl qf_7 (Nat.le_of_ble_eq_true rfl) sl_33 rfl (Nat.le_of_ble_eq_true rfl) q_950 dX7_undo_17 ?_
    refine lv_if_le (tgt := 25) hx hb dX7_undo_20 (by decide) (fun k2 => ?_) (fun k2 => ?_)
    · have h := h.1 k2
      refine lv_aload_n hx hb dX7_undo_25 rfl (lv_at hl 0 rfl) ?_
      refine lv_dup hx hb dX7_undo_26 rfl ?_
      refine sw_gi (j := 5) hx hb hts hown hW rfl qf_7 (Nat.le_of_ble_eq_true rfl) sl_33 rfl (Nat.le_of_ble_eq_true rfl) q_949 dX7_undo_27 ?_
      refine lv_iconst (v := 1) hx hb dX7_undo_30 (by decide) ?_
      refine lv_isub hx hb dX7_undo_31 ?_
      refine sw_pi (j := 5) hx hb hts hown hW rfl qf_7 tyX7 tyX7_ok nmX7 (Nat.le_of_ble_eq_true rfl) sl_33 rfl (Nat.le_of_ble_eq_true rfl) q_949 rfl rfl rfl dX7_undo_32 (fun H locs hW => ?_)
      obtain ⟨M3, eM3⟩ : ∃ z : sM, z = sw_ms M1 33 5 ((M1 33 5) - (1 : Int32)) := ⟨_, rfl⟩
      rw [← eM3] at hW
      have h := h M3 eM3
      refine lv_aload_n hx hb dX7_undo_35 rfl (lv_at hl 0 rfl) ?_
      refine sw_gr (j := 4) (r := 37) hx hb hts hown hW rfl qf_7 (Nat.le_of_ble_eq_true rfl) sl_33 rfl (Nat.le_of_ble_eq_true rfl) q_948 dX7_undo_36 ?_
      refine lv_sipush (v := 228) hx hb dX7_undo_39 (by decide) ?_
      refine lv_aload_n hx hb dX7_undo_42 rfl (lv_at hl 0 rfl) ?_
      refine sw_gi (j := 5) hx hb hts hown hW rfl qf_7 (Nat.le_of_ble_eq_true rfl) sl_33 rfl (Nat.le_of_ble_eq_true rfl) q_949 dX7_undo_43 ?_
      refine lv_imul hx hb dX7_undo_46 ?_
      refine lv_aload_n hx hb dX7_undo_47 rfl (lv_at hl 0 rfl) ?_
      refine sw_gr (j := 0) (r := 34) hx hb hts hown hW rfl qf_7 (Nat.le_of_ble_eq_true rfl) sl_33 rfl (Nat.le_of_ble_eq_true rfl) q_944 dX7_undo_48 ?_
      refine lv_iconst (v := 0) hx hb dX7_undo_51 (by decide) ?_
      refine lv_sipush (v := 228) hx hb dX7_undo_52 (by decide) ?_
      have z5 := h.1
      have h := h.2
      refine sw_acopy (n0 := 1824) (n1 := 228) hx hb hml hl.1 hown hts q_977 q_979 q_978 q_19 hW (Nat.le_of_ble_eq_true rfl) sl_37 (Nat.le_of_ble_eq_true rfl) sl_34 z5 (Nat.le_of_ble_eq_true rfl) (Nat.le_of_ble_eq_true rfl) dX7_undo_55 (fun H locs hW => ?_)
      obtain ⟨M4, eM4⟩ : ∃ z : sM, z = sw_ma M3 34 (va_cpy (M3 37) (M3 34) (((228 : Int32) * (M3 33 5))).toNatClampNeg ((0 : Int32)).toNatClampNeg ((228 : Int32)).toNatClampNeg) := ⟨_, rfl⟩
      rw [← eM4] at hW
      have h := h M4 eM4
      refine lv_aload_n hx hb dX7_undo_58 rfl (lv_at hl 0 rfl) ?_
      refine sw_gi (j := 5) hx hb hts hown hW rfl qf_7 (Nat.le_of_ble_eq_true rfl) sl_33 rfl (Nat.le_of_ble_eq_true rfl) q_949 dX7_undo_59 ?_
      exact sw_ri hx hb hr hlocks hW rfl h dX7_undo_62
    · have h := h.2 k2
      refine lv_iconst (v := 0) hx hb dX7_undo_23 (by decide) ?_
      exact sw_ri hx hb hr hlocks hW rfl h dX7_undo_24
  · refine lv_if_ne (tgt := 12) hx hb dX7_undo_5 (by decide) (fun k6 => ?_) (fun k6 => ?_)
    · have h := h.2 k6
      refine lv_iconst (v := 0) hx hb dX7_undo_12 (by decide) ?_
      exact hJ13 _ _ _ _ h hW (lv_sub hl [0] rfl)
    · have h := h.1 k6
      refine lv_iconst (v := 1) hx hb dX7_undo_8 (by decide) ?_
      refine lv_goto (tgt := 13) hx hb dX7_undo_9 (by decide) ?_
      exact hJ13 _ _ _ _ h hW (lv_sub hl [0] rfl)

theorem cv_X7_save : sw_cV yX7_save RX7 cX7_save 1 none 0 := ⟨q_1338, q_1339, q_9, q_1340, by decide +kernel⟩
def wX7_save  (M : sM) (Q : sM → Prop) : Prop :=
  ∀ M1 : sM, M1 = sw_ms M 33 6 (0 : Int32) → ((¬ (0 : Int32) < 0 ∧ ¬ (0 : Int32) < 0 ∧ ¬ (228 : Int32) < 0 ∧ ((0 : Int32)).toNatClampNeg + ((228 : Int32)).toNatClampNeg ≤ 228 ∧ ((0 : Int32)).toNatClampNeg + ((228 : Int32)).toNatClampNeg ≤ 228) ∧ (∀ M2 : sM, M2 = sw_ma M1 36 (va_cpy (M1 34) (M1 36) ((0 : Int32)).toNatClampNeg ((0 : Int32)).toNatClampNeg ((228 : Int32)).toNatClampNeg) → (∀ M3 : sM, M3 = sw_ms M2 33 3 (1 : Int32) → (Q M3))))
set_option maxRecDepth 20000 in
theorem kX7_save (l : Launch) (g : sG) (o : Nat → Int64) (d : Nat → UInt64)  (M : sM) (Q : sM → Prop) (h : wX7_save  M Q) : Met l yX7_save (sw_ws yX7_save cX7_save 1 none) { frames := 1, cells := 0, slots := 0, locals := 40 } (va_Pc [.ref (sw_ad g 33)] (sw_Pr g o d M)) (va_Qv Q (sw_Po g o d) (sw_A g)) 0 0 (sw_A g) := by
  refine sw_met (by decide) (Nat.le_of_ble_eq_true rfl) ?_
  intro p e s m args below meth c ls hx hb hr hts hown hml hlocks hW hl
  have hown : s.vm.findClass RX7 = some m.cls := hown
  have hl : lv_has ls 1 [(0, .ref (sw_ad g 33))] := hl
  unfold wX7_save at h
  refine lv_aload_n hx hb dX7_save_0 rfl (lv_at hl 0 rfl) ?_
  refine lv_iconst (v := 0) hx hb dX7_save_1 (by decide) ?_
  refine sw_pi (j := 6) hx hb hts hown hW rfl qf_7 tyX7 tyX7_ok nmX7 (Nat.le_of_ble_eq_true rfl) sl_33 rfl (Nat.le_of_ble_eq_true rfl) q_950 rfl rfl rfl dX7_save_2 (fun H locs hW => ?_)
  obtain ⟨M1, eM1⟩ : ∃ z : sM, z = sw_ms M 33 6 (0 : Int32) := ⟨_, rfl⟩
  rw [← eM1] at hW
  have h := h M1 eM1
  refine lv_aload_n hx hb dX7_save_5 rfl (lv_at hl 0 rfl) ?_
  refine sw_gr (j := 0) (r := 34) hx hb hts hown hW rfl qf_7 (Nat.le_of_ble_eq_true rfl) sl_33 rfl (Nat.le_of_ble_eq_true rfl) q_944 dX7_save_6 ?_
  refine lv_iconst (v := 0) hx hb dX7_save_9 (by decide) ?_
  refine lv_aload_n hx hb dX7_save_10 rfl (lv_at hl 0 rfl) ?_
  refine sw_gr (j := 2) (r := 36) hx hb hts hown hW rfl qf_7 (Nat.le_of_ble_eq_true rfl) sl_33 rfl (Nat.le_of_ble_eq_true rfl) q_946 dX7_save_11 ?_
  refine lv_iconst (v := 0) hx hb dX7_save_14 (by decide) ?_
  refine lv_sipush (v := 228) hx hb dX7_save_15 (by decide) ?_
  have z4 := h.1
  have h := h.2
  refine sw_acopy (n0 := 228) (n1 := 228) hx hb hml hl.1 hown hts q_977 q_979 q_978 q_19 hW (Nat.le_of_ble_eq_true rfl) sl_34 (Nat.le_of_ble_eq_true rfl) sl_36 z4 (Nat.le_of_ble_eq_true rfl) (Nat.le_of_ble_eq_true rfl) dX7_save_18 (fun H locs hW => ?_)
  obtain ⟨M2, eM2⟩ : ∃ z : sM, z = sw_ma M1 36 (va_cpy (M1 34) (M1 36) ((0 : Int32)).toNatClampNeg ((0 : Int32)).toNatClampNeg ((228 : Int32)).toNatClampNeg) := ⟨_, rfl⟩
  rw [← eM2] at hW
  have h := h M2 eM2
  refine lv_aload_n hx hb dX7_save_21 rfl (lv_at hl 0 rfl) ?_
  refine lv_iconst (v := 1) hx hb dX7_save_22 (by decide) ?_
  refine sw_pi (j := 3) hx hb hts hown hW rfl qf_7 tyX7 tyX7_ok nmX7 (Nat.le_of_ble_eq_true rfl) sl_33 rfl (Nat.le_of_ble_eq_true rfl) q_947 rfl (by decide) (by decide) dX7_save_23 (fun H locs hW => ?_)
  obtain ⟨M3, eM3⟩ : ∃ z : sM, z = sw_ms M2 33 3 (1 : Int32) := ⟨_, rfl⟩
  rw [← eM3] at hW
  have h := h M3 eM3
  exact sw_rv hx hb hr hlocks hW h dX7_save_26

def jX7_restore_13 (M : sM) (Q : sM → Prop) (t0_13 : Int32) : Prop :=
  ∀ M1 : sM, M1 = sw_ms M 33 6 t0_13 → (((M1 33 6) = 0 → ((¬ (0 : Int32) < 0 ∧ ¬ (0 : Int32) < 0 ∧ ¬ (228 : Int32) < 0 ∧ ((0 : Int32)).toNatClampNeg + ((228 : Int32)).toNatClampNeg ≤ 228 ∧ ((0 : Int32)).toNatClampNeg + ((228 : Int32)).toNatClampNeg ≤ 228) ∧ (∀ M3 : sM, M3 = sw_ma M1 34 (va_cpy (M1 36) (M1 34) ((0 : Int32)).toNatClampNeg ((0 : Int32)).toNatClampNeg ((228 : Int32)).toNatClampNeg) → (∀ M4 : sM, M4 = sw_ms M3 33 5 (0 : Int32) → (Q M4))))) ∧ (¬ (M1 33 6) = 0 → (Q M1)))
theorem cv_X7_restore : sw_cV yX7_restore RX7 cX7_restore 1 none 0 := ⟨q_1342, q_1343, q_9, q_1344, by decide +kernel⟩
def wX7_restore  (M : sM) (Q : sM → Prop) : Prop :=
  ((M 33 3) = 0 → (jX7_restore_13 M Q (1 : Int32))) ∧ (¬ (M 33 3) = 0 → (jX7_restore_13 M Q (0 : Int32)))
set_option maxRecDepth 20000 in
theorem kX7_restore (l : Launch) (g : sG) (o : Nat → Int64) (d : Nat → UInt64)  (M : sM) (Q : sM → Prop) (h : wX7_restore  M Q) : Met l yX7_restore (sw_ws yX7_restore cX7_restore 1 none) { frames := 1, cells := 0, slots := 0, locals := 40 } (va_Pc [.ref (sw_ad g 33)] (sw_Pr g o d M)) (va_Qv Q (sw_Po g o d) (sw_A g)) 0 0 (sw_A g) := by
  refine sw_met (by decide) (Nat.le_of_ble_eq_true rfl) ?_
  intro p e s m args below meth c ls hx hb hr hts hown hml hlocks hW hl
  have hown : s.vm.findClass RX7 = some m.cls := hown
  have hl : lv_has ls 1 [(0, .ref (sw_ad g 33))] := hl
  unfold wX7_restore at h
  refine lv_aload_n hx hb dX7_restore_0 rfl (lv_at hl 0 rfl) ?_
  refine lv_aload_n hx hb dX7_restore_1 rfl (lv_at hl 0 rfl) ?_
  refine sw_gi (j := 3) hx hb hts hown hW rfl qf_7 (Nat.le_of_ble_eq_true rfl) sl_33 rfl (Nat.le_of_ble_eq_true rfl) q_947 dX7_restore_2 ?_
  refine sw_jn_i (g := g) (o := o) (d := d) (nL := 1) (M := M) (jp := 13) (J := fun t0_13 => jX7_restore_13 M Q t0_13) (Lf := fun t0_13 => [(0, .ref (sw_ad g 33))]) (Sf := fun t0_13 => [.int t0_13, .ref (sw_ad g 33)]) (fun t0_13 H locs ls h hW hl => ?_) (fun hJ13 => ?_)
  · unfold jX7_restore_13 at h
    refine sw_pi (j := 6) hx hb hts hown hW rfl qf_7 tyX7 tyX7_ok nmX7 (Nat.le_of_ble_eq_true rfl) sl_33 rfl (Nat.le_of_ble_eq_true rfl) q_950 rfl rfl rfl dX7_restore_13 (fun H locs hW => ?_)
    obtain ⟨M1, eM1⟩ : ∃ z : sM, z = sw_ms M 33 6 t0_13 := ⟨_, rfl⟩
    rw [← eM1] at hW
    have h := h M1 eM1
    refine lv_aload_n hx hb dX7_restore_16 rfl (lv_at hl 0 rfl) ?_
    refine sw_gi (j := 6) hx hb hts hown hW rfl qf_7 (Nat.le_of_ble_eq_true rfl) sl_33 rfl (Nat.le_of_ble_eq_true rfl) q_950 dX7_restore_17 ?_
    refine lv_if_ne (tgt := 44) hx hb dX7_restore_20 (by decide) (fun k2 => ?_) (fun k2 => ?_)
    · have h := h.2 k2
      exact sw_rv hx hb hr hlocks hW h dX7_restore_44
    · have h := h.1 k2
      refine lv_aload_n hx hb dX7_restore_23 rfl (lv_at hl 0 rfl) ?_
      refine sw_gr (j := 2) (r := 36) hx hb hts hown hW rfl qf_7 (Nat.le_of_ble_eq_true rfl) sl_33 rfl (Nat.le_of_ble_eq_true rfl) q_946 dX7_restore_24 ?_
      refine lv_iconst (v := 0) hx hb dX7_restore_27 (by decide) ?_
      refine lv_aload_n hx hb dX7_restore_28 rfl (lv_at hl 0 rfl) ?_
      refine sw_gr (j := 0) (r := 34) hx hb hts hown hW rfl qf_7 (Nat.le_of_ble_eq_true rfl) sl_33 rfl (Nat.le_of_ble_eq_true rfl) q_944 dX7_restore_29 ?_
      refine lv_iconst (v := 0) hx hb dX7_restore_32 (by decide) ?_
      refine lv_sipush (v := 228) hx hb dX7_restore_33 (by decide) ?_
      have z5 := h.1
      have h := h.2
      refine sw_acopy (n0 := 228) (n1 := 228) hx hb hml hl.1 hown hts q_977 q_979 q_978 q_19 hW (Nat.le_of_ble_eq_true rfl) sl_36 (Nat.le_of_ble_eq_true rfl) sl_34 z5 (Nat.le_of_ble_eq_true rfl) (Nat.le_of_ble_eq_true rfl) dX7_restore_36 (fun H locs hW => ?_)
      obtain ⟨M3, eM3⟩ : ∃ z : sM, z = sw_ma M1 34 (va_cpy (M1 36) (M1 34) ((0 : Int32)).toNatClampNeg ((0 : Int32)).toNatClampNeg ((228 : Int32)).toNatClampNeg) := ⟨_, rfl⟩
      rw [← eM3] at hW
      have h := h M3 eM3
      refine lv_aload_n hx hb dX7_restore_39 rfl (lv_at hl 0 rfl) ?_
      refine lv_iconst (v := 0) hx hb dX7_restore_40 (by decide) ?_
      refine sw_pi (j := 5) hx hb hts hown hW rfl qf_7 tyX7 tyX7_ok nmX7 (Nat.le_of_ble_eq_true rfl) sl_33 rfl (Nat.le_of_ble_eq_true rfl) q_949 rfl rfl rfl dX7_restore_41 (fun H locs hW => ?_)
      obtain ⟨M4, eM4⟩ : ∃ z : sM, z = sw_ms M3 33 5 (0 : Int32) := ⟨_, rfl⟩
      rw [← eM4] at hW
      have h := h M4 eM4
      exact sw_rv hx hb hr hlocks hW h dX7_restore_44
  · refine lv_if_eq (tgt := 12) hx hb dX7_restore_5 (by decide) (fun k6 => ?_) (fun k6 => ?_)
    · have h := h.1 k6
      refine lv_iconst (v := 1) hx hb dX7_restore_12 (by decide) ?_
      exact hJ13 _ _ _ _ h hW (lv_sub hl [0] rfl)
    · have h := h.2 k6
      refine lv_iconst (v := 0) hx hb dX7_restore_8 (by decide) ?_
      refine lv_goto (tgt := 13) hx hb dX7_restore_9 (by decide) ?_
      exact hJ13 _ _ _ _ h hW (lv_sub hl [0] rfl)
