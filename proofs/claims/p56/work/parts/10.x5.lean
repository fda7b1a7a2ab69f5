def lX5_copyFrom_188 (i : Nat) (i1 : Nat) (x2_108 : Int32) (K188 : sM → Prop) : Nat → Int32 → sM → Prop
  | 0, _, _ => False
  | n188 + 1, x3_188, M_188 => ((8 : Int32) ≤ x3_188 → (K188 M_188)) ∧ (¬ (8 : Int32) ≤ x3_188 → (vp_in x2_108 6 ∧ (vp_in x2_108 6 ∧ (vp_in x3_188 8 ∧ (vp_in x3_188 8 ∧ (∀ M34 : sM, M34 = sw_ms M_188 (sw_st i + 11 + (x2_108).toNatClampNeg) (x3_188).toNatClampNeg (M_188 (sw_st i1 + 11 + (x2_108).toNatClampNeg) (x3_188).toNatClampNeg) → (∀ v35 : Int32, v35 = x3_188 + (1 : Int32) → ((fun x3_188 M_188 => lX5_copyFrom_188 i i1 x2_108 K188 n188 x3_188 M_188) v35 M34))))))))
def lX5_copyFrom_108 (i : Nat) (i1 : Nat) (K108 : sM → Prop) : Nat → Int32 → sM → Prop
  | 0, _, _ => False
  | n108 + 1, x2_108, M_108 => ((6 : Int32) ≤ x2_108 → (K108 M_108)) ∧ (¬ (6 : Int32) ≤ x2_108 → (vp_in x2_108 6 ∧ (vp_in x2_108 6 ∧ (∀ M11 : sM, M11 = sw_ms M_108 (sw_st i + 3) (x2_108).toNatClampNeg (vp_nar .char (M_108 (sw_st i1 + 3) (x2_108).toNatClampNeg)) → (vp_in x2_108 6 ∧ (vp_in x2_108 6 ∧ (∀ M14 : sM, M14 = sw_ms M11 (sw_st i + 4) (x2_108).toNatClampNeg (M11 (sw_st i1 + 4) (x2_108).toNatClampNeg) → (vp_in x2_108 6 ∧ (vp_in x2_108 6 ∧ (∀ M17 : sM, M17 = sw_ms M14 (sw_st i + 5) (x2_108).toNatClampNeg (M14 (sw_st i1 + 5) (x2_108).toNatClampNeg) → (vp_in x2_108 6 ∧ (vp_in x2_108 6 ∧ (∀ M20 : sM, M20 = sw_ms M17 (sw_st i + 6) (x2_108).toNatClampNeg (M17 (sw_st i1 + 6) (x2_108).toNatClampNeg) → (vp_in x2_108 6 ∧ (vp_in x2_108 6 ∧ (∀ M23 : sM, M23 = sw_ms M20 (sw_st i + 7) (x2_108).toNatClampNeg (M20 (sw_st i1 + 7) (x2_108).toNatClampNeg) → (vp_in x2_108 6 ∧ (vp_in x2_108 6 ∧ (∀ M26 : sM, M26 = sw_ms M23 (sw_st i + 8) (x2_108).toNatClampNeg (M23 (sw_st i1 + 8) (x2_108).toNatClampNeg) → (∃ n188, lX5_copyFrom_188 i i1 x2_108 (fun M_188k => ∀ v27 : Int32, v27 = x2_108 + (1 : Int32) → ((fun x2_108 M_108 => lX5_copyFrom_108 i i1 K108 n108 x2_108 M_108) v27 M_188k)) n188 (0 : Int32) M26))))))))))))))))))))
def lX5_copyFrom_58 (i : Nat) (i1 : Nat) (K58 : sM → Prop) : Nat → Int32 → sM → Prop
  | 0, _, _ => False
  | n58 + 1, x2_58, M_58 => ((8 : Int32) ≤ x2_58 → (K58 M_58)) ∧ (¬ (8 : Int32) ≤ x2_58 → (vp_in x2_58 8 ∧ (vp_in x2_58 8 ∧ (∀ M67 : sM, M67 = sw_ms M_58 (sw_st i + 1) (x2_58).toNatClampNeg (vp_nar .char (M_58 (sw_st i1 + 1) (x2_58).toNatClampNeg)) → (vp_in x2_58 8 ∧ (vp_in x2_58 8 ∧ (∀ M70 : sM, M70 = sw_ms M67 (sw_st i + 2) (x2_58).toNatClampNeg (M67 (sw_st i1 + 2) (x2_58).toNatClampNeg) → (vp_in x2_58 8 ∧ (vp_in x2_58 8 ∧ (∀ M73 : sM, M73 = sw_ms M70 (sw_st i + 9) (x2_58).toNatClampNeg (M70 (sw_st i1 + 9) (x2_58).toNatClampNeg) → (∀ v74 : Int32, v74 = x2_58 + (1 : Int32) → ((fun x2_58 M_58 => lX5_copyFrom_58 i i1 K58 n58 x2_58 M_58) v74 M73))))))))))))
theorem cv_X5_copyFrom : sw_cV yX5_copyFrom RX5 cX5_copyFrom 4 none 1 := ⟨q_177, q_178, q_3, q_179, by decide +kernel⟩
def wX5_copyFrom (i : Nat) (i1 : Nat) (M : sM) (Q : sM → Prop) : Prop :=
  ∀ M1 : sM, M1 = sw_ms M (sw_st i) 0 (M (sw_st i1) 0) → (∀ M2 : sM, M2 = sw_ms M1 (sw_st i) 1 (M1 (sw_st i1) 1) → (∀ M3 : sM, M3 = sw_ms M2 (sw_st i) 2 (M2 (sw_st i1) 2) → (∀ M4 : sM, M4 = sw_ms M3 (sw_st i) 14 (M3 (sw_st i1) 14) → (∀ M5 : sM, M5 = sw_ms M4 (sw_st i) 3 (M4 (sw_st i1) 3) → (∀ M6 : sM, M6 = sw_ms M5 (sw_st i) 6 (M5 (sw_st i1) 6) → (∀ M7 : sM, M7 = sw_ms M6 (sw_st i) 15 (M6 (sw_st i1) 15) → (∃ n58, lX5_copyFrom_58 i i1 (fun M_58k => ∃ n108, lX5_copyFrom_108 i i1 (fun M_108k => Q M_108k) n108 (0 : Int32) M_58k) n58 (0 : Int32) M7)))))))
set_option maxRecDepth 20000 in
theorem kX5_copyFrom (l : Launch) (g : sG) (i : Nat) (hi : i < 11) (i1 : Nat) (hi1 : i1 < 11) (M : sM) (Q : sM → Prop) (h : wX5_copyFrom i i1 M Q) : Met l yX5_copyFrom (sw_ws yX5_copyFrom cX5_copyFrom 4 none) { frames := 0, cells := 0, slots := 0, locals := 0 } (va_Pc [.ref (sw_ad g (sw_st i)), .ref (sw_ad g (sw_st i1))] (sw_Pr g M)) (va_Qv Q (sw_Po g) (sw_A g)) 0 0 (sw_A g) := by
  refine sw_met (by decide) (Nat.le_of_ble_eq_true rfl) ?_
  intro p e s m args below meth c ls hx hb hr hts hown hml hlocks hW hl
  have hown : s.vm.findClass RX5 = some m.cls := hown
  have hl : lv_has ls 4 [(0, .ref (sw_ad g (sw_st i))), (1, .ref (sw_ad g (sw_st i1)))] := hl
  unfold wX5_copyFrom at h
  refine lv_aload_n hx hb dX5_copyFrom_0 rfl (lv_at hl 0 rfl) ?_
  refine lv_aload_n hx hb dX5_copyFrom_1 rfl (lv_at hl 1 rfl) ?_
  refine sw_gi (j := 0) hx hb hts hown hW rfl qf_5 (sw_st_lt0 hi1) (sw_lay_so i1) rfl (Nat.le_of_ble_eq_true rfl) q_49 dX5_copyFrom_2 ?_
  refine sw_pi (j := 0) hx hb hts hown hW rfl qf_5 tyX5 tyX5_ok nmX5 (sw_st_lt0 hi) (sw_lay_so i) rfl (Nat.le_of_ble_eq_true rfl) q_49 rfl rfl rfl dX5_copyFrom_5 (fun H locs hW => ?_)
  obtain ⟨M1, eM1⟩ : ∃ z : sM, z = sw_ms M (sw_st i) 0 (M (sw_st i1) 0) := ⟨_, rfl⟩
  rw [← eM1] at hW
  have h := h M1 eM1
  refine lv_aload_n hx hb dX5_copyFrom_8 rfl (lv_at hl 0 rfl) ?_
  refine lv_aload_n hx hb dX5_copyFrom_9 rfl (lv_at hl 1 rfl) ?_
  refine sw_gi (j := 1) hx hb hts hown hW rfl qf_5 (sw_st_lt0 hi1) (sw_lay_so i1) rfl (Nat.le_of_ble_eq_true rfl) q_51 dX5_copyFrom_10 ?_
  refine sw_pi (j := 1) hx hb hts hown hW rfl qf_5 tyX5 tyX5_ok nmX5 (sw_st_lt0 hi) (sw_lay_so i) rfl (Nat.le_of_ble_eq_true rfl) q_51 rfl rfl rfl dX5_copyFrom_13 (fun H locs hW => ?_)
  obtain ⟨M2, eM2⟩ : ∃ z : sM, z = sw_ms M1 (sw_st i) 1 (M1 (sw_st i1) 1) := ⟨_, rfl⟩
  rw [← eM2] at hW
  have h := h M2 eM2
  refine lv_aload_n hx hb dX5_copyFrom_16 rfl (lv_at hl 0 rfl) ?_
  refine lv_aload_n hx hb dX5_copyFrom_17 rfl (lv_at hl 1 rfl) ?_
  refine sw_gi (j := 2) hx hb hts hown hW rfl qf_5 (sw_st_lt0 hi1) (sw_lay_so i1) rfl (Nat.le_of_ble_eq_true rfl) q_54 dX5_copyFrom_18 ?_
  refine sw_pi (j := 2) hx hb hts hown hW rfl qf_5 tyX5 tyX5_ok nmX5 (sw_st_lt0 hi) (sw_lay_so i) rfl (Nat.le_of_ble_eq_true rfl) q_54 rfl rfl rfl dX5_copyFrom_21 (fun H locs hW => ?_)
  obtain ⟨M3, eM3⟩ : ∃ z : sM, z = sw_ms M2 (sw_st i) 2 (M2 (sw_st i1) 2) := ⟨_, rfl⟩
  rw [← eM3] at hW
  have h := h M3 eM3
  refine lv_aload_n hx hb dX5_copyFrom_24 rfl (lv_at hl 0 rfl) ?_
  refine lv_aload_n hx hb dX5_copyFrom_25 rfl (lv_at hl 1 rfl) ?_
  refine sw_gi (j := 14) hx hb hts hown hW rfl qf_5 (sw_st_lt0 hi1) (sw_lay_so i1) rfl (Nat.le_of_ble_eq_true rfl) q_86 dX5_copyFrom_26 ?_
  refine sw_pi (j := 14) hx hb hts hown hW rfl qf_5 tyX5 tyX5_ok nmX5 (sw_st_lt0 hi) (sw_lay_so i) rfl (Nat.le_of_ble_eq_true rfl) q_86 rfl rfl rfl dX5_copyFrom_29 (fun H locs hW => ?_)
  obtain ⟨M4, eM4⟩ : ∃ z : sM, z = sw_ms M3 (sw_st i) 14 (M3 (sw_st i1) 14) := ⟨_, rfl⟩
  rw [← eM4] at hW
  have h := h M4 eM4
  refine lv_aload_n hx hb dX5_copyFrom_32 rfl (lv_at hl 0 rfl) ?_
  refine lv_aload_n hx hb dX5_copyFrom_33 rfl (lv_at hl 1 rfl) ?_
  refine sw_gi (j := 3) hx hb hts hown hW rfl qf_5 (sw_st_lt0 hi1) (sw_lay_so i1) rfl (Nat.le_of_ble_eq_true rfl) q_56 dX5_copyFrom_34 ?_
  refine sw_pi (j := 3) hx hb hts hown hW rfl qf_5 tyX5 tyX5_ok nmX5 (sw_st_lt0 hi) (sw_lay_so i) rfl (Nat.le_of_ble_eq_true rfl) q_56 rfl rfl rfl dX5_copyFrom_37 (fun H locs hW => ?_)
  obtain ⟨M5, eM5⟩ : ∃ z : sM, z = sw_ms M4 (sw_st i) 3 (M4 (sw_st i1) 3) := ⟨_, rfl⟩
  rw [← eM5] at hW
  have h := h M5 eM5
  refine lv_aload_n hx hb dX5_copyFrom_40 rfl (lv_at hl 0 rfl) ?_
  refine lv_aload_n hx hb dX5_copyFrom_41 rfl (lv_at hl 1 rfl) ?_
  refine sw_gi (j := 6) hx hb hts hown hW rfl qf_5 (sw_st_lt0 hi1) (sw_lay_so i1) rfl (Nat.le_of_ble_eq_true rfl) q_65 dX5_copyFrom_42 ?_
  refine sw_pi (j := 6) hx hb hts hown hW rfl qf_5 tyX5 tyX5_ok nmX5 (sw_st_lt0 hi) (sw_lay_so i) rfl (Nat.le_of_ble_eq_true rfl) q_65 rfl rfl rfl dX5_copyFrom_45 (fun H locs hW => ?_)
  obtain ⟨M6, eM6⟩ : ∃ z : sM, z = sw_ms M5 (sw_st i) 6 (M5 (sw_st i1) 6) := ⟨_, rfl⟩
  rw [← eM6] at hW
  have h := h M6 eM6
  refine lv_aload_n hx hb dX5_copyFrom_48 rfl (lv_at hl 0 rfl) ?_
  refine lv_aload_n hx hb dX5_copyFrom_49 rfl (lv_at hl 1 rfl) ?_
  refine sw_gi (j := 15) hx hb hts hown hW rfl qf_5 (sw_st_lt0 hi1) (sw_lay_so i1) rfl (Nat.le_of_ble_eq_true rfl) q_89 dX5_copyFrom_50 ?_
  refine sw_pi (j := 15) hx hb hts hown hW rfl qf_5 tyX5 tyX5_ok nmX5 (sw_st_lt0 hi) (sw_lay_so i) rfl (Nat.le_of_ble_eq_true rfl) q_89 rfl rfl rfl dX5_copyFrom_53 (fun H locs hW => ?_)
  obtain ⟨M7, eM7⟩ : ∃ z : sM, z = sw_ms M6 (sw_st i) 15 (M6 (sw_st i1) 15) := ⟨_, rfl⟩
  rw [← eM7] at hW
  have h := h M7 eM7
  refine lv_iconst (v := 0) hx hb dX5_copyFrom_56 (by decide) ?_
  refine lv_istore_n (lv' := [(2, .int (0 : Int32)), (0, .ref (sw_ad g (sw_st i))), (1, .ref (sw_ad g (sw_st i1)))]) hx hb dX5_copyFrom_57 rfl hl (Nat.le_of_ble_eq_true rfl) rfl (fun ls hl => ?_)
  obtain ⟨n58, h⟩ := h
  refine sw_lp_iM (hd := 58) (Lf := fun x2_58 M_58 => [(0, .ref (sw_ad g (sw_st i))), (1, .ref (sw_ad g (sw_st i1))), (2, .int x2_58)]) h hW (lv_sub hl [1, 2, 0] rfl) (fun _ _ h => h) (fun n58 ih58 x2_58 M_58 H locs ls h hW hl => ?_)
  rw [lX5_copyFrom_58.eq_2] at h
  refine lv_iload_n hx hb dX5_copyFrom_58 rfl (lv_at hl 2 rfl) ?_
  refine lv_bipush (v := 8) hx hb dX5_copyFrom_59 (by decide) ?_
  refine lv_icmp_ge (tgt := 106) hx hb dX5_copyFrom_61 (by decide) (fun k36 => ?_) (fun k36 => ?_)
  · have h := h.1 k36
    refine lv_iconst (v := 0) hx hb dX5_copyFrom_106 (by decide) ?_
    refine lv_istore_n (lv' := [(2, .int (0 : Int32)), (0, .ref (sw_ad g (sw_st i))), (1, .ref (sw_ad g (sw_st i1)))]) hx hb dX5_copyFrom_107 rfl hl (Nat.le_of_ble_eq_true rfl) rfl (fun ls hl => ?_)
    obtain ⟨n108, h⟩ := h
    refine sw_lp_iM (hd := 108) (Lf := fun x2_108 M_108 => [(0, .ref (sw_ad g (sw_st i))), (1, .ref (sw_ad g (sw_st i1))), (2, .int x2_108)]) h hW (lv_sub hl [1, 2, 0] rfl) (fun _ _ h => h) (fun n108 ih108 x2_108 M_108 H locs ls h hW hl => ?_)
    rw [lX5_copyFrom_108.eq_2] at h
    refine lv_iload_n hx hb dX5_copyFrom_108 rfl (lv_at hl 2 rfl) ?_
    refine lv_bipush (v := 6) hx hb dX5_copyFrom_109 (by decide) ?_
    refine lv_icmp_ge (tgt := 222) hx hb dX5_copyFrom_111 (by decide) (fun k37 => ?_) (fun k37 => ?_)
    · have h := h.1 k37
      exact sw_rv hx hb hr hlocks hW h dX5_copyFrom_222
    · have h := h.2 k37
      refine lv_aload_n hx hb dX5_copyFrom_114 rfl (lv_at hl 0 rfl) ?_
      refine sw_gr (j := 7) (r := (sw_st i + 3)) hx hb hts hown hW rfl qf_5 (sw_st_lt0 hi) (sw_lay_so i) rfl (Nat.le_of_ble_eq_true rfl) q_70 dX5_copyFrom_115 ?_
      refine lv_iload_n hx hb dX5_copyFrom_118 rfl (lv_at hl 2 rfl) ?_
      refine lv_aload_n hx hb dX5_copyFrom_119 rfl (lv_at hl 1 rfl) ?_
      refine sw_gr (j := 7) (r := (sw_st i1 + 3)) hx hb hts hown hW rfl qf_5 (sw_st_lt0 hi1) (sw_lay_so i1) rfl (Nat.le_of_ble_eq_true rfl) q_70 dX5_copyFrom_120 ?_
      refine lv_iload_n hx hb dX5_copyFrom_123 rfl (lv_at hl 2 rfl) ?_
      have b38 := h.1
      have h := h.2
      refine sw_ca (n := 6) hx hb hW (sw_st_lt hi1 (Nat.le_of_ble_eq_true rfl)) (sw_lay_s i1 3 (Nat.le_of_ble_eq_true rfl)) b38 dX5_copyFrom_124 ?_
      have b39 := h.1
      have h := h.2
      refine sw_cs (n := 6) hx hb hW (sw_st_lt hi (Nat.le_of_ble_eq_true rfl)) (sw_lay_s i 3 (Nat.le_of_ble_eq_true rfl)) b39 dX5_copyFrom_125 (fun H locs hW => ?_)
      obtain ⟨M40, eM40⟩ : ∃ z : sM, z = sw_ms M_108 (sw_st i + 3) (x2_108).toNatClampNeg (vp_nar .char (M_108 (sw_st i1 + 3) (x2_108).toNatClampNeg)) := ⟨_, rfl⟩
      rw [← eM40] at hW
      have h := h M40 eM40
      refine lv_aload_n hx hb dX5_copyFrom_126 rfl (lv_at hl 0 rfl) ?_
      refine sw_gr (j := 8) (r := (sw_st i + 4)) hx hb hts hown hW rfl qf_5 (sw_st_lt0 hi) (sw_lay_so i) rfl (Nat.le_of_ble_eq_true rfl) q_74 dX5_copyFrom_127 ?_
      refine lv_iload_n hx hb dX5_copyFrom_130 rfl (lv_at hl 2 rfl) ?_
      refine lv_aload_n hx hb dX5_copyFrom_131 rfl (lv_at hl 1 rfl) ?_
      refine sw_gr (j := 8) (r := (sw_st i1 + 4)) hx hb hts hown hW rfl qf_5 (sw_st_lt0 hi1) (sw_lay_so i1) rfl (Nat.le_of_ble_eq_true rfl) q_74 dX5_copyFrom_132 ?_
      refine lv_iload_n hx hb dX5_copyFrom_135 rfl (lv_at hl 2 rfl) ?_
      have b41 := h.1
      have h := h.2
      refine sw_ia (n := 6) hx hb hW (sw_st_lt hi1 (Nat.le_of_ble_eq_true rfl)) (sw_lay_s i1 4 (Nat.le_of_ble_eq_true rfl)) b41 dX5_copyFrom_136 ?_
      have b42 := h.1
      have h := h.2
      refine sw_is (n := 6) hx hb hW (sw_st_lt hi (Nat.le_of_ble_eq_true rfl)) (sw_lay_s i 4 (Nat.le_of_ble_eq_true rfl)) b42 dX5_copyFrom_137 (fun H locs hW => ?_)
      obtain ⟨M43, eM43⟩ : ∃ z : sM, z = sw_ms M40 (sw_st i + 4) (x2_108).toNatClampNeg (M40 (sw_st i1 + 4) (x2_108).toNatClampNeg) := ⟨_, rfl⟩
      rw [← eM43] at hW
      have h := h M43 eM43
      refine lv_aload_n hx hb dX5_copyFrom_138 rfl (lv_at hl 0 rfl) ?_
      refine sw_gr (j := 9) (r := (sw_st i + 5)) hx hb hts hown hW rfl qf_5 (sw_st_lt0 hi) (sw_lay_so i) rfl (Nat.le_of_ble_eq_true rfl) q_76 dX5_copyFrom_139 ?_
      refine lv_iload_n hx hb dX5_copyFrom_142 rfl (lv_at hl 2 rfl) ?_
      refine lv_aload_n hx hb dX5_copyFrom_143 rfl (lv_at hl 1 rfl) ?_
      refine sw_gr (j := 9) (r := (sw_st i1 + 5)) hx hb hts hown hW rfl qf_5 (sw_st_lt0 hi1) (sw_lay_so i1) rfl (Nat.le_of_ble_eq_true rfl) q_76 dX5_copyFrom_144 ?_
      refine lv_iload_n hx hb dX5_copyFrom_147 rfl (lv_at hl 2 rfl) ?_
      have b44 := h.1
      have h := h.2
      refine sw_ia (n := 6) hx hb hW (sw_st_lt hi1 (Nat.le_of_ble_eq_true rfl)) (sw_lay_s i1 5 (Nat.le_of_ble_eq_true rfl)) b44 dX5_copyFrom_148 ?_
      have b45 := h.1
      have h := h.2
      refine sw_is (n := 6) hx hb hW (sw_st_lt hi (Nat.le_of_ble_eq_true rfl)) (sw_lay_s i 5 (Nat.le_of_ble_eq_true rfl)) b45 dX5_copyFrom_149 (fun H locs hW => ?_)
      obtain ⟨M46, eM46⟩ : ∃ z : sM, z = sw_ms M43 (sw_st i + 5) (x2_108).toNatClampNeg (M43 (sw_st i1 + 5) (x2_108).toNatClampNeg) := ⟨_, rfl⟩
      rw [← eM46] at hW
      have h := h M46 eM46
      refine lv_aload_n hx hb dX5_copyFrom_150 rfl (lv_at hl 0 rfl) ?_
      refine sw_gr (j := 10) (r := (sw_st i + 6)) hx hb hts hown hW rfl qf_5 (sw_st_lt0 hi) (sw_lay_so i) rfl (Nat.le_of_ble_eq_true rfl) q_78 dX5_copyFrom_151 ?_
      refine lv_iload_n hx hb dX5_copyFrom_154 rfl (lv_at hl 2 rfl) ?_
      refine lv_aload_n hx hb dX5_copyFrom_155 rfl (lv_at hl 1 rfl) ?_
      refine sw_gr (j := 10) (r := (sw_st i1 + 6)) hx hb hts hown hW rfl qf_5 (sw_st_lt0 hi1) (sw_lay_so i1) rfl (Nat.le_of_ble_eq_true rfl) q_78 dX5_copyFrom_156 ?_
      refine lv_iload_n hx hb dX5_copyFrom_159 rfl (lv_at hl 2 rfl) ?_
      have b47 := h.1
      have h := h.2
      refine sw_ia (n := 6) hx hb hW (sw_st_lt hi1 (Nat.le_of_ble_eq_true rfl)) (sw_lay_s i1 6 (Nat.le_of_ble_eq_true rfl)) b47 dX5_copyFrom_160 ?_
      have b48 := h.1
      have h := h.2
      refine sw_is (n := 6) hx hb hW (sw_st_lt hi (Nat.le_of_ble_eq_true rfl)) (sw_lay_s i 6 (Nat.le_of_ble_eq_true rfl)) b48 dX5_copyFrom_161 (fun H locs hW => ?_)
      obtain ⟨M49, eM49⟩ : ∃ z : sM, z = sw_ms M46 (sw_st i + 6) (x2_108).toNatClampNeg (M46 (sw_st i1 + 6) (x2_108).toNatClampNeg) := ⟨_, rfl⟩
      rw [← eM49] at hW
      have h := h M49 eM49
      refine lv_aload_n hx hb dX5_copyFrom_162 rfl (lv_at hl 0 rfl) ?_
      refine sw_gr (j := 11) (r := (sw_st i + 7)) hx hb hts hown hW rfl qf_5 (sw_st_lt0 hi) (sw_lay_so i) rfl (Nat.le_of_ble_eq_true rfl) q_81 dX5_copyFrom_163 ?_
      refine lv_iload_n hx hb dX5_copyFrom_166 rfl (lv_at hl 2 rfl) ?_
      refine lv_aload_n hx hb dX5_copyFrom_167 rfl (lv_at hl 1 rfl) ?_
      refine sw_gr (j := 11) (r := (sw_st i1 + 7)) hx hb hts hown hW rfl qf_5 (sw_st_lt0 hi1) (sw_lay_so i1) rfl (Nat.le_of_ble_eq_true rfl) q_81 dX5_copyFrom_168 ?_
      refine lv_iload_n hx hb dX5_copyFrom_171 rfl (lv_at hl 2 rfl) ?_
      have b50 := h.1
      have h := h.2
      refine sw_ia (n := 6) hx hb hW (sw_st_lt hi1 (Nat.le_of_ble_eq_true rfl)) (sw_lay_s i1 7 (Nat.le_of_ble_eq_true rfl)) b50 dX5_copyFrom_172 ?_
      have b51 := h.1
      have h := h.2
      refine sw_is (n := 6) hx hb hW (sw_st_lt hi (Nat.le_of_ble_eq_true rfl)) (sw_lay_s i 7 (Nat.le_of_ble_eq_true rfl)) b51 dX5_copyFrom_173 (fun H locs hW => ?_)
      obtain ⟨M52, eM52⟩ : ∃ z : sM, z = sw_ms M49 (sw_st i + 7) (x2_108).toNatClampNeg (M49 (sw_st i1 + 7) (x2_108).toNatClampNeg) := ⟨_, rfl⟩
      rw [← eM52] at hW
      have h := h M52 eM52
      refine lv_aload_n hx hb dX5_copyFrom_174 rfl (lv_at hl 0 rfl) ?_
      refine sw_gr (j := 12) (r := (sw_st i + 8)) hx hb hts hown hW rfl qf_5 (sw_st_lt0 hi) (sw_lay_so i) rfl (Nat.le_of_ble_eq_true rfl) q_82 dX5_copyFrom_175 ?_
      refine lv_iload_n hx hb dX5_copyFrom_178 rfl (lv_at hl 2 rfl) ?_
      refine lv_aload_n hx hb dX5_copyFrom_179 rfl (lv_at hl 1 rfl) ?_
      refine sw_gr (j := 12) (r := (sw_st i1 + 8)) hx hb hts hown hW rfl qf_5 (sw_st_lt0 hi1) (sw_lay_so i1) rfl (Nat.le_of_ble_eq_true rfl) q_82 dX5_copyFrom_180 ?_
      refine lv_iload_n hx hb dX5_copyFrom_183 rfl (lv_at hl 2 rfl) ?_
      have b53 := h.1
      have h := h.2
      refine sw_ia (n := 6) hx hb hW (sw_st_lt hi1 (Nat.le_of_ble_eq_true rfl)) (sw_lay_s i1 8 (Nat.le_of_ble_eq_true rfl)) b53 dX5_copyFrom_184 ?_
      have b54 := h.1
      have h := h.2
      refine sw_is (n := 6) hx hb hW (sw_st_lt hi (Nat.le_of_ble_eq_true rfl)) (sw_lay_s i 8 (Nat.le_of_ble_eq_true rfl)) b54 dX5_copyFrom_185 (fun H locs hW => ?_)
      obtain ⟨M55, eM55⟩ : ∃ z : sM, z = sw_ms M52 (sw_st i + 8) (x2_108).toNatClampNeg (M52 (sw_st i1 + 8) (x2_108).toNatClampNeg) := ⟨_, rfl⟩
      rw [← eM55] at hW
      have h := h M55 eM55
      refine lv_iconst (v := 0) hx hb dX5_copyFrom_186 (by decide) ?_
      refine lv_istore_n (lv' := [(3, .int (0 : Int32)), (0, .ref (sw_ad g (sw_st i))), (1, .ref (sw_ad g (sw_st i1))), (2, .int x2_108)]) hx hb dX5_copyFrom_187 rfl hl (Nat.le_of_ble_eq_true rfl) rfl (fun ls hl => ?_)
      obtain ⟨n188, h⟩ := h
      refine sw_lp_iM (hd := 188) (Lf := fun x3_188 M_188 => [(0, .ref (sw_ad g (sw_st i))), (1, .ref (sw_ad g (sw_st i1))), (2, .int x2_108), (3, .int x3_188)]) h hW (lv_sub hl [1, 2, 3, 0] rfl) (fun _ _ h => h) (fun n188 ih188 x3_188 M_188 H locs ls h hW hl => ?_)
      rw [lX5_copyFrom_188.eq_2] at h
      refine lv_iload_n hx hb dX5_copyFrom_188 rfl (lv_at hl 3 rfl) ?_
      refine lv_bipush (v := 8) hx hb dX5_copyFrom_189 (by decide) ?_
      refine lv_icmp_ge (tgt := 216) hx hb dX5_copyFrom_191 (by decide) (fun k57 => ?_) (fun k57 => ?_)
      · have h := h.1 k57
        obtain ⟨v58, ev58⟩ : ∃ z : Int32, z = x2_108 + (1 : Int32) := ⟨_, rfl⟩
        have h := h v58 ev58
        refine lv_iinc (v := v58) (lv' := [(2, .int v58), (0, .ref (sw_ad g (sw_st i))), (1, .ref (sw_ad g (sw_st i1))), (3, .int x3_188)]) hx hb dX5_copyFrom_216 hl (k := 2) rfl (by rw [ev58]; rfl) (Nat.le_of_ble_eq_true rfl) rfl (fun ls hl => ?_)
        refine lv_goto (tgt := 108) hx hb dX5_copyFrom_219 (by decide) ?_
        exact ih108 _ _ _ _ _ h hW (lv_sub hl [1, 2, 0] rfl)
      · have h := h.2 k57
        refine lv_aload_n hx hb dX5_copyFrom_194 rfl (lv_at hl 0 rfl) ?_
        refine sw_gr (j := 13) (r := (sw_st i + 10)) hx hb hts hown hW rfl qf_5 (sw_st_lt0 hi) (sw_lay_so i) rfl (Nat.le_of_ble_eq_true rfl) q_83 dX5_copyFrom_195 ?_
        refine lv_iload_n hx hb dX5_copyFrom_198 rfl (lv_at hl 2 rfl) ?_
        have b59 := h.1
        have h := h.2
        refine sw_aaG hi hx hb hW b59 dX5_copyFrom_199 ?_
        refine lv_iload_n hx hb dX5_copyFrom_200 rfl (lv_at hl 3 rfl) ?_
        refine lv_aload_n hx hb dX5_copyFrom_201 rfl (lv_at hl 1 rfl) ?_
        refine sw_gr (j := 13) (r := (sw_st i1 + 10)) hx hb hts hown hW rfl qf_5 (sw_st_lt0 hi1) (sw_lay_so i1) rfl (Nat.le_of_ble_eq_true rfl) q_83 dX5_copyFrom_202 ?_
        refine lv_iload_n hx hb dX5_copyFrom_205 rfl (lv_at hl 2 rfl) ?_
        have b60 := h.1
        have h := h.2
        refine sw_aaG hi1 hx hb hW b60 dX5_copyFrom_206 ?_
        refine lv_iload_n hx hb dX5_copyFrom_207 rfl (lv_at hl 3 rfl) ?_
        have b61 := h.1
        have h := h.2
        refine sw_ia (n := 8) hx hb hW (sw_g_lt hi1 (sw_vlt b60)) (sw_lay_g i1 (sw_vlt b60)) b61 dX5_copyFrom_208 ?_
        have b62 := h.1
        have h := h.2
        refine sw_is (n := 8) hx hb hW (sw_g_lt hi (sw_vlt b59)) (sw_lay_g i (sw_vlt b59)) b62 dX5_copyFrom_209 (fun H locs hW => ?_)
        obtain ⟨M63, eM63⟩ : ∃ z : sM, z = sw_ms M_188 (sw_st i + 11 + (x2_108).toNatClampNeg) (x3_188).toNatClampNeg (M_188 (sw_st i1 + 11 + (x2_108).toNatClampNeg) (x3_188).toNatClampNeg) := ⟨_, rfl⟩
        rw [← eM63] at hW
        have h := h M63 eM63
        obtain ⟨v64, ev64⟩ : ∃ z : Int32, z = x3_188 + (1 : Int32) := ⟨_, rfl⟩
        have h := h v64 ev64
        refine lv_iinc (v := v64) (lv' := [(3, .int v64), (0, .ref (sw_ad g (sw_st i))), (1, .ref (sw_ad g (sw_st i1))), (2, .int x2_108)]) hx hb dX5_copyFrom_210 hl (k := 3) rfl (by rw [ev64]; rfl) (Nat.le_of_ble_eq_true rfl) rfl (fun ls hl => ?_)
        refine lv_goto (tgt := 188) hx hb dX5_copyFrom_213 (by decide) ?_
        exact ih188 _ _ _ _ _ h hW (lv_sub hl [1, 2, 3, 0] rfl)
  · have h := h.2 k36
    refine lv_aload_n hx hb dX5_copyFrom_64 rfl (lv_at hl 0 rfl) ?_
    refine sw_gr (j := 4) (r := (sw_st i + 1)) hx hb hts hown hW rfl qf_5 (sw_st_lt0 hi) (sw_lay_so i) rfl (Nat.le_of_ble_eq_true rfl) q_59 dX5_copyFrom_65 ?_
    refine lv_iload_n hx hb dX5_copyFrom_68 rfl (lv_at hl 2 rfl) ?_
    refine lv_aload_n hx hb dX5_copyFrom_69 rfl (lv_at hl 1 rfl) ?_
    refine sw_gr (j := 4) (r := (sw_st i1 + 1)) hx hb hts hown hW rfl qf_5 (sw_st_lt0 hi1) (sw_lay_so i1) rfl (Nat.le_of_ble_eq_true rfl) q_59 dX5_copyFrom_70 ?_
    refine lv_iload_n hx hb dX5_copyFrom_73 rfl (lv_at hl 2 rfl) ?_
    have b65 := h.1
    have h := h.2
    refine sw_ca (n := 8) hx hb hW (sw_st_lt hi1 (Nat.le_of_ble_eq_true rfl)) (sw_lay_s i1 1 (Nat.le_of_ble_eq_true rfl)) b65 dX5_copyFrom_74 ?_
    have b66 := h.1
    have h := h.2
    refine sw_cs (n := 8) hx hb hW (sw_st_lt hi (Nat.le_of_ble_eq_true rfl)) (sw_lay_s i 1 (Nat.le_of_ble_eq_true rfl)) b66 dX5_copyFrom_75 (fun H locs hW => ?_)
    obtain ⟨M67, eM67⟩ : ∃ z : sM, z = sw_ms M_58 (sw_st i + 1) (x2_58).toNatClampNeg (vp_nar .char (M_58 (sw_st i1 + 1) (x2_58).toNatClampNeg)) := ⟨_, rfl⟩
    rw [← eM67] at hW
    have h := h M67 eM67
    refine lv_aload_n hx hb dX5_copyFrom_76 rfl (lv_at hl 0 rfl) ?_
    refine sw_gr (j := 5) (r := (sw_st i + 2)) hx hb hts hown hW rfl qf_5 (sw_st_lt0 hi) (sw_lay_so i) rfl (Nat.le_of_ble_eq_true rfl) q_62 dX5_copyFrom_77 ?_
    refine lv_iload_n hx hb dX5_copyFrom_80 rfl (lv_at hl 2 rfl) ?_
    refine lv_aload_n hx hb dX5_copyFrom_81 rfl (lv_at hl 1 rfl) ?_
    refine sw_gr (j := 5) (r := (sw_st i1 + 2)) hx hb hts hown hW rfl qf_5 (sw_st_lt0 hi1) (sw_lay_so i1) rfl (Nat.le_of_ble_eq_true rfl) q_62 dX5_copyFrom_82 ?_
    refine lv_iload_n hx hb dX5_copyFrom_85 rfl (lv_at hl 2 rfl) ?_
    have b68 := h.1
    have h := h.2
    refine sw_ia (n := 8) hx hb hW (sw_st_lt hi1 (Nat.le_of_ble_eq_true rfl)) (sw_lay_s i1 2 (Nat.le_of_ble_eq_true rfl)) b68 dX5_copyFrom_86 ?_
    have b69 := h.1
    have h := h.2
    refine sw_is (n := 8) hx hb hW (sw_st_lt hi (Nat.le_of_ble_eq_true rfl)) (sw_lay_s i 2 (Nat.le_of_ble_eq_true rfl)) b69 dX5_copyFrom_87 (fun H locs hW => ?_)
    obtain ⟨M70, eM70⟩ : ∃ z : sM, z = sw_ms M67 (sw_st i + 2) (x2_58).toNatClampNeg (M67 (sw_st i1 + 2) (x2_58).toNatClampNeg) := ⟨_, rfl⟩
    rw [← eM70] at hW
    have h := h M70 eM70
    refine lv_aload_n hx hb dX5_copyFrom_88 rfl (lv_at hl 0 rfl) ?_
    refine sw_gr (j := 16) (r := (sw_st i + 9)) hx hb hts hown hW rfl qf_5 (sw_st_lt0 hi) (sw_lay_so i) rfl (Nat.le_of_ble_eq_true rfl) q_91 dX5_copyFrom_89 ?_
    refine lv_iload_n hx hb dX5_copyFrom_92 rfl (lv_at hl 2 rfl) ?_
    refine lv_aload_n hx hb dX5_copyFrom_93 rfl (lv_at hl 1 rfl) ?_
    refine sw_gr (j := 16) (r := (sw_st i1 + 9)) hx hb hts hown hW rfl qf_5 (sw_st_lt0 hi1) (sw_lay_so i1) rfl (Nat.le_of_ble_eq_true rfl) q_91 dX5_copyFrom_94 ?_
    refine lv_iload_n hx hb dX5_copyFrom_97 rfl (lv_at hl 2 rfl) ?_
    have b71 := h.1
    have h := h.2
    refine sw_ia (n := 8) hx hb hW (sw_st_lt hi1 (Nat.le_of_ble_eq_true rfl)) (sw_lay_s i1 9 (Nat.le_of_ble_eq_true rfl)) b71 dX5_copyFrom_98 ?_
    have b72 := h.1
    have h := h.2
    refine sw_is (n := 8) hx hb hW (sw_st_lt hi (Nat.le_of_ble_eq_true rfl)) (sw_lay_s i 9 (Nat.le_of_ble_eq_true rfl)) b72 dX5_copyFrom_99 (fun H locs hW => ?_)
    obtain ⟨M73, eM73⟩ : ∃ z : sM, z = sw_ms M70 (sw_st i + 9) (x2_58).toNatClampNeg (M70 (sw_st i1 + 9) (x2_58).toNatClampNeg) := ⟨_, rfl⟩
    rw [← eM73] at hW
    have h := h M73 eM73
    obtain ⟨v74, ev74⟩ : ∃ z : Int32, z = x2_58 + (1 : Int32) := ⟨_, rfl⟩
    have h := h v74 ev74
    refine lv_iinc (v := v74) (lv' := [(2, .int v74), (0, .ref (sw_ad g (sw_st i))), (1, .ref (sw_ad g (sw_st i1)))]) hx hb dX5_copyFrom_100 hl (k := 2) rfl (by rw [ev74]; rfl) (Nat.le_of_ble_eq_true rfl) rfl (fun ls hl => ?_)
    refine lv_goto (tgt := 58) hx hb dX5_copyFrom_103 (by decide) ?_
    exact ih58 _ _ _ _ _ h hW (lv_sub hl [1, 2, 0] rfl)

theorem cv_X0_prepare : sw_cV yX0_prepare RX0 cX0_prepare 2 none 1 := ⟨q_173, q_174, q_4, q_175, by decide +kernel⟩
def wX0_prepare (i1 : Nat) (M : sM) (Q : sM → Prop) : Prop :=
  vp_in (M 1 1) 9 ∧ (wX5_copyFrom (2 + ((M 1 1)).toNatClampNeg) i1 M (fun M2 => Q M2))
set_option maxRecDepth 20000 in
theorem kX0_prepare (l : Launch) (g : sG) (i1 : Nat) (hi1 : i1 < 11) (M : sM) (Q : sM → Prop) (h : wX0_prepare i1 M Q) : Met l yX0_prepare (sw_ws yX0_prepare cX0_prepare 2 none) { frames := 1, cells := 0, slots := 0, locals := 23 } (va_Pc [.ref (sw_ad g 1), .ref (sw_ad g (sw_st i1))] (sw_Pr g M)) (va_Qv Q (sw_Po g) (sw_A g)) 0 0 (sw_A g) := by
  refine sw_met (by decide) (Nat.le_of_ble_eq_true rfl) ?_
  intro p e s m args below meth c ls hx hb hr hts hown hml hlocks hW hl
  have hown : s.vm.findClass RX0 = some m.cls := hown
  have hl : lv_has ls 2 [(0, .ref (sw_ad g 1)), (1, .ref (sw_ad g (sw_st i1)))] := hl
  unfold wX0_prepare at h
  refine lv_aload_n hx hb dX0_prepare_0 rfl (lv_at hl 0 rfl) ?_
  refine sw_gr (j := 0) (r := 2) hx hb hts hown hW rfl qf_0 (Or.inl (Nat.le_of_ble_eq_true rfl)) sl_1 rfl (Nat.le_of_ble_eq_true rfl) q_101 dX0_prepare_1 ?_
  refine lv_aload_n hx hb dX0_prepare_4 rfl (lv_at hl 0 rfl) ?_
  refine sw_gi (j := 1) hx hb hts hown hW rfl qf_0 (Or.inl (Nat.le_of_ble_eq_true rfl)) sl_1 rfl (Nat.le_of_ble_eq_true rfl) q_102 dX0_prepare_5 ?_
  have b1 := h.1
  have h := h.2
  refine sw_aaS hx hb hW b1 dX0_prepare_8 ?_
  refine lv_aload_n hx hb dX0_prepare_9 rfl (lv_at hl 1 rfl) ?_
  refine sw_kv (rest := []) (sw_runV (As := [.ref (sw_ad g (sw_st i1))]) (rest := []) hx hb hml hown hts (kX5_copyFrom l g (2 + ((M 1 1)).toNatClampNeg) (sw_sl_lt b1) i1 hi1 M _ h) cv_X5_copyFrom q_176 rfl rfl ⟨(Nat.le_of_ble_eq_true rfl), (Nat.le_of_ble_eq_true rfl)⟩ hW (sw_st_lt0 (sw_sl_lt b1)) (sw_lay_so (2 + ((M 1 1)).toNatClampNeg)) rfl rfl hl.1 rfl (Nat.le_of_ble_eq_true rfl) dX0_prepare_10 ⟨(Nat.le_of_ble_eq_true rfl), (Nat.le_of_ble_eq_true rfl)⟩) hW (fun  M2 H locs h hW => ?_)
  exact sw_rv hx hb hr hlocks hW h dX0_prepare_13

theorem cv_X0_takeBack : sw_cV yX0_takeBack RX0 cX0_takeBack 2 none 1 := ⟨q_1140, q_1141, q_4, q_1142, by decide +kernel⟩
def wX0_takeBack (i1 : Nat) (M : sM) (Q : sM → Prop) : Prop :=
  vp_in (M 1 1) 9 ∧ (wX5_copyFrom i1 (2 + ((M 1 1)).toNatClampNeg) M (fun M2 => Q M2))
set_option maxRecDepth 20000 in
theorem kX0_takeBack (l : Launch) (g : sG) (i1 : Nat) (hi1 : i1 < 11) (M : sM) (Q : sM → Prop) (h : wX0_takeBack i1 M Q) : Met l yX0_takeBack (sw_ws yX0_takeBack cX0_takeBack 2 none) { frames := 1, cells := 0, slots := 0, locals := 23 } (va_Pc [.ref (sw_ad g 1), .ref (sw_ad g (sw_st i1))] (sw_Pr g M)) (va_Qv Q (sw_Po g) (sw_A g)) 0 0 (sw_A g) := by
  refine sw_met (by decide) (Nat.le_of_ble_eq_true rfl) ?_
  intro p e s m args below meth c ls hx hb hr hts hown hml hlocks hW hl
  have hown : s.vm.findClass RX0 = some m.cls := hown
  have hl : lv_has ls 2 [(0, .ref (sw_ad g 1)), (1, .ref (sw_ad g (sw_st i1)))] := hl
  unfold wX0_takeBack at h
  refine lv_aload_n hx hb dX0_takeBack_0 rfl (lv_at hl 1 rfl) ?_
  refine lv_aload_n hx hb dX0_takeBack_1 rfl (lv_at hl 0 rfl) ?_
  refine sw_gr (j := 0) (r := 2) hx hb hts hown hW rfl qf_0 (Or.inl (Nat.le_of_ble_eq_true rfl)) sl_1 rfl (Nat.le_of_ble_eq_true rfl) q_101 dX0_takeBack_2 ?_
  refine lv_aload_n hx hb dX0_takeBack_5 rfl (lv_at hl 0 rfl) ?_
  refine sw_gi (j := 1) hx hb hts hown hW rfl qf_0 (Or.inl (Nat.le_of_ble_eq_true rfl)) sl_1 rfl (Nat.le_of_ble_eq_true rfl) q_102 dX0_takeBack_6 ?_
  have b1 := h.1
  have h := h.2
  refine sw_aaS hx hb hW b1 dX0_takeBack_9 ?_
  refine sw_kv (rest := []) (sw_runV (As := [.ref (sw_ad g (sw_st (2 + ((M 1 1)).toNatClampNeg)))]) (rest := []) hx hb hml hown hts (kX5_copyFrom l g i1 hi1 (2 + ((M 1 1)).toNatClampNeg) (sw_sl_lt b1) M _ h) cv_X5_copyFrom q_176 rfl rfl ⟨(Nat.le_of_ble_eq_true rfl), (Nat.le_of_ble_eq_true rfl)⟩ hW (sw_st_lt0 hi1) (sw_lay_so i1) rfl rfl hl.1 rfl (Nat.le_of_ble_eq_true rfl) dX0_takeBack_10 ⟨(Nat.le_of_ble_eq_true rfl), (Nat.le_of_ble_eq_true rfl)⟩) hW (fun  M2 H locs h hW => ?_)
  exact sw_rv hx hb hr hlocks hW h dX0_takeBack_13

theorem cv_X0_commit : sw_cV yX0_commit RX0 cX0_commit 1 none 0 := ⟨q_257, q_258, q_4, q_259, by decide +kernel⟩
def wX0_commit  (M : sM) (Q : sM → Prop) : Prop :=
  ∀ M1 : sM, M1 = sw_ms M 1 1 (((M 1 1) + (1 : Int32)) - ((M 1 1) + (1 : Int32)) / (9 : Int32) * (9 : Int32)) → (∀ v2 : Int32, v2 = (if (8 : Int32) < ((M1 1 2) + (1 : Int32)) then (8 : Int32) else ((M1 1 2) + (1 : Int32))) → (∀ M3 : sM, M3 = sw_ms M1 1 2 v2 → (Q M3)))
set_option maxRecDepth 20000 in
theorem kX0_commit (l : Launch) (g : sG)  (M : sM) (Q : sM → Prop) (h : wX0_commit  M Q) : Met l yX0_commit (sw_ws yX0_commit cX0_commit 1 none) { frames := 1, cells := 0, slots := 0, locals := 21 } (va_Pc [.ref (sw_ad g 1)] (sw_Pr g M)) (va_Qv Q (sw_Po g) (sw_A g)) 0 0 (sw_A g) := by
  refine sw_met (by decide) (Nat.le_of_ble_eq_true rfl) ?_
  intro p e s m args below meth c ls hx hb hr hts hown hml hlocks hW hl
  have hown : s.vm.findClass RX0 = some m.cls := hown
  have hl : lv_has ls 1 [(0, .ref (sw_ad g 1))] := hl
  unfold wX0_commit at h
  refine lv_aload_n hx hb dX0_commit_0 rfl (lv_at hl 0 rfl) ?_
  refine lv_aload_n hx hb dX0_commit_1 rfl (lv_at hl 0 rfl) ?_
  refine sw_gi (j := 1) hx hb hts hown hW rfl qf_0 (Or.inl (Nat.le_of_ble_eq_true rfl)) sl_1 rfl (Nat.le_of_ble_eq_true rfl) q_102 dX0_commit_2 ?_
  refine lv_iconst (v := 1) hx hb dX0_commit_5 (by decide) ?_
  refine lv_iadd hx hb dX0_commit_6 ?_
  refine lv_bipush (v := 9) hx hb dX0_commit_7 (by decide) ?_
  refine lv_irem hx hb dX0_commit_9 (by decide) ?_
  refine sw_pi (j := 1) hx hb hts hown hW rfl qf_0 tyX0 tyX0_ok nmX0 (Or.inl (Nat.le_of_ble_eq_true rfl)) sl_1 rfl (Nat.le_of_ble_eq_true rfl) q_102 rfl rfl rfl dX0_commit_10 (fun H locs hW => ?_)
  obtain ⟨M1, eM1⟩ : ∃ z : sM, z = sw_ms M 1 1 (((M 1 1) + (1 : Int32)) - ((M 1 1) + (1 : Int32)) / (9 : Int32) * (9 : Int32)) := ⟨_, rfl⟩
  rw [← eM1] at hW
  have h := h M1 eM1
  refine lv_aload_n hx hb dX0_commit_13 rfl (lv_at hl 0 rfl) ?_
  refine lv_aload_n hx hb dX0_commit_14 rfl (lv_at hl 0 rfl) ?_
  refine sw_gi (j := 2) hx hb hts hown hW rfl qf_0 (Or.inl (Nat.le_of_ble_eq_true rfl)) sl_1 rfl (Nat.le_of_ble_eq_true rfl) q_103 dX0_commit_15 ?_
  refine lv_iconst (v := 1) hx hb dX0_commit_18 (by decide) ?_
  refine lv_iadd hx hb dX0_commit_19 ?_
  refine lv_bipush (v := 8) hx hb dX0_commit_20 (by decide) ?_
  refine va_mmin hx hb (hml.trans hl.1.symm) hown (sw_w hts q_260) (sw_w hts q_261) (sw_w hts q_17) (sw_w hts q_262) (Nat.le_of_ble_eq_true rfl) (Nat.le_of_ble_eq_true rfl) (Nat.le_of_ble_eq_true rfl) (Nat.le_of_ble_eq_true rfl) dX0_commit_22 ?_
  refine lv_topi (fun v2 ev2 => ?_)
  have h := h v2 ev2
  refine sw_pi (j := 2) hx hb hts hown hW rfl qf_0 tyX0 tyX0_ok nmX0 (Or.inl (Nat.le_of_ble_eq_true rfl)) sl_1 rfl (Nat.le_of_ble_eq_true rfl) q_103 rfl rfl rfl dX0_commit_25 (fun H locs hW => ?_)
  obtain ⟨M3, eM3⟩ : ∃ z : sM, z = sw_ms M1 1 2 v2 := ⟨_, rfl⟩
  rw [← eM3] at hW
  have h := h M3 eM3
  exact sw_rv hx hb hr hlocks hW h dX0_commit_28

theorem cv_X0_stepBack : sw_cV yX0_stepBack RX0 cX0_stepBack 2 none 1 := ⟨q_1150, q_1151, q_4, q_1152, by decide +kernel⟩
def wX0_stepBack (i1 : Nat) (M : sM) (Q : sM → Prop) : Prop :=
  ∀ M1 : sM, M1 = sw_ms M 1 1 (((M 1 1) + (8 : Int32)) - ((M 1 1) + (8 : Int32)) / (9 : Int32) * (9 : Int32)) → (∀ M2 : sM, M2 = sw_ms M1 1 2 ((M1 1 2) - (1 : Int32)) → (wX0_takeBack i1 M2 (fun M3 => Q M3)))
set_option maxRecDepth 20000 in
theorem kX0_stepBack (l : Launch) (g : sG) (i1 : Nat) (hi1 : i1 < 11) (M : sM) (Q : sM → Prop) (h : wX0_stepBack i1 M Q) : Met l yX0_stepBack (sw_ws yX0_stepBack cX0_stepBack 2 none) { frames := 2, cells := 0, slots := 0, locals := 44 } (va_Pc [.ref (sw_ad g 1), .ref (sw_ad g (sw_st i1))] (sw_Pr g M)) (va_Qv Q (sw_Po g) (sw_A g)) 0 0 (sw_A g) := by
  refine sw_met (by decide) (Nat.le_of_ble_eq_true rfl) ?_
  intro p e s m args below meth c ls hx hb hr hts hown hml hlocks hW hl
  have hown : s.vm.findClass RX0 = some m.cls := hown
  have hl : lv_has ls 2 [(0, .ref (sw_ad g 1)), (1, .ref (sw_ad g (sw_st i1)))] := hl
  unfold wX0_stepBack at h
  refine lv_aload_n hx hb dX0_stepBack_0 rfl (lv_at hl 0 rfl) ?_
  refine lv_aload_n hx hb dX0_stepBack_1 rfl (lv_at hl 0 rfl) ?_
  refine sw_gi (j := 1) hx hb hts hown hW rfl qf_0 (Or.inl (Nat.le_of_ble_eq_true rfl)) sl_1 rfl (Nat.le_of_ble_eq_true rfl) q_102 dX0_stepBack_2 ?_
  refine lv_bipush (v := 8) hx hb dX0_stepBack_5 (by decide) ?_
  refine lv_iadd hx hb dX0_stepBack_7 ?_
  refine lv_bipush (v := 9) hx hb dX0_stepBack_8 (by decide) ?_
  refine lv_irem hx hb dX0_stepBack_10 (by decide) ?_
  refine sw_pi (j := 1) hx hb hts hown hW rfl qf_0 tyX0 tyX0_ok nmX0 (Or.inl (Nat.le_of_ble_eq_true rfl)) sl_1 rfl (Nat.le_of_ble_eq_true rfl) q_102 rfl rfl rfl dX0_stepBack_11 (fun H locs hW => ?_)
  obtain ⟨M1, eM1⟩ : ∃ z : sM, z = sw_ms M 1 1 (((M 1 1) + (8 : Int32)) - ((M 1 1) + (8 : Int32)) / (9 : Int32) * (9 : Int32)) := ⟨_, rfl⟩
  rw [← eM1] at hW
  have h := h M1 eM1
  refine lv_aload_n hx hb dX0_stepBack_14 rfl (lv_at hl 0 rfl) ?_
  refine lv_dup hx hb dX0_stepBack_15 rfl ?_
  refine sw_gi (j := 2) hx hb hts hown hW rfl qf_0 (Or.inl (Nat.le_of_ble_eq_true rfl)) sl_1 rfl (Nat.le_of_ble_eq_true rfl) q_103 dX0_stepBack_16 ?_
  refine lv_iconst (v := 1) hx hb dX0_stepBack_19 (by decide) ?_
  refine lv_isub hx hb dX0_stepBack_20 ?_
  refine sw_pi (j := 2) hx hb hts hown hW rfl qf_0 tyX0 tyX0_ok nmX0 (Or.inl (Nat.le_of_ble_eq_true rfl)) sl_1 rfl (Nat.le_of_ble_eq_true rfl) q_103 rfl rfl rfl dX0_stepBack_21 (fun H locs hW => ?_)
  obtain ⟨M2, eM2⟩ : ∃ z : sM, z = sw_ms M1 1 2 ((M1 1 2) - (1 : Int32)) := ⟨_, rfl⟩
  rw [← eM2] at hW
  have h := h M2 eM2
  refine lv_aload_n hx hb dX0_stepBack_24 rfl (lv_at hl 0 rfl) ?_
  refine lv_aload_n hx hb dX0_stepBack_25 rfl (lv_at hl 1 rfl) ?_
  refine sw_kv (rest := []) (sw_runV (As := [.ref (sw_ad g (sw_st i1))]) (rest := []) hx hb hml hown hts (kX0_takeBack l g i1 hi1 M2 _ h) cv_X0_takeBack q_1153 rfl rfl ⟨(Nat.le_of_ble_eq_true rfl), (Nat.le_of_ble_eq_true rfl)⟩ hW (Or.inl (Nat.le_of_ble_eq_true rfl)) sl_1 rfl rfl hl.1 rfl (Nat.le_of_ble_eq_true rfl) dX0_stepBack_26 ⟨(Nat.le_of_ble_eq_true rfl), (Nat.le_of_ble_eq_true rfl)⟩) hW (fun  M3 H locs h hW => ?_)
  exact sw_rv hx hb hr hlocks hW h dX0_stepBack_29

theorem cv_X5_assigned : sw_cV yX5_assigned RX5 cX5_assigned 3 (some .boolean) 2 := ⟨q_315, q_316, q_3, q_317, by decide +kernel⟩
def wX5_assigned (i : Nat) (a1 : Int32) (a2 : Int32) (M : sM) (Q : Int32 → Prop) : Prop :=
  vp_in a1 6 ∧ ((((M (sw_st i + 8) (a1).toNatClampNeg) &&& ((1 : Int32) <<< (a2 &&& 31))) = 0 → (Q (0 : Int32))) ∧ (¬ ((M (sw_st i + 8) (a1).toNatClampNeg) &&& ((1 : Int32) <<< (a2 &&& 31))) = 0 → (Q (1 : Int32))))
set_option maxRecDepth 20000 in
theorem kX5_assigned (l : Launch) (g : sG) (i : Nat) (hi : i < 11) (a1 : Int32) (a2 : Int32) (M : sM) (Q : Int32 → Prop) (h : wX5_assigned i a1 a2 M Q) : Met l yX5_assigned (sw_ws yX5_assigned cX5_assigned 3 (some .boolean)) { frames := 0, cells := 0, slots := 0, locals := 0 } (va_Pc [.ref (sw_ad g (sw_st i)), .int a1, .int a2] (sw_Pr g M)) (va_Qi (fun r M1 => Q r ∧ M1 = M) (sw_Po g) (sw_A g)) 0 0 (sw_A g) := by
  refine sw_met (by decide) (Nat.le_of_ble_eq_true rfl) ?_
  intro p e s m args below meth c ls hx hb hr hts hown hml hlocks hW hl
  have hown : s.vm.findClass RX5 = some m.cls := hown
  have hl : lv_has ls 3 [(0, .ref (sw_ad g (sw_st i))), (1, .int a1), (2, .int a2)] := hl
  unfold wX5_assigned at h
  refine lv_aload_n hx hb dX5_assigned_0 rfl (lv_at hl 0 rfl) ?_
  refine sw_gr (j := 12) (r := (sw_st i + 8)) hx hb hts hown hW rfl qf_5 (sw_st_lt0 hi) (sw_lay_so i) rfl (Nat.le_of_ble_eq_true rfl) q_82 dX5_assigned_1 ?_
  refine lv_iload_n hx hb dX5_assigned_4 rfl (lv_at hl 1 rfl) ?_
  have b1 := h.1
  have h := h.2
  refine sw_ia (n := 6) hx hb hW (sw_st_lt hi (Nat.le_of_ble_eq_true rfl)) (sw_lay_s i 8 (Nat.le_of_ble_eq_true rfl)) b1 dX5_assigned_5 ?_
  refine lv_iconst (v := 1) hx hb dX5_assigned_6 (by decide) ?_
  refine lv_iload_n hx hb dX5_assigned_7 rfl (lv_at hl 2 rfl) ?_
  refine lv_ishl hx hb dX5_assigned_8 ?_
  refine lv_iand hx hb dX5_assigned_9 ?_
  refine lv_if_eq (tgt := 17) hx hb dX5_assigned_10 (by decide) (fun k2 => ?_) (fun k2 => ?_)
  · have h := h.1 k2
    refine lv_iconst (v := 0) hx hb dX5_assigned_17 (by decide) ?_
    exact sw_ri hx hb hr hlocks hW (by decide) ⟨h, rfl⟩ dX5_assigned_18
  · have h := h.2 k2
    refine lv_iconst (v := 1) hx hb dX5_assigned_13 (by decide) ?_
    refine lv_goto (tgt := 18) hx hb dX5_assigned_14 (by decide) ?_
    exact sw_ri hx hb hr hlocks hW (by decide) ⟨h, rfl⟩ dX5_assigned_18

def lX5_gradeCount_4 (i : Nat) (a1 : Int32) (M : sM) (K4 : Int32 → Prop) : Nat → Int32 → Int32 → Prop
  | 0, _, _ => False
  | n4 + 1, x2_4, x3_4 => ((M (sw_st i) 6) ≤ x3_4 → (K4 x2_4)) ∧ (¬ (M (sw_st i) 6) ≤ x3_4 → (vp_in x3_4 6 ∧ (vp_in a1 8 ∧ (((M (sw_st i + 11 + (x3_4).toNatClampNeg) (a1).toNatClampNeg) = (-1 : Int32) → (∀ v5 : Int32, v5 = x3_4 + (1 : Int32) → ((fun x2_4 x3_4 => lX5_gradeCount_4 i a1 M K4 n4 x2_4 x3_4) x2_4 v5))) ∧ (¬ (M (sw_st i + 11 + (x3_4).toNatClampNeg) (a1).toNatClampNeg) = (-1 : Int32) → (∀ v6 : Int32, v6 = x2_4 + (1 : Int32) → (∀ v7 : Int32, v7 = x3_4 + (1 : Int32) → ((fun x2_4 x3_4 => lX5_gradeCount_4 i a1 M K4 n4 x2_4 x3_4) v6 v7))))))))
theorem cv_X5_gradeCount : sw_cV yX5_gradeCount RX5 cX5_gradeCount 4 (some .int) 1 := ⟨q_409, q_410, q_3, q_411, by decide +kernel⟩
def wX5_gradeCount (i : Nat) (a1 : Int32) (M : sM) (Q : Int32 → Prop) : Prop :=
  ∃ n4, lX5_gradeCount_4 i a1 M (fun x2_4k => Q x2_4k) n4 (0 : Int32) (0 : Int32)
set_option maxRecDepth 20000 in
theorem kX5_gradeCount (l : Launch) (g : sG) (i : Nat) (hi : i < 11) (a1 : Int32) (M : sM) (Q : Int32 → Prop) (h : wX5_gradeCount i a1 M Q) : Met l yX5_gradeCount (sw_ws yX5_gradeCount cX5_gradeCount 4 (some .int)) { frames := 0, cells := 0, slots := 0, locals := 0 } (va_Pc [.ref (sw_ad g (sw_st i)), .int a1] (sw_Pr g M)) (va_Qi (fun r M1 => Q r ∧ M1 = M) (sw_Po g) (sw_A g)) 0 0 (sw_A g) := by
  refine sw_met (by decide) (Nat.le_of_ble_eq_true rfl) ?_
  intro p e s m args below meth c ls hx hb hr hts hown hml hlocks hW hl
  have hown : s.vm.findClass RX5 = some m.cls := hown
  have hl : lv_has ls 4 [(0, .ref (sw_ad g (sw_st i))), (1, .int a1)] := hl
  unfold wX5_gradeCount at h
  refine lv_iconst (v := 0) hx hb dX5_gradeCount_0 (by decide) ?_
  refine lv_istore_n (lv' := [(2, .int (0 : Int32)), (0, .ref (sw_ad g (sw_st i))), (1, .int a1)]) hx hb dX5_gradeCount_1 rfl hl (Nat.le_of_ble_eq_true rfl) rfl (fun ls hl => ?_)
  refine lv_iconst (v := 0) hx hb dX5_gradeCount_2 (by decide) ?_
  refine lv_istore_n (lv' := [(3, .int (0 : Int32)), (2, .int (0 : Int32)), (0, .ref (sw_ad g (sw_st i))), (1, .int a1)]) hx hb dX5_gradeCount_3 rfl hl (Nat.le_of_ble_eq_true rfl) rfl (fun ls hl => ?_)
  obtain ⟨n4, h⟩ := h
  refine sw_lp_ii (hd := 4) (Lf := fun x2_4 x3_4 => [(0, .ref (sw_ad g (sw_st i))), (1, .int a1), (2, .int x2_4), (3, .int x3_4)]) h hW (lv_sub hl [2, 3, 1, 0] rfl) (fun _ _ h => h) (fun n4 ih4 x2_4 x3_4 H locs ls h hW hl => ?_)
  rw [lX5_gradeCount_4.eq_2] at h
  refine lv_iload_n hx hb dX5_gradeCount_4 rfl (lv_at hl 3 rfl) ?_
  refine lv_aload_n hx hb dX5_gradeCount_5 rfl (lv_at hl 0 rfl) ?_
  refine sw_gi (j := 6) hx hb hts hown hW rfl qf_5 (sw_st_lt0 hi) (sw_lay_so i) rfl (Nat.le_of_ble_eq_true rfl) q_65 dX5_gradeCount_6 ?_
  refine lv_icmp_ge (tgt := 33) hx hb dX5_gradeCount_9 (by decide) (fun k1 => ?_) (fun k1 => ?_)
  · have h := h.1 k1
    refine lv_iload_n hx hb dX5_gradeCount_33 rfl (lv_at hl 2 rfl) ?_
    exact sw_ri hx hb hr hlocks hW rfl ⟨h, rfl⟩ dX5_gradeCount_34
  · have h := h.2 k1
    refine lv_aload_n hx hb dX5_gradeCount_12 rfl (lv_at hl 0 rfl) ?_
    refine sw_gr (j := 13) (r := (sw_st i + 10)) hx hb hts hown hW rfl qf_5 (sw_st_lt0 hi) (sw_lay_so i) rfl (Nat.le_of_ble_eq_true rfl) q_83 dX5_gradeCount_13 ?_
    refine lv_iload_n hx hb dX5_gradeCount_16 rfl (lv_at hl 3 rfl) ?_
    have b2 := h.1
    have h := h.2
    refine sw_aaG hi hx hb hW b2 dX5_gradeCount_17 ?_
    refine lv_iload_n hx hb dX5_gradeCount_18 rfl (lv_at hl 1 rfl) ?_
    have b3 := h.1
    have h := h.2
    refine sw_ia (n := 8) hx hb hW (sw_g_lt hi (sw_vlt b2)) (sw_lay_g i (sw_vlt b2)) b3 dX5_gradeCount_19 ?_
    refine lv_iconst (v := -1) hx hb dX5_gradeCount_20 (by decide) ?_
    refine lv_icmp_eq (tgt := 27) hx hb dX5_gradeCount_21 (by decide) (fun k4 => ?_) (fun k4 => ?_)
    · have h := h.1 k4
      obtain ⟨v5, ev5⟩ : ∃ z : Int32, z = x3_4 + (1 : Int32) := ⟨_, rfl⟩
      have h := h v5 ev5
      refine lv_iinc (v := v5) (lv' := [(3, .int v5), (0, .ref (sw_ad g (sw_st i))), (1, .int a1), (2, .int x2_4)]) hx hb dX5_gradeCount_27 hl (k := 3) rfl (by rw [ev5]; rfl) (Nat.le_of_ble_eq_true rfl) rfl (fun ls hl => ?_)
      refine lv_goto (tgt := 4) hx hb dX5_gradeCount_30 (by decide) ?_
      exact ih4 _ _ _ _ _ h hW (lv_sub hl [1, 2, 3, 0] rfl)
    · have h := h.2 k4
      obtain ⟨v6, ev6⟩ : ∃ z : Int32, z = x2_4 + (1 : Int32) := ⟨_, rfl⟩
      have h := h v6 ev6
      refine lv_iinc (v := v6) (lv' := [(2, .int v6), (0, .ref (sw_ad g (sw_st i))), (1, .int a1), (3, .int x3_4)]) hx hb dX5_gradeCount_24 hl (k := 2) rfl (by rw [ev6]; rfl) (Nat.le_of_ble_eq_true rfl) rfl (fun ls hl => ?_)
      obtain ⟨v7, ev7⟩ : ∃ z : Int32, z = x3_4 + (1 : Int32) := ⟨_, rfl⟩
      have h := h v7 ev7
      refine lv_iinc (v := v7) (lv' := [(3, .int v7), (2, .int v6), (0, .ref (sw_ad g (sw_st i))), (1, .int a1)]) hx hb dX5_gradeCount_27 hl (k := 3) rfl (by rw [ev7]; rfl) (Nat.le_of_ble_eq_true rfl) rfl (fun ls hl => ?_)
      refine lv_goto (tgt := 4) hx hb dX5_gradeCount_30 (by decide) ?_
      exact ih4 _ _ _ _ _ h hW (lv_sub hl [2, 3, 1, 0] rfl)

def lX5_gradeSum_4 (i : Nat) (a1 : Int32) (M : sM) (K4 : Int32 → Prop) : Nat → Int32 → Int32 → Prop
  | 0, _, _ => False
  | n4 + 1, x2_4, x3_4 => ((M (sw_st i) 6) ≤ x3_4 → (K4 x2_4)) ∧ (¬ (M (sw_st i) 6) ≤ x3_4 → (vp_in x3_4 6 ∧ (vp_in a1 8 ∧ (((M (sw_st i + 11 + (x3_4).toNatClampNeg) (a1).toNatClampNeg) = (-1 : Int32) → (∀ v5 : Int32, v5 = x3_4 + (1 : Int32) → ((fun x2_4 x3_4 => lX5_gradeSum_4 i a1 M K4 n4 x2_4 x3_4) x2_4 v5))) ∧ (¬ (M (sw_st i + 11 + (x3_4).toNatClampNeg) (a1).toNatClampNeg) = (-1 : Int32) → (vp_in x3_4 6 ∧ (vp_in a1 8 ∧ (∀ v8 : Int32, v8 = (x2_4 + (M (sw_st i + 11 + (x3_4).toNatClampNeg) (a1).toNatClampNeg)) → (∀ v9 : Int32, v9 = x3_4 + (1 : Int32) → ((fun x2_4 x3_4 => lX5_gradeSum_4 i a1 M K4 n4 x2_4 x3_4) v8 v9))))))))))
theorem cv_X5_gradeSum : sw_cV yX5_gradeSum RX5 cX5_gradeSum 4 (some .int) 1 := ⟨q_438, q_439, q_3, q_440, by decide +kernel⟩
def wX5_gradeSum (i : Nat) (a1 : Int32) (M : sM) (Q : Int32 → Prop) : Prop :=
  ∃ n4, lX5_gradeSum_4 i a1 M (fun x2_4k => Q x2_4k) n4 (0 : Int32) (0 : Int32)
set_option maxRecDepth 20000 in
theorem kX5_gradeSum (l : Launch) (g : sG) (i : Nat) (hi : i < 11) (a1 : Int32) (M : sM) (Q : Int32 → Prop) (h : wX5_gradeSum i a1 M Q) : Met l yX5_gradeSum (sw_ws yX5_gradeSum cX5_gradeSum 4 (some .int)) { frames := 0, cells := 0, slots := 0, locals := 0 } (va_Pc [.ref (sw_ad g (sw_st i)), .int a1] (sw_Pr g M)) (va_Qi (fun r M1 => Q r ∧ M1 = M) (sw_Po g) (sw_A g)) 0 0 (sw_A g) := by
  refine sw_met (by decide) (Nat.le_of_ble_eq_true rfl) ?_
  intro p e s m args below meth c ls hx hb hr hts hown hml hlocks hW hl
  have hown : s.vm.findClass RX5 = some m.cls := hown
  have hl : lv_has ls 4 [(0, .ref (sw_ad g (sw_st i))), (1, .int a1)] := hl
  unfold wX5_gradeSum at h
  refine lv_iconst (v := 0) hx hb dX5_gradeSum_0 (by decide) ?_
  refine lv_istore_n (lv' := [(2, .int (0 : Int32)), (0, .ref (sw_ad g (sw_st i))), (1, .int a1)]) hx hb dX5_gradeSum_1 rfl hl (Nat.le_of_ble_eq_true rfl) rfl (fun ls hl => ?_)
  refine lv_iconst (v := 0) hx hb dX5_gradeSum_2 (by decide) ?_
  refine lv_istore_n (lv' := [(3, .int (0 : Int32)), (2, .int (0 : Int32)), (0, .ref (sw_ad g (sw_st i))), (1, .int a1)]) hx hb dX5_gradeSum_3 rfl hl (Nat.le_of_ble_eq_true rfl) rfl (fun ls hl => ?_)
  obtain ⟨n4, h⟩ := h
  refine sw_lp_ii (hd := 4) (Lf := fun x2_4 x3_4 => [(0, .ref (sw_ad g (sw_st i))), (1, .int a1), (2, .int x2_4), (3, .int x3_4)]) h hW (lv_sub hl [2, 3, 1, 0] rfl) (fun _ _ h => h) (fun n4 ih4 x2_4 x3_4 H locs ls h hW hl => ?_)
  rw [lX5_gradeSum_4.eq_2] at h
  refine lv_iload_n hx hb dX5_gradeSum_4 rfl (lv_at hl 3 rfl) ?_
  refine lv_aload_n hx hb dX5_gradeSum_5 rfl (lv_at hl 0 rfl) ?_
  refine sw_gi (j := 6) hx hb hts hown hW rfl qf_5 (sw_st_lt0 hi) (sw_lay_so i) rfl (Nat.le_of_ble_eq_true rfl) q_65 dX5_gradeSum_6 ?_
  refine lv_icmp_ge (tgt := 41) hx hb dX5_gradeSum_9 (by decide) (fun k1 => ?_) (fun k1 => ?_)
  · have h := h.1 k1
    refine lv_iload_n hx hb dX5_gradeSum_41 rfl (lv_at hl 2 rfl) ?_
    exact sw_ri hx hb hr hlocks hW rfl ⟨h, rfl⟩ dX5_gradeSum_42
  · have h := h.2 k1
    refine lv_aload_n hx hb dX5_gradeSum_12 rfl (lv_at hl 0 rfl) ?_
    refine sw_gr (j := 13) (r := (sw_st i + 10)) hx hb hts hown hW rfl qf_5 (sw_st_lt0 hi) (sw_lay_so i) rfl (Nat.le_of_ble_eq_true rfl) q_83 dX5_gradeSum_13 ?_
    refine lv_iload_n hx hb dX5_gradeSum_16 rfl (lv_at hl 3 rfl) ?_
    have b2 := h.1
    have h := h.2
    refine sw_aaG hi hx hb hW b2 dX5_gradeSum_17 ?_
    refine lv_iload_n hx hb dX5_gradeSum_18 rfl (lv_at hl 1 rfl) ?_
    have b3 := h.1
    have h := h.2
    refine sw_ia (n := 8) hx hb hW (sw_g_lt hi (sw_vlt b2)) (sw_lay_g i (sw_vlt b2)) b3 dX5_gradeSum_19 ?_
    refine lv_iconst (v := -1) hx hb dX5_gradeSum_20 (by decide) ?_
    refine lv_icmp_eq (tgt := 35) hx hb dX5_gradeSum_21 (by decide) (fun k4 => ?_) (fun k4 => ?_)
    · have h := h.1 k4
      obtain ⟨v5, ev5⟩ : ∃ z : Int32, z = x3_4 + (1 : Int32) := ⟨_, rfl⟩
      have h := h v5 ev5
      refine lv_iinc (v := v5) (lv' := [(3, .int v5), (0, .ref (sw_ad g (sw_st i))), (1, .int a1), (2, .int x2_4)]) hx hb dX5_gradeSum_35 hl (k := 3) rfl (by rw [ev5]; rfl) (Nat.le_of_ble_eq_true rfl) rfl (fun ls hl => ?_)
      refine lv_goto (tgt := 4) hx hb dX5_gradeSum_38 (by decide) ?_
      exact ih4 _ _ _ _ _ h hW (lv_sub hl [1, 2, 3, 0] rfl)
    · have h := h.2 k4
      refine lv_iload_n hx hb dX5_gradeSum_24 rfl (lv_at hl 2 rfl) ?_
      refine lv_aload_n hx hb dX5_gradeSum_25 rfl (lv_at hl 0 rfl) ?_
      refine sw_gr (j := 13) (r := (sw_st i + 10)) hx hb hts hown hW rfl qf_5 (sw_st_lt0 hi) (sw_lay_so i) rfl (Nat.le_of_ble_eq_true rfl) q_83 dX5_gradeSum_26 ?_
      refine lv_iload_n hx hb dX5_gradeSum_29 rfl (lv_at hl 3 rfl) ?_
      have b6 := h.1
      have h := h.2
      refine sw_aaG hi hx hb hW b6 dX5_gradeSum_30 ?_
      refine lv_iload_n hx hb dX5_gradeSum_31 rfl (lv_at hl 1 rfl) ?_
      have b7 := h.1
      have h := h.2
      refine sw_ia (n := 8) hx hb hW (sw_g_lt hi (sw_vlt b6)) (sw_lay_g i (sw_vlt b6)) b7 dX5_gradeSum_32 ?_
      refine lv_iadd hx hb dX5_gradeSum_33 ?_
      refine lv_topi (fun v8 ev8 => ?_)
      have h := h v8 ev8
      refine lv_istore_n (lv' := [(2, .int v8), (0, .ref (sw_ad g (sw_st i))), (1, .int a1), (3, .int x3_4)]) hx hb dX5_gradeSum_34 rfl hl (Nat.le_of_ble_eq_true rfl) rfl (fun ls hl => ?_)
      obtain ⟨v9, ev9⟩ : ∃ z : Int32, z = x3_4 + (1 : Int32) := ⟨_, rfl⟩
      have h := h v9 ev9
      refine lv_iinc (v := v9) (lv' := [(3, .int v9), (2, .int v8), (0, .ref (sw_ad g (sw_st i))), (1, .int a1)]) hx hb dX5_gradeSum_35 hl (k := 3) rfl (by rw [ev9]; rfl) (Nat.le_of_ble_eq_true rfl) rfl (fun ls hl => ?_)
      refine lv_goto (tgt := 4) hx hb dX5_gradeSum_38 (by decide) ?_
      exact ih4 _ _ _ _ _ h hW (lv_sub hl [2, 3, 1, 0] rfl)

def lX5_median_38 (i : Nat) (a1 : Int32) (M : sM) (K38 : Int32 → Int32 → Prop) : Nat → Int32 → Int32 → Int32 → Prop
  | 0, _, _, _ => False
  | n38 + 1, x4_38, x5_38, x6_38 => ((M (sw_st i) 6) ≤ x6_38 → (K38 x4_38 x5_38)) ∧ (¬ (M (sw_st i) 6) ≤ x6_38 → (vp_in x6_38 6 ∧ (vp_in a1 8 ∧ (∀ v8 : Int32, v8 = (M (sw_st i + 11 + (x6_38).toNatClampNeg) (a1).toNatClampNeg) → ((v8 = (-1 : Int32) → (∀ v10 : Int32, v10 = x6_38 + (1 : Int32) → ((fun x4_38 x5_38 x6_38 => lX5_median_38 i a1 M K38 n38 x4_38 x5_38 x6_38) x4_38 x5_38 v10))) ∧ (¬ v8 = (-1 : Int32) → (∀ v11 : Int32, v11 = (if v8 < x4_38 then v8 else x4_38) → (∀ v12 : Int32, v12 = (if x5_38 < v8 then v8 else x5_38) → (∀ v13 : Int32, v13 = x6_38 + (1 : Int32) → ((fun x4_38 x5_38 x6_38 => lX5_median_38 i a1 M K38 n38 x4_38 x5_38 x6_38) v11 v12 v13))))))))))
theorem cv_X5_median : sw_cV yX5_median RX5 cX5_median 8 (some .int) 1 := ⟨q_434, q_435, q_3, q_436, by decide +kernel⟩
def wX5_median (i : Nat) (a1 : Int32) (M : sM) (Q : Int32 → Prop) : Prop :=
  wX5_gradeCount i a1 M (fun r1 => ((2 : Int32) ≤ r1 → (wX5_gradeSum i a1 M (fun r3 => (r1 = (2 : Int32) → (Q (r3 / (2 : Int32)))) ∧ (¬ r1 = (2 : Int32) → (∃ n38, lX5_median_38 i a1 M (fun x4_38k x5_38k => Q ((r3 - x4_38k) - x5_38k)) n38 (20 : Int32) (0 : Int32) (0 : Int32)))))) ∧ (¬ (2 : Int32) ≤ r1 → (Q (-1 : Int32))))
set_option maxRecDepth 20000 in
theorem kX5_median (l : Launch) (g : sG) (i : Nat) (hi : i < 11) (a1 : Int32) (M : sM) (Q : Int32 → Prop) (h : wX5_median i a1 M Q) : Met l yX5_median (sw_ws yX5_median cX5_median 8 (some .int)) { frames := 1, cells := 0, slots := 0, locals := 23 } (va_Pc [.ref (sw_ad g (sw_st i)), .int a1] (sw_Pr g M)) (va_Qi (fun r M1 => Q r ∧ M1 = M) (sw_Po g) (sw_A g)) 0 0 (sw_A g) := by
  refine sw_met (by decide) (Nat.le_of_ble_eq_true rfl) ?_
  intro p e s m args below meth c ls hx hb hr hts hown hml hlocks hW hl
  have hown : s.vm.findClass RX5 = some m.cls := hown
  have hl : lv_has ls 8 [(0, .ref (sw_ad g (sw_st i))), (1, .int a1)] := hl
  unfold wX5_median at h
  refine lv_aload_n hx hb dX5_median_0 rfl (lv_at hl 0 rfl) ?_
  refine lv_iload_n hx hb dX5_median_1 rfl (lv_at hl 1 rfl) ?_
  refine sw_ki (rest := []) (sw_runV (As := [.int a1]) (rest := []) hx hb hml hown hts (kX5_gradeCount l g i hi a1 M _ h) cv_X5_gradeCount q_408 rfl rfl ⟨(Nat.le_of_ble_eq_true rfl), (Nat.le_of_ble_eq_true rfl)⟩ hW (sw_st_lt0 hi) (sw_lay_so i) rfl rfl hl.1 rfl (Nat.le_of_ble_eq_true rfl) dX5_median_2 ⟨(Nat.le_of_ble_eq_true rfl), (Nat.le_of_ble_eq_true rfl)⟩) hW (fun r1 M15 H locs h hW => ?_)
  obtain ⟨h, eM15⟩ := h
  rw [eM15] at hW
  refine lv_istore_n (lv' := [(2, .int r1), (0, .ref (sw_ad g (sw_st i))), (1, .int a1)]) hx hb dX5_median_5 rfl hl (Nat.le_of_ble_eq_true rfl) rfl (fun ls hl => ?_)
  refine lv_iload_n hx hb dX5_median_6 rfl (lv_at hl 0 rfl) ?_
  refine lv_iconst (v := 2) hx hb dX5_median_7 (by decide) ?_
  refine lv_icmp_ge (tgt := 13) hx hb dX5_median_8 (by decide) (fun k2 => ?_) (fun k2 => ?_)
  · have h := h.1 k2
    refine lv_aload_n hx hb dX5_median_13 rfl (lv_at hl 1 rfl) ?_
    refine lv_iload_n hx hb dX5_median_14 rfl (lv_at hl 2 rfl) ?_
    refine sw_ki (rest := []) (sw_runV (As := [.int a1]) (rest := []) hx hb hml hown hts (kX5_gradeSum l g i hi a1 M _ h) cv_X5_gradeSum q_437 rfl rfl ⟨(Nat.le_of_ble_eq_true rfl), (Nat.le_of_ble_eq_true rfl)⟩ hW (sw_st_lt0 hi) (sw_lay_so i) rfl rfl hl.1 rfl (Nat.le_of_ble_eq_true rfl) dX5_median_15 ⟨(Nat.le_of_ble_eq_true rfl), (Nat.le_of_ble_eq_true rfl)⟩) hW (fun r3 M14 H locs h hW => ?_)
    obtain ⟨h, eM14⟩ := h
    rw [eM14] at hW
    refine lv_istore_n (lv' := [(3, .int r3), (2, .int r1), (0, .ref (sw_ad g (sw_st i))), (1, .int a1)]) hx hb dX5_median_18 rfl hl (Nat.le_of_ble_eq_true rfl) rfl (fun ls hl => ?_)
    refine lv_iload_n hx hb dX5_median_19 rfl (lv_at hl 1 rfl) ?_
    refine lv_iconst (v := 2) hx hb dX5_median_20 (by decide) ?_
    refine lv_icmp_ne (tgt := 28) hx hb dX5_median_21 (by decide) (fun k4 => ?_) (fun k4 => ?_)
    · have h := h.2 k4
      refine lv_bipush (v := 20) hx hb dX5_median_28 (by decide) ?_
      refine lv_istore (lv' := [(4, .int (20 : Int32)), (3, .int r3), (2, .int r1), (0, .ref (sw_ad g (sw_st i))), (1, .int a1)]) hx hb dX5_median_30 hl (Nat.le_of_ble_eq_true rfl) rfl (fun ls hl => ?_)
      refine lv_iconst (v := 0) hx hb dX5_median_32 (by decide) ?_
      refine lv_istore (lv' := [(5, .int (0 : Int32)), (4, .int (20 : Int32)), (3, .int r3), (2, .int r1), (0, .ref (sw_ad g (sw_st i))), (1, .int a1)]) hx hb dX5_median_33 hl (Nat.le_of_ble_eq_true rfl) rfl (fun ls hl => ?_)
      refine lv_iconst (v := 0) hx hb dX5_median_35 (by decide) ?_
      refine lv_istore (lv' := [(6, .int (0 : Int32)), (5, .int (0 : Int32)), (4, .int (20 : Int32)), (3, .int r3), (2, .int r1), (0, .ref (sw_ad g (sw_st i))), (1, .int a1)]) hx hb dX5_median_36 hl (Nat.le_of_ble_eq_true rfl) rfl (fun ls hl => ?_)
      obtain ⟨n38, h⟩ := h
      refine sw_lp_iii (hd := 38) (Lf := fun x4_38 x5_38 x6_38 => [(0, .ref (sw_ad g (sw_st i))), (1, .int a1), (3, .int r3), (4, .int x4_38), (5, .int x5_38), (6, .int x6_38)]) h hW (lv_sub hl [5, 6, 3, 2, 1, 0] rfl) (fun _ _ _ h => h) (fun n38 ih38 x4_38 x5_38 x6_38 H locs ls h hW hl => ?_)
      rw [lX5_median_38.eq_2] at h
      refine lv_iload hx hb dX5_median_38 (lv_at hl 5 rfl) ?_
      refine lv_aload_n hx hb dX5_median_40 rfl (lv_at hl 0 rfl) ?_
      refine sw_gi (j := 6) hx hb hts hown hW rfl qf_5 (sw_st_lt0 hi) (sw_lay_so i) rfl (Nat.le_of_ble_eq_true rfl) q_65 dX5_median_41 ?_
      refine lv_icmp_ge (tgt := 88) hx hb dX5_median_44 (by decide) (fun k5 => ?_) (fun k5 => ?_)
      · have h := h.1 k5
        refine lv_iload_n hx hb dX5_median_88 rfl (lv_at hl 2 rfl) ?_
        refine lv_iload hx hb dX5_median_89 (lv_at hl 3 rfl) ?_
        refine lv_isub hx hb dX5_median_91 ?_
        refine lv_iload hx hb dX5_median_92 (lv_at hl 4 rfl) ?_
        refine lv_isub hx hb dX5_median_94 ?_
        exact sw_ri hx hb hr hlocks hW rfl ⟨h, rfl⟩ dX5_median_95
      · have h := h.2 k5
        refine lv_aload_n hx hb dX5_median_47 rfl (lv_at hl 0 rfl) ?_
        refine sw_gr (j := 13) (r := (sw_st i + 10)) hx hb hts hown hW rfl qf_5 (sw_st_lt0 hi) (sw_lay_so i) rfl (Nat.le_of_ble_eq_true rfl) q_83 dX5_median_48 ?_
        refine lv_iload hx hb dX5_median_51 (lv_at hl 5 rfl) ?_
        have b6 := h.1
        have h := h.2
        refine sw_aaG hi hx hb hW b6 dX5_median_53 ?_
        refine lv_iload_n hx hb dX5_median_54 rfl (lv_at hl 1 rfl) ?_
        have b7 := h.1
        have h := h.2
        refine sw_ia (n := 8) hx hb hW (sw_g_lt hi (sw_vlt b6)) (sw_lay_g i (sw_vlt b6)) b7 dX5_median_55 ?_
        refine lv_topi (fun v8 ev8 => ?_)
        have h := h v8 ev8
        refine lv_istore (lv' := [(7, .int v8), (0, .ref (sw_ad g (sw_st i))), (1, .int a1), (3, .int r3), (4, .int x4_38), (5, .int x5_38), (6, .int x6_38)]) hx hb dX5_median_56 hl (Nat.le_of_ble_eq_true rfl) rfl (fun ls hl => ?_)
        refine lv_iload hx hb dX5_median_58 (lv_at hl 0 rfl) ?_
        refine lv_iconst (v := -1) hx hb dX5_median_60 (by decide) ?_
        refine lv_icmp_eq (tgt := 82) hx hb dX5_median_61 (by decide) (fun k9 => ?_) (fun k9 => ?_)
        · have h := h.1 k9
          obtain ⟨v10, ev10⟩ : ∃ z : Int32, z = x6_38 + (1 : Int32) := ⟨_, rfl⟩
          have h := h v10 ev10
          refine lv_iinc (v := v10) (lv' := [(6, .int v10), (7, .int v8), (0, .ref (sw_ad g (sw_st i))), (1, .int a1), (3, .int r3), (4, .int x4_38), (5, .int x5_38)]) hx hb dX5_median_82 hl (k := 6) rfl (by rw [ev10]; rfl) (Nat.le_of_ble_eq_true rfl) rfl (fun ls hl => ?_)
          refine lv_goto (tgt := 38) hx hb dX5_median_85 (by decide) ?_
          exact ih38 _ _ _ _ _ _ h hW (lv_sub hl [2, 3, 4, 5, 6, 0] rfl)
        · have h := h.2 k9
          refine lv_iload hx hb dX5_median_64 (lv_at hl 4 rfl) ?_
          refine lv_iload hx hb dX5_median_66 (lv_at hl 0 rfl) ?_
          refine va_mmin hx hb (hml.trans hl.1.symm) hown (sw_w hts q_441) (sw_w hts q_261) (sw_w hts q_17) (sw_w hts q_262) (Nat.le_of_ble_eq_true rfl) (Nat.le_of_ble_eq_true rfl) (Nat.le_of_ble_eq_true rfl) (Nat.le_of_ble_eq_true rfl) dX5_median_68 ?_
          refine lv_topi (fun v11 ev11 => ?_)
          have h := h v11 ev11
          refine lv_istore (lv' := [(4, .int v11), (7, .int v8), (0, .ref (sw_ad g (sw_st i))), (1, .int a1), (3, .int r3), (5, .int x5_38), (6, .int x6_38)]) hx hb dX5_median_71 hl (Nat.le_of_ble_eq_true rfl) rfl (fun ls hl => ?_)
          refine lv_iload hx hb dX5_median_73 (lv_at hl 5 rfl) ?_
          refine lv_iload hx hb dX5_median_75 (lv_at hl 1 rfl) ?_
          refine va_mmax hx hb (hml.trans hl.1.symm) hown (sw_w hts q_442) (sw_w hts q_443) (sw_w hts q_17) (sw_w hts q_444) (Nat.le_of_ble_eq_true rfl) (Nat.le_of_ble_eq_true rfl) (Nat.le_of_ble_eq_true rfl) (Nat.le_of_ble_eq_true rfl) dX5_median_77 ?_
          refine lv_topi (fun v12 ev12 => ?_)
          have h := h v12 ev12
          refine lv_istore (lv' := [(5, .int v12), (4, .int v11), (7, .int v8), (0, .ref (sw_ad g (sw_st i))), (1, .int a1), (3, .int r3), (6, .int x6_38)]) hx hb dX5_median_80 hl (Nat.le_of_ble_eq_true rfl) rfl (fun ls hl => ?_)
          obtain ⟨v13, ev13⟩ : ∃ z : Int32, z = x6_38 + (1 : Int32) := ⟨_, rfl⟩
          have h := h v13 ev13
          refine lv_iinc (v := v13) (lv' := [(6, .int v13), (5, .int v12), (4, .int v11), (7, .int v8), (0, .ref (sw_ad g (sw_st i))), (1, .int a1), (3, .int r3)]) hx hb dX5_median_82 hl (k := 6) rfl (by rw [ev13]; rfl) (Nat.le_of_ble_eq_true rfl) rfl (fun ls hl => ?_)
          refine lv_goto (tgt := 38) hx hb dX5_median_85 (by decide) ?_
          exact ih38 _ _ _ _ _ _ h hW (lv_sub hl [4, 5, 6, 2, 1, 0] rfl)
    · have h := h.1 k4
      refine lv_iload_n hx hb dX5_median_24 rfl (lv_at hl 0 rfl) ?_
      refine lv_iconst (v := 2) hx hb dX5_median_25 (by decide) ?_
      refine lv_idiv hx hb dX5_median_26 (by decide) ?_
      exact sw_ri hx hb hr hlocks hW rfl ⟨h, rfl⟩ dX5_median_27
  · have h := h.2 k2
    refine lv_iconst (v := -1) hx hb dX5_median_11 (by decide) ?_
    exact sw_ri hx hb hr hlocks hW rfl ⟨h, rfl⟩ dX5_median_12

def lX5_entryOf_2 (i : Nat) (a1 : Int32) (M : sM) (Q : Int32 → Prop) (K2 : Prop) : Nat → Int32 → Prop
  | 0, _ => False
  | n2 + 1, x2_2 => ((M (sw_st i) 15) < x2_2 → (K2)) ∧ (¬ (M (sw_st i) 15) < x2_2 → (vp_in (x2_2 - (1 : Int32)) 8 ∧ (((M (sw_st i + 9) ((x2_2 - (1 : Int32))).toNatClampNeg) = a1 → (Q x2_2)) ∧ (¬ (M (sw_st i + 9) ((x2_2 - (1 : Int32))).toNatClampNeg) = a1 → (∀ v4 : Int32, v4 = x2_2 + (1 : Int32) → ((fun x2_2 => lX5_entryOf_2 i a1 M Q K2 n2 x2_2) v4))))))
theorem cv_X5_entryOf : sw_cV yX5_entryOf RX5 cX5_entryOf 3 (some .int) 1 := ⟨q_472, q_473, q_3, q_474, by decide +kernel⟩
def wX5_entryOf (i : Nat) (a1 : Int32) (M : sM) (Q : Int32 → Prop) : Prop :=
  ∃ n2, lX5_entryOf_2 i a1 M Q (Q (-1 : Int32)) n2 (1 : Int32)
set_option maxRecDepth 20000 in
theorem kX5_entryOf (l : Launch) (g : sG) (i : Nat) (hi : i < 11) (a1 : Int32) (M : sM) (Q : Int32 → Prop) (h : wX5_entryOf i a1 M Q) : Met l yX5_entryOf (sw_ws yX5_entryOf cX5_entryOf 3 (some .int)) { frames := 0, cells := 0, slots := 0, locals := 0 } (va_Pc [.ref (sw_ad g (sw_st i)), .int a1] (sw_Pr g M)) (va_Qi (fun r M1 => Q r ∧ M1 = M) (sw_Po g) (sw_A g)) 0 0 (sw_A g) := by
  refine sw_met (by decide) (Nat.le_of_ble_eq_true rfl) ?_
  intro p e s m args below meth c ls hx hb hr hts hown hml hlocks hW hl
  have hown : s.vm.findClass RX5 = some m.cls := hown
  have hl : lv_has ls 3 [(0, .ref (sw_ad g (sw_st i))), (1, .int a1)] := hl
  unfold wX5_entryOf at h
  refine lv_iconst (v := 1) hx hb dX5_entryOf_0 (by decide) ?_
  refine lv_istore_n (lv' := [(2, .int (1 : Int32)), (0, .ref (sw_ad g (sw_st i))), (1, .int a1)]) hx hb dX5_entryOf_1 rfl hl (Nat.le_of_ble_eq_true rfl) rfl (fun ls hl => ?_)
  obtain ⟨n2, h⟩ := h
  refine sw_lp_i (hd := 2) (Lf := fun x2_2 => [(0, .ref (sw_ad g (sw_st i))), (1, .int a1), (2, .int x2_2)]) h hW (lv_sub hl [1, 2, 0] rfl) (fun _ h => h) (fun n2 ih2 x2_2 H locs ls h hW hl => ?_)
  rw [lX5_entryOf_2.eq_2] at h
  refine lv_iload_n hx hb dX5_entryOf_2 rfl (lv_at hl 2 rfl) ?_
  refine lv_aload_n hx hb dX5_entryOf_3 rfl (lv_at hl 0 rfl) ?_
  refine sw_gi (j := 15) hx hb hts hown hW rfl qf_5 (sw_st_lt0 hi) (sw_lay_so i) rfl (Nat.le_of_ble_eq_true rfl) q_89 dX5_entryOf_4 ?_
  refine lv_icmp_gt (tgt := 30) hx hb dX5_entryOf_7 (by decide) (fun k1 => ?_) (fun k1 => ?_)
  · have h := h.1 k1
    refine lv_iconst (v := -1) hx hb dX5_entryOf_30 (by decide) ?_
    exact sw_ri hx hb hr hlocks hW rfl ⟨h, rfl⟩ dX5_entryOf_31
  · have h := h.2 k1
    refine lv_aload_n hx hb dX5_entryOf_10 rfl (lv_at hl 0 rfl) ?_
    refine sw_gr (j := 16) (r := (sw_st i + 9)) hx hb hts hown hW rfl qf_5 (sw_st_lt0 hi) (sw_lay_so i) rfl (Nat.le_of_ble_eq_true rfl) q_91 dX5_entryOf_11 ?_
    refine lv_iload_n hx hb dX5_entryOf_14 rfl (lv_at hl 2 rfl) ?_
    refine lv_iconst (v := 1) hx hb dX5_entryOf_15 (by decide) ?_
    refine lv_isub hx hb dX5_entryOf_16 ?_
    have b2 := h.1
    have h := h.2
    refine sw_ia (n := 8) hx hb hW (sw_st_lt hi (Nat.le_of_ble_eq_true rfl)) (sw_lay_s i 9 (Nat.le_of_ble_eq_true rfl)) b2 dX5_entryOf_17 ?_
    refine lv_iload_n hx hb dX5_entryOf_18 rfl (lv_at hl 1 rfl) ?_
    refine lv_icmp_ne (tgt := 24) hx hb dX5_entryOf_19 (by decide) (fun k3 => ?_) (fun k3 => ?_)
    · have h := h.2 k3
      obtain ⟨v4, ev4⟩ : ∃ z : Int32, z = x2_2 + (1 : Int32) := ⟨_, rfl⟩
      have h := h v4 ev4
      refine lv_iinc (v := v4) (lv' := [(2, .int v4), (0, .ref (sw_ad g (sw_st i))), (1, .int a1)]) hx hb dX5_entryOf_24 hl (k := 2) rfl (by rw [ev4]; rfl) (Nat.le_of_ble_eq_true rfl) rfl (fun ls hl => ?_)
      refine lv_goto (tgt := 2) hx hb dX5_entryOf_27 (by decide) ?_
      exact ih2 _ _ _ _ h hW (lv_sub hl [1, 2, 0] rfl)
    · have h := h.1 k3
      refine lv_iload_n hx hb dX5_entryOf_22 rfl (lv_at hl 2 rfl) ?_
      exact sw_ri hx hb hr hlocks hW rfl ⟨h, rfl⟩ dX5_entryOf_23

theorem cs_X6_contains : sw_cS yX6_contains cX6_contains 2 (some .boolean) 2 := ⟨q_344, q_2, q_345, by decide +kernel⟩
def wX6_contains (a1 : Int32) (a2 : Int32) (Q : Int32 → Prop) : Prop :=
  (((a1 >>> (a2 &&& 31)) &&& (1 : Int32)) = (1 : Int32) → (Q (1 : Int32))) ∧ (¬ ((a1 >>> (a2 &&& 31)) &&& (1 : Int32)) = (1 : Int32) → (Q (0 : Int32)))
set_option maxRecDepth 20000 in
theorem kX6_contains (l : Launch) (g : sG) (a1 : Int32) (a2 : Int32) (M : sM) (Q : Int32 → Prop) (h : wX6_contains a1 a2 Q) : Met l yX6_contains (sw_ws yX6_contains cX6_contains 2 (some .boolean)) { frames := 0, cells := 0, slots := 0, locals := 0 } (va_Pc [.int a1, .int a2] (sw_Pr g M)) (va_Qi (fun r M1 => Q r ∧ M1 = M) (sw_Po g) (sw_A g)) 0 0 (sw_A g) := by
  refine sw_met (by decide) (Nat.le_of_ble_eq_true rfl) ?_
  intro p e s m args below meth c ls hx hb hr hts hown hml hlocks hW hl
  have hown : s.vm.findClass RX6 = some m.cls := hown
  have hl : lv_has ls 2 [(0, .int a1), (1, .int a2)] := hl
  unfold wX6_contains at h
  refine lv_iload_n hx hb dX6_contains_0 rfl (lv_at hl 0 rfl) ?_
  refine lv_iload_n hx hb dX6_contains_1 rfl (lv_at hl 1 rfl) ?_
  refine lv_ishr hx hb dX6_contains_2 ?_
  refine lv_iconst (v := 1) hx hb dX6_contains_3 (by decide) ?_
  refine lv_iand hx hb dX6_contains_4 ?_
  refine lv_iconst (v := 1) hx hb dX6_contains_5 (by decide) ?_
  refine lv_icmp_ne (tgt := 13) hx hb dX6_contains_6 (by decide) (fun k1 => ?_) (fun k1 => ?_)
  · have h := h.2 k1
    refine lv_iconst (v := 0) hx hb dX6_contains_13 (by decide) ?_
    exact sw_ri hx hb hr hlocks hW (by decide) ⟨h, rfl⟩ dX6_contains_14
  · have h := h.1 k1
    refine lv_iconst (v := 1) hx hb dX6_contains_9 (by decide) ?_
    refine lv_goto (tgt := 14) hx hb dX6_contains_10 (by decide) ?_
    exact sw_ri hx hb hr hlocks hW (by decide) ⟨h, rfl⟩ dX6_contains_14

theorem cv_X5_holdsDegree : sw_cV yX5_holdsDegree RX5 cX5_holdsDegree 3 (some .boolean) 1 := ⟨q_1022, q_1023, q_3, q_1024, by decide +kernel⟩
def wX5_holdsDegree (i : Nat) (a1 : Int32) (M : sM) (Q : Int32 → Prop) : Prop :=
  wX5_entryOf i a1 M (fun r1 => (r1 = (-1 : Int32) → (Q (0 : Int32))) ∧ (¬ r1 = (-1 : Int32) → (wX6_contains (M (sw_st i) 2) r1 (fun r3 => (r3 = 0 → (Q (1 : Int32))) ∧ (¬ r3 = 0 → (Q (0 : Int32)))))))
set_option maxRecDepth 20000 in
theorem kX5_holdsDegree (l : Launch) (g : sG) (i : Nat) (hi : i < 11) (a1 : Int32) (M : sM) (Q : Int32 → Prop) (h : wX5_holdsDegree i a1 M Q) : Met l yX5_holdsDegree (sw_ws yX5_holdsDegree cX5_holdsDegree 3 (some .boolean)) { frames := 1, cells := 0, slots := 0, locals := 22 } (va_Pc [.ref (sw_ad g (sw_st i)), .int a1] (sw_Pr g M)) (va_Qi (fun r M1 => Q r ∧ M1 = M) (sw_Po g) (sw_A g)) 0 0 (sw_A g) := by
  refine sw_met (by decide) (Nat.le_of_ble_eq_true rfl) ?_
  intro p e s m args below meth c ls hx hb hr hts hown hml hlocks hW hl
  have hown : s.vm.findClass RX5 = some m.cls := hown
  have hl : lv_has ls 3 [(0, .ref (sw_ad g (sw_st i))), (1, .int a1)] := hl
  unfold wX5_holdsDegree at h
  refine lv_aload_n hx hb dX5_holdsDegree_0 rfl (lv_at hl 0 rfl) ?_
  refine lv_iload_n hx hb dX5_holdsDegree_1 rfl (lv_at hl 1 rfl) ?_
  refine sw_ki (rest := []) (sw_runV (As := [.int a1]) (rest := []) hx hb hml hown hts (kX5_entryOf l g i hi a1 M _ h) cv_X5_entryOf q_471 rfl rfl ⟨(Nat.le_of_ble_eq_true rfl), (Nat.le_of_ble_eq_true rfl)⟩ hW (sw_st_lt0 hi) (sw_lay_so i) rfl rfl hl.1 rfl (Nat.le_of_ble_eq_true rfl) dX5_holdsDegree_2 ⟨(Nat.le_of_ble_eq_true rfl), (Nat.le_of_ble_eq_true rfl)⟩) hW (fun r1 M6 H locs h hW => ?_)
  obtain ⟨h, eM6⟩ := h
  rw [eM6] at hW
  refine lv_istore_n (lv' := [(2, .int r1), (0, .ref (sw_ad g (sw_st i))), (1, .int a1)]) hx hb dX5_holdsDegree_5 rfl hl (Nat.le_of_ble_eq_true rfl) rfl (fun ls hl => ?_)
  refine lv_iload_n hx hb dX5_holdsDegree_6 rfl (lv_at hl 0 rfl) ?_
  refine lv_iconst (v := -1) hx hb dX5_holdsDegree_7 (by decide) ?_
  refine lv_icmp_eq (tgt := 26) hx hb dX5_holdsDegree_8 (by decide) (fun k2 => ?_) (fun k2 => ?_)
  · have h := h.1 k2
    refine lv_iconst (v := 0) hx hb dX5_holdsDegree_26 (by decide) ?_
    exact sw_ri hx hb hr hlocks hW (by decide) ⟨h, rfl⟩ dX5_holdsDegree_27
  · have h := h.2 k2
    refine lv_aload_n hx hb dX5_holdsDegree_11 rfl (lv_at hl 1 rfl) ?_
    refine sw_gi (j := 2) hx hb hts hown hW rfl qf_5 (sw_st_lt0 hi) (sw_lay_so i) rfl (Nat.le_of_ble_eq_true rfl) q_54 dX5_holdsDegree_12 ?_
    refine lv_iload_n hx hb dX5_holdsDegree_15 rfl (lv_at hl 0 rfl) ?_
    refine sw_ki (rest := []) (sw_runN (As := [.int (M (sw_st i) 2), .int r1]) (rest := []) hx hb hml hown hts (kX6_contains l g (M (sw_st i) 2) r1 M _ h) cs_X6_contains qn_X5_78 rfl rfl ⟨(Nat.le_of_ble_eq_true rfl), (Nat.le_of_ble_eq_true rfl)⟩ hW rfl hl.1 rfl (Nat.le_of_ble_eq_true rfl) dX5_holdsDegree_16 ⟨(Nat.le_of_ble_eq_true rfl), (Nat.le_of_ble_eq_true rfl)⟩) hW (fun r3 M5 H locs h hW => ?_)
    obtain ⟨h, eM5⟩ := h
    rw [eM5] at hW
    refine lv_if_ne (tgt := 26) hx hb dX5_holdsDegree_19 (by decide) (fun k4 => ?_) (fun k4 => ?_)
    · have h := h.2 k4
      refine lv_iconst (v := 0) hx hb dX5_holdsDegree_26 (by decide) ?_
      exact sw_ri hx hb hr hlocks hW (by decide) ⟨h, rfl⟩ dX5_holdsDegree_27
    · have h := h.1 k4
      refine lv_iconst (v := 1) hx hb dX5_holdsDegree_22 (by decide) ?_
      refine lv_goto (tgt := 27) hx hb dX5_holdsDegree_23 (by decide) ?_
      exact sw_ri hx hb hr hlocks hW (by decide) ⟨h, rfl⟩ dX5_holdsDegree_27

theorem cs_J6_bitCount_0f7a4 : sw_cS yJ6_bitCount_0f7a4 cJ6_bitCount_0f7a4 1 (some .int) 1 := ⟨q_331, q_21, q_332, by decide +kernel⟩
def wJ6_bitCount_0f7a4 (a1 : Int32) (Q : Int32 → Prop) : Prop :=
  ∀ v1 : Int32, v1 = ((a1).toUInt32 >>> (((1 : Int32)).toUInt32 &&& Int32.toUInt32 31)).toInt32 → (∀ v2 : Int32, v2 = (a1 - (v1 &&& (1431655765 : Int32))) → (∀ v3 : Int32, v3 = ((v2).toUInt32 >>> (((2 : Int32)).toUInt32 &&& Int32.toUInt32 31)).toInt32 → (∀ v4 : Int32, v4 = ((v2 &&& (858993459 : Int32)) + (v3 &&& (858993459 : Int32))) → (∀ v5 : Int32, v5 = ((v4).toUInt32 >>> (((4 : Int32)).toUInt32 &&& Int32.toUInt32 31)).toInt32 → (∀ v6 : Int32, v6 = ((v4 + v5) &&& (252645135 : Int32)) → (∀ v7 : Int32, v7 = ((v6).toUInt32 >>> (((8 : Int32)).toUInt32 &&& Int32.toUInt32 31)).toInt32 → (∀ v8 : Int32, v8 = (v6 + v7) → (∀ v9 : Int32, v9 = ((v8).toUInt32 >>> (((16 : Int32)).toUInt32 &&& Int32.toUInt32 31)).toInt32 → (∀ v10 : Int32, v10 = (v8 + v9) → (Q (v10 &&& (63 : Int32))))))))))))
set_option maxRecDepth 20000 in
theorem kJ6_bitCount_0f7a4 (l : Launch) (g : sG) (a1 : Int32) (M : sM) (Q : Int32 → Prop) (h : wJ6_bitCount_0f7a4 a1 Q) : Met l yJ6_bitCount_0f7a4 (sw_ws yJ6_bitCount_0f7a4 cJ6_bitCount_0f7a4 1 (some .int)) { frames := 0, cells := 0, slots := 0, locals := 0 } (va_Pc [.int a1] (sw_Pr g M)) (va_Qi (fun r M1 => Q r ∧ M1 = M) (sw_Po g) (sw_A g)) 0 0 (sw_A g) := by
  refine sw_met (by decide) (Nat.le_of_ble_eq_true rfl) ?_
  intro p e s m args below meth c ls hx hb hr hts hown hml hlocks hW hl
  have hown : s.vm.findClass RJ6 = some m.cls := hown
  have hl : lv_has ls 1 [(0, .int a1)] := hl
  unfold wJ6_bitCount_0f7a4 at h
  refine lv_iload_n hx hb dJ6_bitCount_0f7a4_0 rfl (lv_at hl 0 rfl) ?_
  refine lv_iload_n hx hb dJ6_bitCount_0f7a4_1 rfl (lv_at hl 0 rfl) ?_
  refine lv_iconst (v := 1) hx hb dJ6_bitCount_0f7a4_2 (by decide) ?_
  refine lv_iushr hx hb dJ6_bitCount_0f7a4_3 rfl ?_
  refine lv_topi (fun v1 ev1 => ?_)
  have h := h v1 ev1
  refine lv_ldcw hx hb hown (sw_w hts q_333) dJ6_bitCount_0f7a4_4 ?_
  refine lv_iand hx hb dJ6_bitCount_0f7a4_7 ?_
  refine lv_isub hx hb dJ6_bitCount_0f7a4_8 ?_
  refine lv_topi (fun v2 ev2 => ?_)
  have h := h v2 ev2
  refine lv_istore_n (lv' := [(0, .int v2)]) hx hb dJ6_bitCount_0f7a4_9 rfl hl (Nat.le_of_ble_eq_true rfl) rfl (fun ls hl => ?_)
  refine lv_iload_n hx hb dJ6_bitCount_0f7a4_10 rfl (lv_at hl 0 rfl) ?_
  refine lv_ldcw hx hb hown (sw_w hts q_334) dJ6_bitCount_0f7a4_11 ?_
  refine lv_iand hx hb dJ6_bitCount_0f7a4_14 ?_
  refine lv_iload_n hx hb dJ6_bitCount_0f7a4_15 rfl (lv_at hl 0 rfl) ?_
  refine lv_iconst (v := 2) hx hb dJ6_bitCount_0f7a4_16 (by decide) ?_
  refine lv_iushr hx hb dJ6_bitCount_0f7a4_17 rfl ?_
  refine lv_topi (fun v3 ev3 => ?_)
  have h := h v3 ev3
  refine lv_ldcw hx hb hown (sw_w hts q_334) dJ6_bitCount_0f7a4_18 ?_
  refine lv_iand hx hb dJ6_bitCount_0f7a4_21 ?_
  refine lv_iadd hx hb dJ6_bitCount_0f7a4_22 ?_
  refine lv_topi (fun v4 ev4 => ?_)
  have h := h v4 ev4
  refine lv_istore_n (lv' := [(0, .int v4)]) hx hb dJ6_bitCount_0f7a4_23 rfl hl (Nat.le_of_ble_eq_true rfl) rfl (fun ls hl => ?_)
  refine lv_iload_n hx hb dJ6_bitCount_0f7a4_24 rfl (lv_at hl 0 rfl) ?_
  refine lv_iload_n hx hb dJ6_bitCount_0f7a4_25 rfl (lv_at hl 0 rfl) ?_
  refine lv_iconst (v := 4) hx hb dJ6_bitCount_0f7a4_26 (by decide) ?_
  refine lv_iushr hx hb dJ6_bitCount_0f7a4_27 rfl ?_
  refine lv_topi (fun v5 ev5 => ?_)
  have h := h v5 ev5
  refine lv_iadd hx hb dJ6_bitCount_0f7a4_28 ?_
  refine lv_ldcw hx hb hown (sw_w hts q_335) dJ6_bitCount_0f7a4_29 ?_
  refine lv_iand hx hb dJ6_bitCount_0f7a4_32 ?_
  refine lv_topi (fun v6 ev6 => ?_)
  have h := h v6 ev6
  refine lv_istore_n (lv' := [(0, .int v6)]) hx hb dJ6_bitCount_0f7a4_33 rfl hl (Nat.le_of_ble_eq_true rfl) rfl (fun ls hl => ?_)
  refine lv_iload_n hx hb dJ6_bitCount_0f7a4_34 rfl (lv_at hl 0 rfl) ?_
  refine lv_iload_n hx hb dJ6_bitCount_0f7a4_35 rfl (lv_at hl 0 rfl) ?_
  refine lv_bipush (v := 8) hx hb dJ6_bitCount_0f7a4_36 (by decide) ?_
  refine lv_iushr hx hb dJ6_bitCount_0f7a4_38 rfl ?_
  refine lv_topi (fun v7 ev7 => ?_)
  have h := h v7 ev7
  refine lv_iadd hx hb dJ6_bitCount_0f7a4_39 ?_
  refine lv_topi (fun v8 ev8 => ?_)
  have h := h v8 ev8
  refine lv_istore_n (lv' := [(0, .int v8)]) hx hb dJ6_bitCount_0f7a4_40 rfl hl (Nat.le_of_ble_eq_true rfl) rfl (fun ls hl => ?_)
  refine lv_iload_n hx hb dJ6_bitCount_0f7a4_41 rfl (lv_at hl 0 rfl) ?_
  refine lv_iload_n hx hb dJ6_bitCount_0f7a4_42 rfl (lv_at hl 0 rfl) ?_
  refine lv_bipush (v := 16) hx hb dJ6_bitCount_0f7a4_43 (by decide) ?_
  refine lv_iushr hx hb dJ6_bitCount_0f7a4_45 rfl ?_
  refine lv_topi (fun v9 ev9 => ?_)
  have h := h v9 ev9
  refine lv_iadd hx hb dJ6_bitCount_0f7a4_46 ?_
  refine lv_topi (fun v10 ev10 => ?_)
  have h := h v10 ev10
  refine lv_istore_n (lv' := [(0, .int v10)]) hx hb dJ6_bitCount_0f7a4_47 rfl hl (Nat.le_of_ble_eq_true rfl) rfl (fun ls hl => ?_)
  refine lv_iload_n hx hb dJ6_bitCount_0f7a4_48 rfl (lv_at hl 0 rfl) ?_
  refine lv_bipush (v := 63) hx hb dJ6_bitCount_0f7a4_49 (by decide) ?_
  refine lv_iand hx hb dJ6_bitCount_0f7a4_51 ?_
  exact sw_ri hx hb hr hlocks hW rfl ⟨h, rfl⟩ dJ6_bitCount_0f7a4_52

theorem cv_X5_loadOf : sw_cV yX5_loadOf RX5 cX5_loadOf 2 (some .int) 1 := ⟨q_327, q_328, q_3, q_329, by decide +kernel⟩
def wX5_loadOf (i : Nat) (a1 : Int32) (M : sM) (Q : Int32 → Prop) : Prop :=
  vp_in a1 6 ∧ (wJ6_bitCount_0f7a4 (M (sw_st i + 8) (a1).toNatClampNeg) (fun r2 => Q r2))
set_option maxRecDepth 20000 in
theorem kX5_loadOf (l : Launch) (g : sG) (i : Nat) (hi : i < 11) (a1 : Int32) (M : sM) (Q : Int32 → Prop) (h : wX5_loadOf i a1 M Q) : Met l yX5_loadOf (sw_ws yX5_loadOf cX5_loadOf 2 (some .int)) { frames := 1, cells := 0, slots := 0, locals := 20 } (va_Pc [.ref (sw_ad g (sw_st i)), .int a1] (sw_Pr g M)) (va_Qi (fun r M1 => Q r ∧ M1 = M) (sw_Po g) (sw_A g)) 0 0 (sw_A g) := by
  refine sw_met (by decide) (Nat.le_of_ble_eq_true rfl) ?_
  intro p e s m args below meth c ls hx hb hr hts hown hml hlocks hW hl
  have hown : s.vm.findClass RX5 = some m.cls := hown
  have hl : lv_has ls 2 [(0, .ref (sw_ad g (sw_st i))), (1, .int a1)] := hl
  unfold wX5_loadOf at h
  refine lv_aload_n hx hb dX5_loadOf_0 rfl (lv_at hl 0 rfl) ?_
  refine sw_gr (j := 12) (r := (sw_st i + 8)) hx hb hts hown hW rfl qf_5 (sw_st_lt0 hi) (sw_lay_so i) rfl (Nat.le_of_ble_eq_true rfl) q_82 dX5_loadOf_1 ?_
  refine lv_iload_n hx hb dX5_loadOf_4 rfl (lv_at hl 1 rfl) ?_
  have b1 := h.1
  have h := h.2
  refine sw_ia (n := 6) hx hb hW (sw_st_lt hi (Nat.le_of_ble_eq_true rfl)) (sw_lay_s i 8 (Nat.le_of_ble_eq_true rfl)) b1 dX5_loadOf_5 ?_
  refine sw_ki (rest := []) (sw_runS (As := [.int (M (sw_st i + 8) (a1).toNatClampNeg)]) (rest := []) hx hb hml hown hts (kJ6_bitCount_0f7a4 l g (M (sw_st i + 8) (a1).toNatClampNeg) M _ h) cs_J6_bitCount_0f7a4 q_330 rfl rfl ⟨(Nat.le_of_ble_eq_true rfl), (Nat.le_of_ble_eq_true rfl)⟩ hW rfl hl.1 rfl (Nat.le_of_ble_eq_true rfl) dX5_loadOf_6 ⟨(Nat.le_of_ble_eq_true rfl), (Nat.le_of_ble_eq_true rfl)⟩) hW (fun r2 M3 H locs h hW => ?_)
  obtain ⟨h, eM3⟩ := h
  rw [eM3] at hW
  exact sw_ri hx hb hr hlocks hW rfl ⟨h, rfl⟩ dX5_loadOf_9

theorem cv_X5_hasExaminer : sw_cV yX5_hasExaminer RX5 cX5_hasExaminer 2 (some .boolean) 1 := ⟨q_307, q_308, q_3, q_309, by decide +kernel⟩
def wX5_hasExaminer (i : Nat) (a1 : Int32) (M : sM) (Q : Int32 → Prop) : Prop :=
  (a1 < 0 → (Q (0 : Int32))) ∧ (¬ a1 < 0 → (((M (sw_st i) 6) ≤ a1 → (Q (0 : Int32))) ∧ (¬ (M (sw_st i) 6) ≤ a1 → (Q (1 : Int32)))))
set_option maxRecDepth 20000 in
theorem kX5_hasExaminer (l : Launch) (g : sG) (i : Nat) (hi : i < 11) (a1 : Int32) (M : sM) (Q : Int32 → Prop) (h : wX5_hasExaminer i a1 M Q) : Met l yX5_hasExaminer (sw_ws yX5_hasExaminer cX5_hasExaminer 2 (some .boolean)) { frames := 0, cells := 0, slots := 0, locals := 0 } (va_Pc [.ref (sw_ad g (sw_st i)), .int a1] (sw_Pr g M)) (va_Qi (fun r M1 => Q r ∧ M1 = M) (sw_Po g) (sw_A g)) 0 0 (sw_A g) := by
  refine sw_met (by decide) (Nat.le_of_ble_eq_true rfl) ?_
  intro p e s m args below meth c ls hx hb hr hts hown hml hlocks hW hl
  have hown : s.vm.findClass RX5 = some m.cls := hown
  have hl : lv_has ls 2 [(0, .ref (sw_ad g (sw_st i))), (1, .int a1)] := hl
  unfold wX5_hasExaminer at h
  refine lv_iload_n hx hb dX5_hasExaminer_0 rfl (lv_at hl 1 rfl) ?_
  refine lv_if_lt (tgt := 16) hx hb dX5_hasExaminer_1 (by decide) (fun k1 => ?_) (fun k1 => ?_)
  · have h := h.1 k1
    refine lv_iconst (v := 0) hx hb dX5_hasExaminer_16 (by decide) ?_
    exact sw_ri hx hb hr hlocks hW (by decide) ⟨h, rfl⟩ dX5_hasExaminer_17
  · have h := h.2 k1
    refine lv_iload_n hx hb dX5_hasExaminer_4 rfl (lv_at hl 1 rfl) ?_
    refine lv_aload_n hx hb dX5_hasExaminer_5 rfl (lv_at hl 0 rfl) ?_
    refine sw_gi (j := 6) hx hb hts hown hW rfl qf_5 (sw_st_lt0 hi) (sw_lay_so i) rfl (Nat.le_of_ble_eq_true rfl) q_65 dX5_hasExaminer_6 ?_
    refine lv_icmp_ge (tgt := 16) hx hb dX5_hasExaminer_9 (by decide) (fun k2 => ?_) (fun k2 => ?_)
    · have h := h.1 k2
      refine lv_iconst (v := 0) hx hb dX5_hasExaminer_16 (by decide) ?_
      exact sw_ri hx hb hr hlocks hW (by decide) ⟨h, rfl⟩ dX5_hasExaminer_17
    · have h := h.2 k2
      refine lv_iconst (v := 1) hx hb dX5_hasExaminer_12 (by decide) ?_
      refine lv_goto (tgt := 17) hx hb dX5_hasExaminer_13 (by decide) ?_
      exact sw_ri hx hb hr hlocks hW (by decide) ⟨h, rfl⟩ dX5_hasExaminer_17

theorem cv_X5_neutral : sw_cV yX5_neutral RX5 cX5_neutral 3 (some .boolean) 2 := ⟨q_341, q_342, q_3, q_343, by decide +kernel⟩
def wX5_neutral (i : Nat) (a1 : Int32) (a2 : Int32) (M : sM) (Q : Int32 → Prop) : Prop :=
  vp_in a1 6 ∧ (vp_in a2 8 ∧ (((M (sw_st i + 3) (a1).toNatClampNeg) = (M (sw_st i + 1) (a2).toNatClampNeg) → (Q (0 : Int32))) ∧ (¬ (M (sw_st i + 3) (a1).toNatClampNeg) = (M (sw_st i + 1) (a2).toNatClampNeg) → (vp_in a1 6 ∧ ((((M (sw_st i + 7) (a1).toNatClampNeg) &&& ((1 : Int32) <<< (a2 &&& 31))) = 0 → (Q (1 : Int32))) ∧ (¬ ((M (sw_st i + 7) (a1).toNatClampNeg) &&& ((1 : Int32) <<< (a2 &&& 31))) = 0 → (Q (0 : Int32))))))))
set_option maxRecDepth 20000 in
theorem kX5_neutral (l : Launch) (g : sG) (i : Nat) (hi : i < 11) (a1 : Int32) (a2 : Int32) (M : sM) (Q : Int32 → Prop) (h : wX5_neutral i a1 a2 M Q) : Met l yX5_neutral (sw_ws yX5_neutral cX5_neutral 3 (some .boolean)) { frames := 0, cells := 0, slots := 0, locals := 0 } (va_Pc [.ref (sw_ad g (sw_st i)), .int a1, .int a2] (sw_Pr g M)) (va_Qi (fun r M1 => Q r ∧ M1 = M) (sw_Po g) (sw_A g)) 0 0 (sw_A g) := by
  refine sw_met (by decide) (Nat.le_of_ble_eq_true rfl) ?_
  intro p e s m args below meth c ls hx hb hr hts hown hml hlocks hW hl
  have hown : s.vm.findClass RX5 = some m.cls := hown
  have hl : lv_has ls 3 [(0, .ref (sw_ad g (sw_st i))), (1, .int a1), (2, .int a2)] := hl
  unfold wX5_neutral at h
  refine lv_aload_n hx hb dX5_neutral_0 rfl (lv_at hl 0 rfl) ?_
  refine sw_gr (j := 7) (r := (sw_st i + 3)) hx hb hts hown hW rfl qf_5 (sw_st_lt0 hi) (sw_lay_so i) rfl (Nat.le_of_ble_eq_true rfl) q_70 dX5_neutral_1 ?_
  refine lv_iload_n hx hb dX5_neutral_4 rfl (lv_at hl 1 rfl) ?_
  have b1 := h.1
  have h := h.2
  refine sw_ca (n := 6) hx hb hW (sw_st_lt hi (Nat.le_of_ble_eq_true rfl)) (sw_lay_s i 3 (Nat.le_of_ble_eq_true rfl)) b1 dX5_neutral_5 ?_
  refine lv_aload_n hx hb dX5_neutral_6 rfl (lv_at hl 0 rfl) ?_
  refine sw_gr (j := 4) (r := (sw_st i + 1)) hx hb hts hown hW rfl qf_5 (sw_st_lt0 hi) (sw_lay_so i) rfl (Nat.le_of_ble_eq_true rfl) q_59 dX5_neutral_7 ?_
  refine lv_iload_n hx hb dX5_neutral_10 rfl (lv_at hl 2 rfl) ?_
  have b2 := h.1
  have h := h.2
  refine sw_ca (n := 8) hx hb hW (sw_st_lt hi (Nat.le_of_ble_eq_true rfl)) (sw_lay_s i 1 (Nat.le_of_ble_eq_true rfl)) b2 dX5_neutral_11 ?_
  refine lv_icmp_eq (tgt := 32) hx hb dX5_neutral_12 (by decide) (fun k3 => ?_) (fun k3 => ?_)
  · have h := h.1 k3
    refine lv_iconst (v := 0) hx hb dX5_neutral_32 (by decide) ?_
    exact sw_ri hx hb hr hlocks hW (by decide) ⟨h, rfl⟩ dX5_neutral_33
  · have h := h.2 k3
    refine lv_aload_n hx hb dX5_neutral_15 rfl (lv_at hl 0 rfl) ?_
    refine sw_gr (j := 11) (r := (sw_st i + 7)) hx hb hts hown hW rfl qf_5 (sw_st_lt0 hi) (sw_lay_so i) rfl (Nat.le_of_ble_eq_true rfl) q_81 dX5_neutral_16 ?_
    refine lv_iload_n hx hb dX5_neutral_19 rfl (lv_at hl 1 rfl) ?_
    have b4 := h.1
    have h := h.2
    refine sw_ia (n := 6) hx hb hW (sw_st_lt hi (Nat.le_of_ble_eq_true rfl)) (sw_lay_s i 7 (Nat.le_of_ble_eq_true rfl)) b4 dX5_neutral_20 ?_
    refine lv_iconst (v := 1) hx hb dX5_neutral_21 (by decide) ?_
    refine lv_iload_n hx hb dX5_neutral_22 rfl (lv_at hl 2 rfl) ?_
    refine lv_ishl hx hb dX5_neutral_23 ?_
    refine lv_iand hx hb dX5_neutral_24 ?_
    refine lv_if_ne (tgt := 32) hx hb dX5_neutral_25 (by decide) (fun k5 => ?_) (fun k5 => ?_)
    · have h := h.2 k5
      refine lv_iconst (v := 0) hx hb dX5_neutral_32 (by decide) ?_
      exact sw_ri hx hb hr hlocks hW (by decide) ⟨h, rfl⟩ dX5_neutral_33
    · have h := h.1 k5
      refine lv_iconst (v := 1) hx hb dX5_neutral_28 (by decide) ?_
      refine lv_goto (tgt := 33) hx hb dX5_neutral_29 (by decide) ?_
      exact sw_ri hx hb hr hlocks hW (by decide) ⟨h, rfl⟩ dX5_neutral_33

theorem cv_X5_hasDoor : sw_cV yX5_hasDoor RX5 cX5_hasDoor 2 (some .boolean) 1 := ⟨q_311, q_312, q_3, q_313, by decide +kernel⟩
def wX5_hasDoor (i : Nat) (a1 : Int32) (M : sM) (Q : Int32 → Prop) : Prop :=
  (a1 < 0 → (Q (0 : Int32))) ∧ (¬ a1 < 0 → (((M (sw_st i) 3) ≤ a1 → (Q (0 : Int32))) ∧ (¬ (M (sw_st i) 3) ≤ a1 → (Q (1 : Int32)))))
set_option maxRecDepth 20000 in
theorem kX5_hasDoor (l : Launch) (g : sG) (i : Nat) (hi : i < 11) (a1 : Int32) (M : sM) (Q : Int32 → Prop) (h : wX5_hasDoor i a1 M Q) : Met l yX5_hasDoor (sw_ws yX5_hasDoor cX5_hasDoor 2 (some .boolean)) { frames := 0, cells := 0, slots := 0, locals := 0 } (va_Pc [.ref (sw_ad g (sw_st i)), .int a1] (sw_Pr g M)) (va_Qi (fun r M1 => Q r ∧ M1 = M) (sw_Po g) (sw_A g)) 0 0 (sw_A g) := by
  refine sw_met (by decide) (Nat.le_of_ble_eq_true rfl) ?_
  intro p e s m args below meth c ls hx hb hr hts hown hml hlocks hW hl
  have hown : s.vm.findClass RX5 = some m.cls := hown
  have hl : lv_has ls 2 [(0, .ref (sw_ad g (sw_st i))), (1, .int a1)] := hl
  unfold wX5_hasDoor at h
  refine lv_iload_n hx hb dX5_hasDoor_0 rfl (lv_at hl 1 rfl) ?_
  refine lv_if_lt (tgt := 16) hx hb dX5_hasDoor_1 (by decide) (fun k1 => ?_) (fun k1 => ?_)
  · have h := h.1 k1
    refine lv_iconst (v := 0) hx hb dX5_hasDoor_16 (by decide) ?_
    exact sw_ri hx hb hr hlocks hW (by decide) ⟨h, rfl⟩ dX5_hasDoor_17
  · have h := h.2 k1
    refine lv_iload_n hx hb dX5_hasDoor_4 rfl (lv_at hl 1 rfl) ?_
    refine lv_aload_n hx hb dX5_hasDoor_5 rfl (lv_at hl 0 rfl) ?_
    refine sw_gi (j := 3) hx hb hts hown hW rfl qf_5 (sw_st_lt0 hi) (sw_lay_so i) rfl (Nat.le_of_ble_eq_true rfl) q_56 dX5_hasDoor_6 ?_
    refine lv_icmp_ge (tgt := 16) hx hb dX5_hasDoor_9 (by decide) (fun k2 => ?_) (fun k2 => ?_)
    · have h := h.1 k2
      refine lv_iconst (v := 0) hx hb dX5_hasDoor_16 (by decide) ?_
      exact sw_ri hx hb hr hlocks hW (by decide) ⟨h, rfl⟩ dX5_hasDoor_17
    · have h := h.2 k2
      refine lv_iconst (v := 1) hx hb dX5_hasDoor_12 (by decide) ?_
      refine lv_goto (tgt := 17) hx hb dX5_hasDoor_13 (by decide) ?_
      exact sw_ri hx hb hr hlocks hW (by decide) ⟨h, rfl⟩ dX5_hasDoor_17

theorem cv_X5_freeCapacity : sw_cV yX5_freeCapacity RX5 cX5_freeCapacity 2 (some .int) 1 := ⟨q_323, q_324, q_3, q_325, by decide +kernel⟩
def wX5_freeCapacity (i : Nat) (a1 : Int32) (M : sM) (Q : Int32 → Prop) : Prop :=
  vp_in a1 6 ∧ (wX5_loadOf i a1 M (fun r2 => Q ((M (sw_st i + 5) (a1).toNatClampNeg) - r2)))
set_option maxRecDepth 20000 in
theorem kX5_freeCapacity (l : Launch) (g : sG) (i : Nat) (hi : i < 11) (a1 : Int32) (M : sM) (Q : Int32 → Prop) (h : wX5_freeCapacity i a1 M Q) : Met l yX5_freeCapacity (sw_ws yX5_freeCapacity cX5_freeCapacity 2 (some .int)) { frames := 2, cells := 0, slots := 0, locals := 41 } (va_Pc [.ref (sw_ad g (sw_st i)), .int a1] (sw_Pr g M)) (va_Qi (fun r M1 => Q r ∧ M1 = M) (sw_Po g) (sw_A g)) 0 0 (sw_A g) := by
  refine sw_met (by decide) (Nat.le_of_ble_eq_true rfl) ?_
  intro p e s m args below meth c ls hx hb hr hts hown hml hlocks hW hl
  have hown : s.vm.findClass RX5 = some m.cls := hown
  have hl : lv_has ls 2 [(0, .ref (sw_ad g (sw_st i))), (1, .int a1)] := hl
  unfold wX5_freeCapacity at h
  refine lv_aload_n hx hb dX5_freeCapacity_0 rfl (lv_at hl 0 rfl) ?_
  refine sw_gr (j := 9) (r := (sw_st i + 5)) hx hb hts hown hW rfl qf_5 (sw_st_lt0 hi) (sw_lay_so i) rfl (Nat.le_of_ble_eq_true rfl) q_76 dX5_freeCapacity_1 ?_
  refine lv_iload_n hx hb dX5_freeCapacity_4 rfl (lv_at hl 1 rfl) ?_
  have b1 := h.1
  have h := h.2
  refine sw_ia (n := 6) hx hb hW (sw_st_lt hi (Nat.le_of_ble_eq_true rfl)) (sw_lay_s i 5 (Nat.le_of_ble_eq_true rfl)) b1 dX5_freeCapacity_5 ?_
  refine lv_aload_n hx hb dX5_freeCapacity_6 rfl (lv_at hl 0 rfl) ?_
  refine lv_iload_n hx hb dX5_freeCapacity_7 rfl (lv_at hl 1 rfl) ?_
  refine sw_ki (rest := [.int (M (sw_st i + 5) (a1).toNatClampNeg)]) (sw_runV (As := [.int a1]) (rest := [.int (M (sw_st i + 5) (a1).toNatClampNeg)]) hx hb hml hown hts (kX5_loadOf l g i hi a1 M _ h) cv_X5_loadOf q_326 rfl rfl ⟨(Nat.le_of_ble_eq_true rfl), (Nat.le_of_ble_eq_true rfl)⟩ hW (sw_st_lt0 hi) (sw_lay_so i) rfl rfl hl.1 rfl (Nat.le_of_ble_eq_true rfl) dX5_freeCapacity_8 ⟨(Nat.le_of_ble_eq_true rfl), (Nat.le_of_ble_eq_true rfl)⟩) hW (fun r2 M3 H locs h hW => ?_)
  obtain ⟨h, eM3⟩ := h
  rw [eM3] at hW
  refine lv_isub hx hb dX5_freeCapacity_11 ?_
  exact sw_ri hx hb hr hlocks hW rfl ⟨h, rfl⟩ dX5_freeCapacity_12

def lX5_assignedCount_4 (i : Nat) (a1 : Int32) (M : sM) (K4 : Int32 → Prop) : Nat → Int32 → Int32 → Prop
  | 0, _, _ => False
  | n4 + 1, x2_4, x3_4 => ((M (sw_st i) 6) ≤ x3_4 → (K4 x2_4)) ∧ (¬ (M (sw_st i) 6) ≤ x3_4 → (wX5_assigned i x3_4 a1 M (fun r2 => (r2 = 0 → (∀ v4 : Int32, v4 = x3_4 + (1 : Int32) → ((fun x2_4 x3_4 => lX5_assignedCount_4 i a1 M K4 n4 x2_4 x3_4) x2_4 v4))) ∧ (¬ r2 = 0 → (∀ v5 : Int32, v5 = x2_4 + (1 : Int32) → (∀ v6 : Int32, v6 = x3_4 + (1 : Int32) → ((fun x2_4 x3_4 => lX5_assignedCount_4 i a1 M K4 n4 x2_4 x3_4) v5 v6)))))))
theorem cv_X5_assignedCount : sw_cV yX5_assignedCount RX5 cX5_assignedCount 4 (some .int) 1 := ⟨q_319, q_320, q_3, q_321, by decide +kernel⟩
def wX5_assignedCount (i : Nat) (a1 : Int32) (M : sM) (Q : Int32 → Prop) : Prop :=
  ∃ n4, lX5_assignedCount_4 i a1 M (fun x2_4k => Q x2_4k) n4 (0 : Int32) (0 : Int32)
set_option maxRecDepth 20000 in
theorem kX5_assignedCount (l : Launch) (g : sG) (i : Nat) (hi : i < 11) (a1 : Int32) (M : sM) (Q : Int32 → Prop) (h : wX5_assignedCount i a1 M Q) : Met l yX5_assignedCount (sw_ws yX5_assignedCount cX5_assignedCount 4 (some .int)) { frames := 1, cells := 0, slots := 0, locals := 22 } (va_Pc [.ref (sw_ad g (sw_st i)), .int a1] (sw_Pr g M)) (va_Qi (fun r M1 => Q r ∧ M1 = M) (sw_Po g) (sw_A g)) 0 0 (sw_A g) := by
  refine sw_met (by decide) (Nat.le_of_ble_eq_true rfl) ?_
  intro p e s m args below meth c ls hx hb hr hts hown hml hlocks hW hl
  have hown : s.vm.findClass RX5 = some m.cls := hown
  have hl : lv_has ls 4 [(0, .ref (sw_ad g (sw_st i))), (1, .int a1)] := hl
  unfold wX5_assignedCount at h
  refine lv_iconst (v := 0) hx hb dX5_assignedCount_0 (by decide) ?_
  refine lv_istore_n (lv' := [(2, .int (0 : Int32)), (0, .ref (sw_ad g (sw_st i))), (1, .int a1)]) hx hb dX5_assignedCount_1 rfl hl (Nat.le_of_ble_eq_true rfl) rfl (fun ls hl => ?_)
  refine lv_iconst (v := 0) hx hb dX5_assignedCount_2 (by decide) ?_
  refine lv_istore_n (lv' := [(3, .int (0 : Int32)), (2, .int (0 : Int32)), (0, .ref (sw_ad g (sw_st i))), (1, .int a1)]) hx hb dX5_assignedCount_3 rfl hl (Nat.le_of_ble_eq_true rfl) rfl (fun ls hl => ?_)
  obtain ⟨n4, h⟩ := h
  refine sw_lp_ii (hd := 4) (Lf := fun x2_4 x3_4 => [(0, .ref (sw_ad g (sw_st i))), (1, .int a1), (2, .int x2_4), (3, .int x3_4)]) h hW (lv_sub hl [2, 3, 1, 0] rfl) (fun _ _ h => h) (fun n4 ih4 x2_4 x3_4 H locs ls h hW hl => ?_)
  rw [lX5_assignedCount_4.eq_2] at h
  refine lv_iload_n hx hb dX5_assignedCount_4 rfl (lv_at hl 3 rfl) ?_
  refine lv_aload_n hx hb dX5_assignedCount_5 rfl (lv_at hl 0 rfl) ?_
  refine sw_gi (j := 6) hx hb hts hown hW rfl qf_5 (sw_st_lt0 hi) (sw_lay_so i) rfl (Nat.le_of_ble_eq_true rfl) q_65 dX5_assignedCount_6 ?_
  refine lv_icmp_ge (tgt := 30) hx hb dX5_assignedCount_9 (by decide) (fun k1 => ?_) (fun k1 => ?_)
  · have h := h.1 k1
    refine lv_iload_n hx hb dX5_assignedCount_30 rfl (lv_at hl 2 rfl) ?_
    exact sw_ri hx hb hr hlocks hW rfl ⟨h, rfl⟩ dX5_assignedCount_31
  · have h := h.2 k1
    refine lv_aload_n hx hb dX5_assignedCount_12 rfl (lv_at hl 0 rfl) ?_
    refine lv_iload_n hx hb dX5_assignedCount_13 rfl (lv_at hl 3 rfl) ?_
    refine lv_iload_n hx hb dX5_assignedCount_14 rfl (lv_at hl 1 rfl) ?_
    refine sw_ki (rest := []) (sw_runV (As := [.int x3_4, .int a1]) (rest := []) hx hb hml hown hts (kX5_assigned l g i hi x3_4 a1 M _ h) cv_X5_assigned q_314 rfl rfl ⟨(Nat.le_of_ble_eq_true rfl), (Nat.le_of_ble_eq_true rfl)⟩ hW (sw_st_lt0 hi) (sw_lay_so i) rfl rfl hl.1 rfl (Nat.le_of_ble_eq_true rfl) dX5_assignedCount_15 ⟨(Nat.le_of_ble_eq_true rfl), (Nat.le_of_ble_eq_true rfl)⟩) hW (fun r2 M7 H locs h hW => ?_)
    obtain ⟨h, eM7⟩ := h
    rw [eM7] at hW
    refine lv_if_eq (tgt := 24) hx hb dX5_assignedCount_18 (by decide) (fun k3 => ?_) (fun k3 => ?_)
    · have h := h.1 k3
      obtain ⟨v4, ev4⟩ : ∃ z : Int32, z = x3_4 + (1 : Int32) := ⟨_, rfl⟩
      have h := h v4 ev4
      refine lv_iinc (v := v4) (lv' := [(3, .int v4), (0, .ref (sw_ad g (sw_st i))), (1, .int a1), (2, .int x2_4)]) hx hb dX5_assignedCount_24 hl (k := 3) rfl (by rw [ev4]; rfl) (Nat.le_of_ble_eq_true rfl) rfl (fun ls hl => ?_)
      refine lv_goto (tgt := 4) hx hb dX5_assignedCount_27 (by decide) ?_
      exact ih4 _ _ _ _ _ h hW (lv_sub hl [1, 2, 3, 0] rfl)
    · have h := h.2 k3
      obtain ⟨v5, ev5⟩ : ∃ z : Int32, z = x2_4 + (1 : Int32) := ⟨_, rfl⟩
      have h := h v5 ev5
      refine lv_iinc (v := v5) (lv' := [(2, .int v5), (0, .ref (sw_ad g (sw_st i))), (1, .int a1), (3, .int x3_4)]) hx hb dX5_assignedCount_21 hl (k := 2) rfl (by rw [ev5]; rfl) (Nat.le_of_ble_eq_true rfl) rfl (fun ls hl => ?_)
      obtain ⟨v6, ev6⟩ : ∃ z : Int32, z = x3_4 + (1 : Int32) := ⟨_, rfl⟩
      have h := h v6 ev6
      refine lv_iinc (v := v6) (lv' := [(3, .int v6), (2, .int v5), (0, .ref (sw_ad g (sw_st i))), (1, .int a1)]) hx hb dX5_assignedCount_24 hl (k := 3) rfl (by rw [ev6]; rfl) (Nat.le_of_ble_eq_true rfl) rfl (fun ls hl => ?_)
      refine lv_goto (tgt := 4) hx hb dX5_assignedCount_27 (by decide) ?_
      exact ih4 _ _ _ _ _ h hW (lv_sub hl [2, 3, 1, 0] rfl)

theorem cv_X5_canJudge : sw_cV yX5_canJudge RX5 cX5_canJudge 3 (some .boolean) 2 := ⟨q_337, q_338, q_3, q_339, by decide +kernel⟩
def wX5_canJudge (i : Nat) (a1 : Int32) (a2 : Int32) (M : sM) (Q : Int32 → Prop) : Prop :=
  wX5_neutral i a1 a2 M (fun r1 => (r1 = 0 → (Q (0 : Int32))) ∧ (¬ r1 = 0 → (vp_in a1 6 ∧ (vp_in a2 8 ∧ (wX6_contains (M (sw_st i + 4) (a1).toNatClampNeg) (M (sw_st i + 2) (a2).toNatClampNeg) (fun r5 => (r5 = 0 → (Q (0 : Int32))) ∧ (¬ r5 = 0 → (Q (1 : Int32)))))))))
set_option maxRecDepth 20000 in
theorem kX5_canJudge (l : Launch) (g : sG) (i : Nat) (hi : i < 11) (a1 : Int32) (a2 : Int32) (M : sM) (Q : Int32 → Prop) (h : wX5_canJudge i a1 a2 M Q) : Met l yX5_canJudge (sw_ws yX5_canJudge cX5_canJudge 3 (some .boolean)) { frames := 1, cells := 0, slots := 0, locals := 22 } (va_Pc [.ref (sw_ad g (sw_st i)), .int a1, .int a2] (sw_Pr g M)) (va_Qi (fun r M1 => Q r ∧ M1 = M) (sw_Po g) (sw_A g)) 0 0 (sw_A g) := by
  refine sw_met (by decide) (Nat.le_of_ble_eq_true rfl) ?_
  intro p e s m args below meth c ls hx hb hr hts hown hml hlocks hW hl
  have hown : s.vm.findClass RX5 = some m.cls := hown
  have hl : lv_has ls 3 [(0, .ref (sw_ad g (sw_st i))), (1, .int a1), (2, .int a2)] := hl
  unfold wX5_canJudge at h
  refine lv_aload_n hx hb dX5_canJudge_0 rfl (lv_at hl 0 rfl) ?_
  refine lv_iload_n hx hb dX5_canJudge_1 rfl (lv_at hl 1 rfl) ?_
  refine lv_iload_n hx hb dX5_canJudge_2 rfl (lv_at hl 2 rfl) ?_
  refine sw_ki (rest := []) (sw_runV (As := [.int a1, .int a2]) (rest := []) hx hb hml hown hts (kX5_neutral l g i hi a1 a2 M _ h) cv_X5_neutral q_340 rfl rfl ⟨(Nat.le_of_ble_eq_true rfl), (Nat.le_of_ble_eq_true rfl)⟩ hW (sw_st_lt0 hi) (sw_lay_so i) rfl rfl hl.1 rfl (Nat.le_of_ble_eq_true rfl) dX5_canJudge_3 ⟨(Nat.le_of_ble_eq_true rfl), (Nat.le_of_ble_eq_true rfl)⟩) hW (fun r1 M8 H locs h hW => ?_)
  obtain ⟨h, eM8⟩ := h
  rw [eM8] at hW
  refine lv_if_eq (tgt := 31) hx hb dX5_canJudge_6 (by decide) (fun k2 => ?_) (fun k2 => ?_)
  · have h := h.1 k2
    refine lv_iconst (v := 0) hx hb dX5_canJudge_31 (by decide) ?_
    exact sw_ri hx hb hr hlocks hW (by decide) ⟨h, rfl⟩ dX5_canJudge_32
  · have h := h.2 k2
    refine lv_aload_n hx hb dX5_canJudge_9 rfl (lv_at hl 0 rfl) ?_
    refine sw_gr (j := 8) (r := (sw_st i + 4)) hx hb hts hown hW rfl qf_5 (sw_st_lt0 hi) (sw_lay_so i) rfl (Nat.le_of_ble_eq_true rfl) q_74 dX5_canJudge_10 ?_
    refine lv_iload_n hx hb dX5_canJudge_13 rfl (lv_at hl 1 rfl) ?_
    have b3 := h.1
    have h := h.2
    refine sw_ia (n := 6) hx hb hW (sw_st_lt hi (Nat.le_of_ble_eq_true rfl)) (sw_lay_s i 4 (Nat.le_of_ble_eq_true rfl)) b3 dX5_canJudge_14 ?_
    refine lv_aload_n hx hb dX5_canJudge_15 rfl (lv_at hl 0 rfl) ?_
    refine sw_gr (j := 5) (r := (sw_st i + 2)) hx hb hts hown hW rfl qf_5 (sw_st_lt0 hi) (sw_lay_so i) rfl (Nat.le_of_ble_eq_true rfl) q_62 dX5_canJudge_16 ?_
    refine lv_iload_n hx hb dX5_canJudge_19 rfl (lv_at hl 2 rfl) ?_
    have b4 := h.1
    have h := h.2
    refine sw_ia (n := 8) hx hb hW (sw_st_lt hi (Nat.le_of_ble_eq_true rfl)) (sw_lay_s i 2 (Nat.le_of_ble_eq_true rfl)) b4 dX5_canJudge_20 ?_
    refine sw_ki (rest := []) (sw_runN (As := [.int (M (sw_st i + 4) (a1).toNatClampNeg), .int (M (sw_st i + 2) (a2).toNatClampNeg)]) (rest := []) hx hb hml hown hts (kX6_contains l g (M (sw_st i + 4) (a1).toNatClampNeg) (M (sw_st i + 2) (a2).toNatClampNeg) M _ h) cs_X6_contains qn_X5_78 rfl rfl ⟨(Nat.le_of_ble_eq_true rfl), (Nat.le_of_ble_eq_true rfl)⟩ hW rfl hl.1 rfl (Nat.le_of_ble_eq_true rfl) dX5_canJudge_21 ⟨(Nat.le_of_ble_eq_true rfl), (Nat.le_of_ble_eq_true rfl)⟩) hW (fun r5 M7 H locs h hW => ?_)
    obtain ⟨h, eM7⟩ := h
    rw [eM7] at hW
    refine lv_if_eq (tgt := 31) hx hb dX5_canJudge_24 (by decide) (fun k6 => ?_) (fun k6 => ?_)
    · have h := h.1 k6
      refine lv_iconst (v := 0) hx hb dX5_canJudge_31 (by decide) ?_
      exact sw_ri hx hb hr hlocks hW (by decide) ⟨h, rfl⟩ dX5_canJudge_32
    · have h := h.2 k6
      refine lv_iconst (v := 1) hx hb dX5_canJudge_27 (by decide) ?_
      refine lv_goto (tgt := 32) hx hb dX5_canJudge_28 (by decide) ?_
      exact sw_ri hx hb hr hlocks hW (by decide) ⟨h, rfl⟩ dX5_canJudge_32

theorem cs_X6_isFrame : sw_cS yX6_isFrame cX6_isFrame 1 (some .boolean) 1 := ⟨q_184, q_2, q_185, by decide +kernel⟩
def wX6_isFrame (a1 : Int32) (Q : Int32 → Prop) : Prop :=
  (a1 < (97 : Int32) → (Q (0 : Int32))) ∧ (¬ a1 < (97 : Int32) → (((102 : Int32) < a1 → (Q (0 : Int32))) ∧ (¬ (102 : Int32) < a1 → (Q (1 : Int32)))))
set_option maxRecDepth 20000 in
theorem kX6_isFrame (l : Launch) (g : sG) (a1 : Int32) (M : sM) (Q : Int32 → Prop) (h : wX6_isFrame a1 Q) : Met l yX6_isFrame (sw_ws yX6_isFrame cX6_isFrame 1 (some .boolean)) { frames := 0, cells := 0, slots := 0, locals := 0 } (va_Pc [.int a1] (sw_Pr g M)) (va_Qi (fun r M1 => Q r ∧ M1 = M) (sw_Po g) (sw_A g)) 0 0 (sw_A g) := by
  refine sw_met (by decide) (Nat.le_of_ble_eq_true rfl) ?_
  intro p e s m args below meth c ls hx hb hr hts hown hml hlocks hW hl
  have hown : s.vm.findClass RX6 = some m.cls := hown
  have hl : lv_has ls 1 [(0, .int a1)] := hl
  unfold wX6_isFrame at h
  refine lv_iload_n hx hb dX6_isFrame_0 rfl (lv_at hl 0 rfl) ?_
  refine lv_bipush (v := 97) hx hb dX6_isFrame_1 (by decide) ?_
  refine lv_icmp_lt (tgt := 16) hx hb dX6_isFrame_3 (by decide) (fun k1 => ?_) (fun k1 => ?_)
  · have h := h.1 k1
    refine lv_iconst (v := 0) hx hb dX6_isFrame_16 (by decide) ?_
    exact sw_ri hx hb hr hlocks hW (by decide) ⟨h, rfl⟩ dX6_isFrame_17
  · have h := h.2 k1
    refine lv_iload_n hx hb dX6_isFrame_6 rfl (lv_at hl 0 rfl) ?_
    refine lv_bipush (v := 102) hx hb dX6_isFrame_7 (by decide) ?_
    refine lv_icmp_gt (tgt := 16) hx hb dX6_isFrame_9 (by decide) (fun k2 => ?_) (fun k2 => ?_)
    · have h := h.1 k2
      refine lv_iconst (v := 0) hx hb dX6_isFrame_16 (by decide) ?_
      exact sw_ri hx hb hr hlocks hW (by decide) ⟨h, rfl⟩ dX6_isFrame_17
    · have h := h.2 k2
      refine lv_iconst (v := 1) hx hb dX6_isFrame_12 (by decide) ?_
      refine lv_goto (tgt := 17) hx hb dX6_isFrame_13 (by decide) ?_
      exact sw_ri hx hb hr hlocks hW (by decide) ⟨h, rfl⟩ dX6_isFrame_17

theorem cv_X5_hasPair : sw_cV yX5_hasPair RX5 cX5_hasPair 3 (some .boolean) 2 := ⟨q_303, q_304, q_3, q_305, by decide +kernel⟩
def wX5_hasPair (i : Nat) (a1 : Int32) (a2 : Int32) (M : sM) (Q : Int32 → Prop) : Prop :=
  wX5_hasExaminer i a1 M (fun r1 => (r1 = 0 → (Q (0 : Int32))) ∧ (¬ r1 = 0 → (wX5_hasDoor i a2 M (fun r3 => (r3 = 0 → (Q (0 : Int32))) ∧ (¬ r3 = 0 → (Q (1 : Int32)))))))
set_option maxRecDepth 20000 in
theorem kX5_hasPair (l : Launch) (g : sG) (i : Nat) (hi : i < 11) (a1 : Int32) (a2 : Int32) (M : sM) (Q : Int32 → Prop) (h : wX5_hasPair i a1 a2 M Q) : Met l yX5_hasPair (sw_ws yX5_hasPair cX5_hasPair 3 (some .boolean)) { frames := 1, cells := 0, slots := 0, locals := 21 } (va_Pc [.ref (sw_ad g (sw_st i)), .int a1, .int a2] (sw_Pr g M)) (va_Qi (fun r M1 => Q r ∧ M1 = M) (sw_Po g) (sw_A g)) 0 0 (sw_A g) := by
  refine sw_met (by decide) (Nat.le_of_ble_eq_true rfl) ?_
  intro p e s m args below meth c ls hx hb hr hts hown hml hlocks hW hl
  have hown : s.vm.findClass RX5 = some m.cls := hown
  have hl : lv_has ls 3 [(0, .ref (sw_ad g (sw_st i))), (1, .int a1), (2, .int a2)] := hl
  unfold wX5_hasPair at h
  refine lv_aload_n hx hb dX5_hasPair_0 rfl (lv_at hl 0 rfl) ?_
  refine lv_iload_n hx hb dX5_hasPair_1 rfl (lv_at hl 1 rfl) ?_
  refine sw_ki (rest := []) (sw_runV (As := [.int a1]) (rest := []) hx hb hml hown hts (kX5_hasExaminer l g i hi a1 M _ h) cv_X5_hasExaminer q_306 rfl rfl ⟨(Nat.le_of_ble_eq_true rfl), (Nat.le_of_ble_eq_true rfl)⟩ hW (sw_st_lt0 hi) (sw_lay_so i) rfl rfl hl.1 rfl (Nat.le_of_ble_eq_true rfl) dX5_hasPair_2 ⟨(Nat.le_of_ble_eq_true rfl), (Nat.le_of_ble_eq_true rfl)⟩) hW (fun r1 M6 H locs h hW => ?_)
  obtain ⟨h, eM6⟩ := h
  rw [eM6] at hW
  refine lv_if_eq (tgt := 20) hx hb dX5_hasPair_5 (by decide) (fun k2 => ?_) (fun k2 => ?_)
  · have h := h.1 k2
    refine lv_iconst (v := 0) hx hb dX5_hasPair_20 (by decide) ?_
    exact sw_ri hx hb hr hlocks hW (by decide) ⟨h, rfl⟩ dX5_hasPair_21
  · have h := h.2 k2
    refine lv_aload_n hx hb dX5_hasPair_8 rfl (lv_at hl 0 rfl) ?_
    refine lv_iload_n hx hb dX5_hasPair_9 rfl (lv_at hl 2 rfl) ?_
    refine sw_ki (rest := []) (sw_runV (As := [.int a2]) (rest := []) hx hb hml hown hts (kX5_hasDoor l g i hi a2 M _ h) cv_X5_hasDoor q_310 rfl rfl ⟨(Nat.le_of_ble_eq_true rfl), (Nat.le_of_ble_eq_true rfl)⟩ hW (sw_st_lt0 hi) (sw_lay_so i) rfl rfl hl.1 rfl (Nat.le_of_ble_eq_true rfl) dX5_hasPair_10 ⟨(Nat.le_of_ble_eq_true rfl), (Nat.le_of_ble_eq_true rfl)⟩) hW (fun r3 M5 H locs h hW => ?_)
    obtain ⟨h, eM5⟩ := h
    rw [eM5] at hW
    refine lv_if_eq (tgt := 20) hx hb dX5_hasPair_13 (by decide) (fun k4 => ?_) (fun k4 => ?_)
    · have h := h.1 k4
      refine lv_iconst (v := 0) hx hb dX5_hasPair_20 (by decide) ?_
      exact sw_ri hx hb hr hlocks hW (by decide) ⟨h, rfl⟩ dX5_hasPair_21
    · have h := h.2 k4
      refine lv_iconst (v := 1) hx hb dX5_hasPair_16 (by decide) ?_
      refine lv_goto (tgt := 21) hx hb dX5_hasPair_17 (by decide) ?_
      exact sw_ri hx hb hr hlocks hW (by decide) ⟨h, rfl⟩ dX5_hasPair_21

theorem cv_X5_hasEntry : sw_cV yX5_hasEntry RX5 cX5_hasEntry 2 (some .boolean) 1 := ⟨q_720, q_721, q_3, q_722, by decide +kernel⟩
def wX5_hasEntry (i : Nat) (a1 : Int32) (M : sM) (Q : Int32 → Prop) : Prop :=
  (a1 < (1 : Int32) → (Q (0 : Int32))) ∧ (¬ a1 < (1 : Int32) → (((M (sw_st i) 15) < a1 → (Q (0 : Int32))) ∧ (¬ (M (sw_st i) 15) < a1 → (Q (1 : Int32)))))
set_option maxRecDepth 20000 in
theorem kX5_hasEntry (l : Launch) (g : sG) (i : Nat) (hi : i < 11) (a1 : Int32) (M : sM) (Q : Int32 → Prop) (h : wX5_hasEntry i a1 M Q) : Met l yX5_hasEntry (sw_ws yX5_hasEntry cX5_hasEntry 2 (some .boolean)) { frames := 0, cells := 0, slots := 0, locals := 0 } (va_Pc [.ref (sw_ad g (sw_st i)), .int a1] (sw_Pr g M)) (va_Qi (fun r M1 => Q r ∧ M1 = M) (sw_Po g) (sw_A g)) 0 0 (sw_A g) := by
  refine sw_met (by decide) (Nat.le_of_ble_eq_true rfl) ?_
  intro p e s m args below meth c ls hx hb hr hts hown hml hlocks hW hl
  have hown : s.vm.findClass RX5 = some m.cls := hown
  have hl : lv_has ls 2 [(0, .ref (sw_ad g (sw_st i))), (1, .int a1)] := hl
  unfold wX5_hasEntry at h
  refine lv_iload_n hx hb dX5_hasEntry_0 rfl (lv_at hl 1 rfl) ?_
  refine lv_iconst (v := 1) hx hb dX5_hasEntry_1 (by decide) ?_
  refine lv_icmp_lt (tgt := 17) hx hb dX5_hasEntry_2 (by decide) (fun k1 => ?_) (fun k1 => ?_)
  · have h := h.1 k1
    refine lv_iconst (v := 0) hx hb dX5_hasEntry_17 (by decide) ?_
    exact sw_ri hx hb hr hlocks hW (by decide) ⟨h, rfl⟩ dX5_hasEntry_18
  · have h := h.2 k1
    refine lv_iload_n hx hb dX5_hasEntry_5 rfl (lv_at hl 1 rfl) ?_
    refine lv_aload_n hx hb dX5_hasEntry_6 rfl (lv_at hl 0 rfl) ?_
    refine sw_gi (j := 15) hx hb hts hown hW rfl qf_5 (sw_st_lt0 hi) (sw_lay_so i) rfl (Nat.le_of_ble_eq_true rfl) q_89 dX5_hasEntry_7 ?_
    refine lv_icmp_gt (tgt := 17) hx hb dX5_hasEntry_10 (by decide) (fun k2 => ?_) (fun k2 => ?_)
    · have h := h.1 k2
      refine lv_iconst (v := 0) hx hb dX5_hasEntry_17 (by decide) ?_
      exact sw_ri hx hb hr hlocks hW (by decide) ⟨h, rfl⟩ dX5_hasEntry_18
    · have h := h.2 k2
      refine lv_iconst (v := 1) hx hb dX5_hasEntry_13 (by decide) ?_
      refine lv_goto (tgt := 18) hx hb dX5_hasEntry_14 (by decide) ?_
      exact sw_ri hx hb hr hlocks hW (by decide) ⟨h, rfl⟩ dX5_hasEntry_18

def lX5_neutralCount_4 (i : Nat) (a1 : Int32) (M : sM) (K4 : Int32 → Prop) : Nat → Int32 → Int32 → Prop
  | 0, _, _ => False
  | n4 + 1, x2_4, x3_4 => ((M (sw_st i) 6) ≤ x3_4 → (K4 x2_4)) ∧ (¬ (M (sw_st i) 6) ≤ x3_4 → (wX5_neutral i x3_4 a1 M (fun r2 => (r2 = 0 → (∀ v4 : Int32, v4 = x3_4 + (1 : Int32) → ((fun x2_4 x3_4 => lX5_neutralCount_4 i a1 M K4 n4 x2_4 x3_4) x2_4 v4))) ∧ (¬ r2 = 0 → (∀ v5 : Int32, v5 = x2_4 + (1 : Int32) → (∀ v6 : Int32, v6 = x3_4 + (1 : Int32) → ((fun x2_4 x3_4 => lX5_neutralCount_4 i a1 M K4 n4 x2_4 x3_4) v5 v6)))))))
theorem cv_X5_neutralCount : sw_cV yX5_neutralCount RX5 cX5_neutralCount 4 (some .int) 1 := ⟨q_395, q_396, q_3, q_397, by decide +kernel⟩
def wX5_neutralCount (i : Nat) (a1 : Int32) (M : sM) (Q : Int32 → Prop) : Prop :=
  ∃ n4, lX5_neutralCount_4 i a1 M (fun x2_4k => Q x2_4k) n4 (0 : Int32) (0 : Int32)
set_option maxRecDepth 20000 in
theorem kX5_neutralCount (l : Launch) (g : sG) (i : Nat) (hi : i < 11) (a1 : Int32) (M : sM) (Q : Int32 → Prop) (h : wX5_neutralCount i a1 M Q) : Met l yX5_neutralCount (sw_ws yX5_neutralCount cX5_neutralCount 4 (some .int)) { frames := 1, cells := 0, slots := 0, locals := 22 } (va_Pc [.ref (sw_ad g (sw_st i)), .int a1] (sw_Pr g M)) (va_Qi (fun r M1 => Q r ∧ M1 = M) (sw_Po g) (sw_A g)) 0 0 (sw_A g) := by
  refine sw_met (by decide) (Nat.le_of_ble_eq_true rfl) ?_
  intro p e s m args below meth c ls hx hb hr hts hown hml hlocks hW hl
  have hown : s.vm.findClass RX5 = some m.cls := hown
  have hl : lv_has ls 4 [(0, .ref (sw_ad g (sw_st i))), (1, .int a1)] := hl
  unfold wX5_neutralCount at h
  refine lv_iconst (v := 0) hx hb dX5_neutralCount_0 (by decide) ?_
  refine lv_istore_n (lv' := [(2, .int (0 : Int32)), (0, .ref (sw_ad g (sw_st i))), (1, .int a1)]) hx hb dX5_neutralCount_1 rfl hl (Nat.le_of_ble_eq_true rfl) rfl (fun ls hl => ?_)
  refine lv_iconst (v := 0) hx hb dX5_neutralCount_2 (by decide) ?_
  refine lv_istore_n (lv' := [(3, .int (0 : Int32)), (2, .int (0 : Int32)), (0, .ref (sw_ad g (sw_st i))), (1, .int a1)]) hx hb dX5_neutralCount_3 rfl hl (Nat.le_of_ble_eq_true rfl) rfl (fun ls hl => ?_)
  obtain ⟨n4, h⟩ := h
  refine sw_lp_ii (hd := 4) (Lf := fun x2_4 x3_4 => [(0, .ref (sw_ad g (sw_st i))), (1, .int a1), (2, .int x2_4), (3, .int x3_4)]) h hW (lv_sub hl [2, 3, 1, 0] rfl) (fun _ _ h => h) (fun n4 ih4 x2_4 x3_4 H locs ls h hW hl => ?_)
  rw [lX5_neutralCount_4.eq_2] at h
  refine lv_iload_n hx hb dX5_neutralCount_4 rfl (lv_at hl 3 rfl) ?_
  refine lv_aload_n hx hb dX5_neutralCount_5 rfl (lv_at hl 0 rfl) ?_
  refine sw_gi (j := 6) hx hb hts hown hW rfl qf_5 (sw_st_lt0 hi) (sw_lay_so i) rfl (Nat.le_of_ble_eq_true rfl) q_65 dX5_neutralCount_6 ?_
  refine lv_icmp_ge (tgt := 30) hx hb dX5_neutralCount_9 (by decide) (fun k1 => ?_) (fun k1 => ?_)
  · have h := h.1 k1
    refine lv_iload_n hx hb dX5_neutralCount_30 rfl (lv_at hl 2 rfl) ?_
    exact sw_ri hx hb hr hlocks hW rfl ⟨h, rfl⟩ dX5_neutralCount_31
  · have h := h.2 k1
    refine lv_aload_n hx hb dX5_neutralCount_12 rfl (lv_at hl 0 rfl) ?_
    refine lv_iload_n hx hb dX5_neutralCount_13 rfl (lv_at hl 3 rfl) ?_
    refine lv_iload_n hx hb dX5_neutralCount_14 rfl (lv_at hl 1 rfl) ?_
    refine sw_ki (rest := []) (sw_runV (As := [.int x3_4, .int a1]) (rest := []) hx hb hml hown hts (kX5_neutral l g i hi x3_4 a1 M _ h) cv_X5_neutral q_340 rfl rfl ⟨(Nat.le_of_ble_eq_true rfl), (Nat.le_of_ble_eq_true rfl)⟩ hW (sw_st_lt0 hi) (sw_lay_so i) rfl rfl hl.1 rfl (Nat.le_of_ble_eq_true rfl) dX5_neutralCount_15 ⟨(Nat.le_of_ble_eq_true rfl), (Nat.le_of_ble_eq_true rfl)⟩) hW (fun r2 M7 H locs h hW => ?_)
    obtain ⟨h, eM7⟩ := h
    rw [eM7] at hW
    refine lv_if_eq (tgt := 24) hx hb dX5_neutralCount_18 (by decide) (fun k3 => ?_) (fun k3 => ?_)
    · have h := h.1 k3
      obtain ⟨v4, ev4⟩ : ∃ z : Int32, z = x3_4 + (1 : Int32) := ⟨_, rfl⟩
      have h := h v4 ev4
      refine lv_iinc (v := v4) (lv' := [(3, .int v4), (0, .ref (sw_ad g (sw_st i))), (1, .int a1), (2, .int x2_4)]) hx hb dX5_neutralCount_24 hl (k := 3) rfl (by rw [ev4]; rfl) (Nat.le_of_ble_eq_true rfl) rfl (fun ls hl => ?_)
      refine lv_goto (tgt := 4) hx hb dX5_neutralCount_27 (by decide) ?_
      exact ih4 _ _ _ _ _ h hW (lv_sub hl [1, 2, 3, 0] rfl)
    · have h := h.2 k3
      obtain ⟨v5, ev5⟩ : ∃ z : Int32, z = x2_4 + (1 : Int32) := ⟨_, rfl⟩
      have h := h v5 ev5
      refine lv_iinc (v := v5) (lv' := [(2, .int v5), (0, .ref (sw_ad g (sw_st i))), (1, .int a1), (3, .int x3_4)]) hx hb dX5_neutralCount_21 hl (k := 2) rfl (by rw [ev5]; rfl) (Nat.le_of_ble_eq_true rfl) rfl (fun ls hl => ?_)
      obtain ⟨v6, ev6⟩ : ∃ z : Int32, z = x3_4 + (1 : Int32) := ⟨_, rfl⟩
      have h := h v6 ev6
      refine lv_iinc (v := v6) (lv' := [(3, .int v6), (2, .int v5), (0, .ref (sw_ad g (sw_st i))), (1, .int a1)]) hx hb dX5_neutralCount_24 hl (k := 3) rfl (by rw [ev6]; rfl) (Nat.le_of_ble_eq_true rfl) rfl (fun ls hl => ?_)
      refine lv_goto (tgt := 4) hx hb dX5_neutralCount_27 (by decide) ?_
      exact ih4 _ _ _ _ _ h hW (lv_sub hl [2, 3, 1, 0] rfl)

theorem cv_X5_hasPassed : sw_cV yX5_hasPassed RX5 cX5_hasPassed 3 (some .boolean) 1 := ⟨q_480, q_481, q_3, q_482, by decide +kernel⟩
def wX5_hasPassed (i : Nat) (a1 : Int32) (M : sM) (Q : Int32 → Prop) : Prop :=
  wX5_median i a1 M (fun r1 => (r1 = (-1 : Int32) → (Q (0 : Int32))) ∧ (¬ r1 = (-1 : Int32) → ((r1 < (M (sw_st i) 14) → (Q (0 : Int32))) ∧ (¬ r1 < (M (sw_st i) 14) → (Q (1 : Int32))))))
set_option maxRecDepth 20000 in
theorem kX5_hasPassed (l : Launch) (g : sG) (i : Nat) (hi : i < 11) (a1 : Int32) (M : sM) (Q : Int32 → Prop) (h : wX5_hasPassed i a1 M Q) : Met l yX5_hasPassed (sw_ws yX5_hasPassed cX5_hasPassed 3 (some .boolean)) { frames := 2, cells := 0, slots := 0, locals := 50 } (va_Pc [.ref (sw_ad g (sw_st i)), .int a1] (sw_Pr g M)) (va_Qi (fun r M1 => Q r ∧ M1 = M) (sw_Po g) (sw_A g)) 0 0 (sw_A g) := by
  refine sw_met (by decide) (Nat.le_of_ble_eq_true rfl) ?_
  intro p e s m args below meth c ls hx hb hr hts hown hml hlocks hW hl
  have hown : s.vm.findClass RX5 = some m.cls := hown
  have hl : lv_has ls 3 [(0, .ref (sw_ad g (sw_st i))), (1, .int a1)] := hl
  unfold wX5_hasPassed at h
  refine lv_aload_n hx hb dX5_hasPassed_0 rfl (lv_at hl 0 rfl) ?_
  refine lv_iload_n hx hb dX5_hasPassed_1 rfl (lv_at hl 1 rfl) ?_
  refine sw_ki (rest := []) (sw_runV (As := [.int a1]) (rest := []) hx hb hml hown hts (kX5_median l g i hi a1 M _ h) cv_X5_median q_483 rfl rfl ⟨(Nat.le_of_ble_eq_true rfl), (Nat.le_of_ble_eq_true rfl)⟩ hW (sw_st_lt0 hi) (sw_lay_so i) rfl rfl hl.1 rfl (Nat.le_of_ble_eq_true rfl) dX5_hasPassed_2 ⟨(Nat.le_of_ble_eq_true rfl), (Nat.le_of_ble_eq_true rfl)⟩) hW (fun r1 M4 H locs h hW => ?_)
  obtain ⟨h, eM4⟩ := h
  rw [eM4] at hW
  refine lv_istore_n (lv' := [(2, .int r1), (0, .ref (sw_ad g (sw_st i))), (1, .int a1)]) hx hb dX5_hasPassed_5 rfl hl (Nat.le_of_ble_eq_true rfl) rfl (fun ls hl => ?_)
  refine lv_iload_n hx hb dX5_hasPassed_6 rfl (lv_at hl 0 rfl) ?_
  refine lv_iconst (v := -1) hx hb dX5_hasPassed_7 (by decide) ?_
  refine lv_icmp_eq (tgt := 23) hx hb dX5_hasPassed_8 (by decide) (fun k2 => ?_) (fun k2 => ?_)
  · have h := h.1 k2
    refine lv_iconst (v := 0) hx hb dX5_hasPassed_23 (by decide) ?_
    exact sw_ri hx hb hr hlocks hW (by decide) ⟨h, rfl⟩ dX5_hasPassed_24
  · have h := h.2 k2
    refine lv_iload_n hx hb dX5_hasPassed_11 rfl (lv_at hl 0 rfl) ?_
    refine lv_aload_n hx hb dX5_hasPassed_12 rfl (lv_at hl 1 rfl) ?_
    refine sw_gi (j := 14) hx hb hts hown hW rfl qf_5 (sw_st_lt0 hi) (sw_lay_so i) rfl (Nat.le_of_ble_eq_true rfl) q_86 dX5_hasPassed_13 ?_
    refine lv_icmp_lt (tgt := 23) hx hb dX5_hasPassed_16 (by decide) (fun k3 => ?_) (fun k3 => ?_)
    · have h := h.1 k3
      refine lv_iconst (v := 0) hx hb dX5_hasPassed_23 (by decide) ?_
      exact sw_ri hx hb hr hlocks hW (by decide) ⟨h, rfl⟩ dX5_hasPassed_24
    · have h := h.2 k3
      refine lv_iconst (v := 1) hx hb dX5_hasPassed_19 (by decide) ?_
      refine lv_goto (tgt := 24) hx hb dX5_hasPassed_20 (by decide) ?_
      exact sw_ri hx hb hr hlocks hW (by decide) ⟨h, rfl⟩ dX5_hasPassed_24

theorem cv_X5_deservesDegree : sw_cV yX5_deservesDegree RX5 cX5_deservesDegree 2 (some .boolean) 1 := ⟨q_476, q_477, q_3, q_478, by decide +kernel⟩
def wX5_deservesDegree (i : Nat) (a1 : Int32) (M : sM) (Q : Int32 → Prop) : Prop :=
  wX5_hasPassed i a1 M (fun r1 => (r1 = 0 → (wX6_contains (M (sw_st i) 1) a1 (fun r3 => (r3 = 0 → (Q (0 : Int32))) ∧ (¬ r3 = 0 → (Q (1 : Int32)))))) ∧ (¬ r1 = 0 → (Q (1 : Int32))))
set_option maxRecDepth 20000 in
theorem kX5_deservesDegree (l : Launch) (g : sG) (i : Nat) (hi : i < 11) (a1 : Int32) (M : sM) (Q : Int32 → Prop) (h : wX5_deservesDegree i a1 M Q) : Met l yX5_deservesDegree (sw_ws yX5_deservesDegree cX5_deservesDegree 2 (some .boolean)) { frames := 3, cells := 0, slots := 0, locals := 72 } (va_Pc [.ref (sw_ad g (sw_st i)), .int a1] (sw_Pr g M)) (va_Qi (fun r M1 => Q r ∧ M1 = M) (sw_Po g) (sw_A g)) 0 0 (sw_A g) := by
  refine sw_met (by decide) (Nat.le_of_ble_eq_true rfl) ?_
  intro p e s m args below meth c ls hx hb hr hts hown hml hlocks hW hl
  have hown : s.vm.findClass RX5 = some m.cls := hown
  have hl : lv_has ls 2 [(0, .ref (sw_ad g (sw_st i))), (1, .int a1)] := hl
  unfold wX5_deservesDegree at h
  refine lv_aload_n hx hb dX5_deservesDegree_0 rfl (lv_at hl 0 rfl) ?_
  refine lv_iload_n hx hb dX5_deservesDegree_1 rfl (lv_at hl 1 rfl) ?_
  refine sw_ki (rest := []) (sw_runV (As := [.int a1]) (rest := []) hx hb hml hown hts (kX5_hasPassed l g i hi a1 M _ h) cv_X5_hasPassed q_479 rfl rfl ⟨(Nat.le_of_ble_eq_true rfl), (Nat.le_of_ble_eq_true rfl)⟩ hW (sw_st_lt0 hi) (sw_lay_so i) rfl rfl hl.1 rfl (Nat.le_of_ble_eq_true rfl) dX5_deservesDegree_2 ⟨(Nat.le_of_ble_eq_true rfl), (Nat.le_of_ble_eq_true rfl)⟩) hW (fun r1 M6 H locs h hW => ?_)
  obtain ⟨h, eM6⟩ := h
  rw [eM6] at hW
  refine lv_if_ne (tgt := 19) hx hb dX5_deservesDegree_5 (by decide) (fun k2 => ?_) (fun k2 => ?_)
  · have h := h.2 k2
    refine lv_iconst (v := 1) hx hb dX5_deservesDegree_19 (by decide) ?_
    refine lv_goto (tgt := 24) hx hb dX5_deservesDegree_20 (by decide) ?_
    exact sw_ri hx hb hr hlocks hW (by decide) ⟨h, rfl⟩ dX5_deservesDegree_24
  · have h := h.1 k2
    refine lv_aload_n hx hb dX5_deservesDegree_8 rfl (lv_at hl 0 rfl) ?_
    refine sw_gi (j := 1) hx hb hts hown hW rfl qf_5 (sw_st_lt0 hi) (sw_lay_so i) rfl (Nat.le_of_ble_eq_true rfl) q_51 dX5_deservesDegree_9 ?_
    refine lv_iload_n hx hb dX5_deservesDegree_12 rfl (lv_at hl 1 rfl) ?_
    refine sw_ki (rest := []) (sw_runN (As := [.int (M (sw_st i) 1), .int a1]) (rest := []) hx hb hml hown hts (kX6_contains l g (M (sw_st i) 1) a1 M _ h) cs_X6_contains qn_X5_78 rfl rfl ⟨(Nat.le_of_ble_eq_true rfl), (Nat.le_of_ble_eq_true rfl)⟩ hW rfl hl.1 rfl (Nat.le_of_ble_eq_true rfl) dX5_deservesDegree_13 ⟨(Nat.le_of_ble_eq_true rfl), (Nat.le_of_ble_eq_true rfl)⟩) hW (fun r3 M5 H locs h hW => ?_)
    obtain ⟨h, eM5⟩ := h
    rw [eM5] at hW
    refine lv_if_eq (tgt := 23) hx hb dX5_deservesDegree_16 (by decide) (fun k4 => ?_) (fun k4 => ?_)
    · have h := h.1 k4
      refine lv_iconst (v := 0) hx hb dX5_deservesDegree_23 (by decide) ?_
      exact sw_ri hx hb hr hlocks hW (by decide) ⟨h, rfl⟩ dX5_deservesDegree_24
    · have h := h.2 k4
      refine lv_iconst (v := 1) hx hb dX5_deservesDegree_19 (by decide) ?_
      refine lv_goto (tgt := 24) hx hb dX5_deservesDegree_20 (by decide) ?_
      exact sw_ri hx hb hr hlocks hW (by decide) ⟨h, rfl⟩ dX5_deservesDegree_24

theorem cv_X5_ranksBefore : sw_cV yX5_ranksBefore RX5 cX5_ranksBefore 7 (some .boolean) 2 := ⟨q_585, q_586, q_3, q_587, by decide +kernel⟩
def wX5_ranksBefore (i : Nat) (a1 : Int32) (a2 : Int32) (M : sM) (Q : Int32 → Prop) : Prop :=
  wX5_median i a1 M (fun r1 => wX5_median i a2 M (fun r2 => (r1 = r2 → (wX5_gradeCount i a1 M (fun r4 => wX5_gradeCount i a2 M (fun r5 => (r1 = (-1 : Int32) → ((a2 ≤ a1 → (Q (0 : Int32))) ∧ (¬ a2 ≤ a1 → (Q (1 : Int32))))) ∧ (¬ r1 = (-1 : Int32) → ((r4 = r5 → ((a2 ≤ a1 → (Q (0 : Int32))) ∧ (¬ a2 ≤ a1 → (Q (1 : Int32))))) ∧ (¬ r4 = r5 → ((r4 ≤ r5 → (Q (0 : Int32))) ∧ (¬ r4 ≤ r5 → (Q (1 : Int32))))))))))) ∧ (¬ r1 = r2 → ((r1 ≤ r2 → (Q (0 : Int32))) ∧ (¬ r1 ≤ r2 → (Q (1 : Int32)))))))
set_option maxRecDepth 20000 in
theorem kX5_ranksBefore (l : Launch) (g : sG) (i : Nat) (hi : i < 11) (a1 : Int32) (a2 : Int32) (M : sM) (Q : Int32 → Prop) (h : wX5_ranksBefore i a1 a2 M Q) : Met l yX5_ranksBefore (sw_ws yX5_ranksBefore cX5_ranksBefore 7 (some .boolean)) { frames := 2, cells := 0, slots := 0, locals := 50 } (va_Pc [.ref (sw_ad g (sw_st i)), .int a1, .int a2] (sw_Pr g M)) (va_Qi (fun r M1 => Q r ∧ M1 = M) (sw_Po g) (sw_A g)) 0 0 (sw_A g) := by
  refine sw_met (by decide) (Nat.le_of_ble_eq_true rfl) ?_
  intro p e s m args below meth c ls hx hb hr hts hown hml hlocks hW hl
  have hown : s.vm.findClass RX5 = some m.cls := hown
  have hl : lv_has ls 7 [(0, .ref (sw_ad g (sw_st i))), (1, .int a1), (2, .int a2)] := hl
  unfold wX5_ranksBefore at h
  refine lv_aload_n hx hb dX5_ranksBefore_0 rfl (lv_at hl 0 rfl) ?_
  refine lv_iload_n hx hb dX5_ranksBefore_1 rfl (lv_at hl 1 rfl) ?_
  refine sw_ki (rest := []) (sw_runV (As := [.int a1]) (rest := []) hx hb hml hown hts (kX5_median l g i hi a1 M _ h) cv_X5_median q_483 rfl rfl ⟨(Nat.le_of_ble_eq_true rfl), (Nat.le_of_ble_eq_true rfl)⟩ hW (sw_st_lt0 hi) (sw_lay_so i) rfl rfl hl.1 rfl (Nat.le_of_ble_eq_true rfl) dX5_ranksBefore_2 ⟨(Nat.le_of_ble_eq_true rfl), (Nat.le_of_ble_eq_true rfl)⟩) hW (fun r1 M15 H locs h hW => ?_)
  obtain ⟨h, eM15⟩ := h
  rw [eM15] at hW
  refine lv_istore_n (lv' := [(3, .int r1), (0, .ref (sw_ad g (sw_st i))), (1, .int a1), (2, .int a2)]) hx hb dX5_ranksBefore_5 rfl hl (Nat.le_of_ble_eq_true rfl) rfl (fun ls hl => ?_)
  refine lv_aload_n hx hb dX5_ranksBefore_6 rfl (lv_at hl 1 rfl) ?_
  refine lv_iload_n hx hb dX5_ranksBefore_7 rfl (lv_at hl 3 rfl) ?_
  refine sw_ki (rest := []) (sw_runV (As := [.int a2]) (rest := []) hx hb hml hown hts (kX5_median l g i hi a2 M _ h) cv_X5_median q_483 rfl rfl ⟨(Nat.le_of_ble_eq_true rfl), (Nat.le_of_ble_eq_true rfl)⟩ hW (sw_st_lt0 hi) (sw_lay_so i) rfl rfl hl.1 rfl (Nat.le_of_ble_eq_true rfl) dX5_ranksBefore_8 ⟨(Nat.le_of_ble_eq_true rfl), (Nat.le_of_ble_eq_true rfl)⟩) hW (fun r2 M14 H locs h hW => ?_)
  obtain ⟨h, eM14⟩ := h
  rw [eM14] at hW
  refine lv_istore (lv' := [(4, .int r2), (3, .int r1), (0, .ref (sw_ad g (sw_st i))), (1, .int a1), (2, .int a2)]) hx hb dX5_ranksBefore_11 hl (Nat.le_of_ble_eq_true rfl) rfl (fun ls hl => ?_)
  refine lv_iload_n hx hb dX5_ranksBefore_13 rfl (lv_at hl 1 rfl) ?_
  refine lv_iload hx hb dX5_ranksBefore_14 (lv_at hl 0 rfl) ?_
  refine lv_icmp_eq (tgt := 31) hx hb dX5_ranksBefore_16 (by decide) (fun k3 => ?_) (fun k3 => ?_)
  · have h := h.1 k3
    refine lv_aload_n hx hb dX5_ranksBefore_31 rfl (lv_at hl 2 rfl) ?_
    refine lv_iload_n hx hb dX5_ranksBefore_32 rfl (lv_at hl 3 rfl) ?_
    refine sw_ki (rest := []) (sw_runV (As := [.int a1]) (rest := []) hx hb hml hown hts (kX5_gradeCount l g i hi a1 M _ h) cv_X5_gradeCount q_408 rfl rfl ⟨(Nat.le_of_ble_eq_true rfl), (Nat.le_of_ble_eq_true rfl)⟩ hW (sw_st_lt0 hi) (sw_lay_so i) rfl rfl hl.1 rfl (Nat.le_of_ble_eq_true rfl) dX5_ranksBefore_33 ⟨(Nat.le_of_ble_eq_true rfl), (Nat.le_of_ble_eq_true rfl)⟩) hW (fun r4 M12 H locs h hW => ?_)
    obtain ⟨h, eM12⟩ := h
    rw [eM12] at hW
    refine lv_istore (lv' := [(5, .int r4), (4, .int r2), (3, .int r1), (0, .ref (sw_ad g (sw_st i))), (1, .int a1), (2, .int a2)]) hx hb dX5_ranksBefore_36 hl (Nat.le_of_ble_eq_true rfl) rfl (fun ls hl => ?_)
    refine lv_aload_n hx hb dX5_ranksBefore_38 rfl (lv_at hl 3 rfl) ?_
    refine lv_iload_n hx hb dX5_ranksBefore_39 rfl (lv_at hl 5 rfl) ?_
    refine sw_ki (rest := []) (sw_runV (As := [.int a2]) (rest := []) hx hb hml hown hts (kX5_gradeCount l g i hi a2 M _ h) cv_X5_gradeCount q_408 rfl rfl ⟨(Nat.le_of_ble_eq_true rfl), (Nat.le_of_ble_eq_true rfl)⟩ hW (sw_st_lt0 hi) (sw_lay_so i) rfl rfl hl.1 rfl (Nat.le_of_ble_eq_true rfl) dX5_ranksBefore_40 ⟨(Nat.le_of_ble_eq_true rfl), (Nat.le_of_ble_eq_true rfl)⟩) hW (fun r5 M11 H locs h hW => ?_)
    obtain ⟨h, eM11⟩ := h
    rw [eM11] at hW
    refine lv_istore (lv' := [(6, .int r5), (5, .int r4), (4, .int r2), (3, .int r1), (0, .ref (sw_ad g (sw_st i))), (1, .int a1), (2, .int a2)]) hx hb dX5_ranksBefore_43 hl (Nat.le_of_ble_eq_true rfl) rfl (fun ls hl => ?_)
    refine lv_iload_n hx hb dX5_ranksBefore_45 rfl (lv_at hl 3 rfl) ?_
    refine lv_iconst (v := -1) hx hb dX5_ranksBefore_46 (by decide) ?_
    refine lv_icmp_eq (tgt := 70) hx hb dX5_ranksBefore_47 (by decide) (fun k6 => ?_) (fun k6 => ?_)
    · have h := h.1 k6
      refine lv_iload_n hx hb dX5_ranksBefore_70 rfl (lv_at hl 5 rfl) ?_
      refine lv_iload_n hx hb dX5_ranksBefore_71 rfl (lv_at hl 6 rfl) ?_
      refine lv_icmp_ge (tgt := 79) hx hb dX5_ranksBefore_72 (by decide) (fun k7 => ?_) (fun k7 => ?_)
      · have h := h.1 k7
        refine lv_iconst (v := 0) hx hb dX5_ranksBefore_79 (by decide) ?_
        exact sw_ri hx hb hr hlocks hW (by decide) ⟨h, rfl⟩ dX5_ranksBefore_80
      · have h := h.2 k7
        refine lv_iconst (v := 1) hx hb dX5_ranksBefore_75 (by decide) ?_
        refine lv_goto (tgt := 80) hx hb dX5_ranksBefore_76 (by decide) ?_
        exact sw_ri hx hb hr hlocks hW (by decide) ⟨h, rfl⟩ dX5_ranksBefore_80
    · have h := h.2 k6
      refine lv_iload hx hb dX5_ranksBefore_50 (lv_at hl 1 rfl) ?_
      refine lv_iload hx hb dX5_ranksBefore_52 (lv_at hl 0 rfl) ?_
      refine lv_icmp_eq (tgt := 70) hx hb dX5_ranksBefore_54 (by decide) (fun k8 => ?_) (fun k8 => ?_)
      · have h := h.1 k8
        refine lv_iload_n hx hb dX5_ranksBefore_70 rfl (lv_at hl 5 rfl) ?_
        refine lv_iload_n hx hb dX5_ranksBefore_71 rfl (lv_at hl 6 rfl) ?_
        refine lv_icmp_ge (tgt := 79) hx hb dX5_ranksBefore_72 (by decide) (fun k9 => ?_) (fun k9 => ?_)
        · have h := h.1 k9
          refine lv_iconst (v := 0) hx hb dX5_ranksBefore_79 (by decide) ?_
          exact sw_ri hx hb hr hlocks hW (by decide) ⟨h, rfl⟩ dX5_ranksBefore_80
        · have h := h.2 k9
          refine lv_iconst (v := 1) hx hb dX5_ranksBefore_75 (by decide) ?_
          refine lv_goto (tgt := 80) hx hb dX5_ranksBefore_76 (by decide) ?_
          exact sw_ri hx hb hr hlocks hW (by decide) ⟨h, rfl⟩ dX5_ranksBefore_80
      · have h := h.2 k8
        refine lv_iload hx hb dX5_ranksBefore_57 (lv_at hl 1 rfl) ?_
        refine lv_iload hx hb dX5_ranksBefore_59 (lv_at hl 0 rfl) ?_
        refine lv_icmp_le (tgt := 68) hx hb dX5_ranksBefore_61 (by decide) (fun k10 => ?_) (fun k10 => ?_)
        · have h := h.1 k10
          refine lv_iconst (v := 0) hx hb dX5_ranksBefore_68 (by decide) ?_
          exact sw_ri hx hb hr hlocks hW (by decide) ⟨h, rfl⟩ dX5_ranksBefore_69
        · have h := h.2 k10
          refine lv_iconst (v := 1) hx hb dX5_ranksBefore_64 (by decide) ?_
          refine lv_goto (tgt := 69) hx hb dX5_ranksBefore_65 (by decide) ?_
          exact sw_ri hx hb hr hlocks hW (by decide) ⟨h, rfl⟩ dX5_ranksBefore_69
  · have h := h.2 k3
    refine lv_iload_n hx hb dX5_ranksBefore_19 rfl (lv_at hl 1 rfl) ?_
    refine lv_iload hx hb dX5_ranksBefore_20 (lv_at hl 0 rfl) ?_
    refine lv_icmp_le (tgt := 29) hx hb dX5_ranksBefore_22 (by decide) (fun k13 => ?_) (fun k13 => ?_)
    · have h := h.1 k13
      refine lv_iconst (v := 0) hx hb dX5_ranksBefore_29 (by decide) ?_
      exact sw_ri hx hb hr hlocks hW (by decide) ⟨h, rfl⟩ dX5_ranksBefore_30
    · have h := h.2 k13
      refine lv_iconst (v := 1) hx hb dX5_ranksBefore_25 (by decide) ?_
      refine lv_goto (tgt := 30) hx hb dX5_ranksBefore_26 (by decide) ?_
      exact sw_ri hx hb hr hlocks hW (by decide) ⟨h, rfl⟩ dX5_ranksBefore_30

def lX5_rankOf_4 (i : Nat) (a1 : Int32) (M : sM) (K4 : Int32 → Prop) : Nat → Int32 → Int32 → Prop
  | 0, _, _ => False
  | n4 + 1, x2_4, x3_4 => ((M (sw_st i) 3) ≤ x3_4 → (K4 x2_4)) ∧ (¬ (M (sw_st i) 3) ≤ x3_4 → (wX5_ranksBefore i x3_4 a1 M (fun r2 => (r2 = 0 → (∀ v4 : Int32, v4 = x3_4 + (1 : Int32) → ((fun x2_4 x3_4 => lX5_rankOf_4 i a1 M K4 n4 x2_4 x3_4) x2_4 v4))) ∧ (¬ r2 = 0 → (∀ v5 : Int32, v5 = x2_4 + (1 : Int32) → (∀ v6 : Int32, v6 = x3_4 + (1 : Int32) → ((fun x2_4 x3_4 => lX5_rankOf_4 i a1 M K4 n4 x2_4 x3_4) v5 v6)))))))
theorem cv_X5_rankOf : sw_cV yX5_rankOf RX5 cX5_rankOf 4 (some .int) 1 := ⟨q_581, q_582, q_3, q_583, by decide +kernel⟩
def wX5_rankOf (i : Nat) (a1 : Int32) (M : sM) (Q : Int32 → Prop) : Prop :=
  ∃ n4, lX5_rankOf_4 i a1 M (fun x2_4k => Q x2_4k) n4 (0 : Int32) (0 : Int32)
set_option maxRecDepth 20000 in
theorem kX5_rankOf (l : Launch) (g : sG) (i : Nat) (hi : i < 11) (a1 : Int32) (M : sM) (Q : Int32 → Prop) (h : wX5_rankOf i a1 M Q) : Met l yX5_rankOf (sw_ws yX5_rankOf cX5_rankOf 4 (some .int)) { frames := 3, cells := 0, slots := 0, locals := 76 } (va_Pc [.ref (sw_ad g (sw_st i)), .int a1] (sw_Pr g M)) (va_Qi (fun r M1 => Q r ∧ M1 = M) (sw_Po g) (sw_A g)) 0 0 (sw_A g) := by
  refine sw_met (by decide) (Nat.le_of_ble_eq_true rfl) ?_
  intro p e s m args below meth c ls hx hb hr hts hown hml hlocks hW hl
  have hown : s.vm.findClass RX5 = some m.cls := hown
  have hl : lv_has ls 4 [(0, .ref (sw_ad g (sw_st i))), (1, .int a1)] := hl
  unfold wX5_rankOf at h
  refine lv_iconst (v := 0) hx hb dX5_rankOf_0 (by decide) ?_
  refine lv_istore_n (lv' := [(2, .int (0 : Int32)), (0, .ref (sw_ad g (sw_st i))), (1, .int a1)]) hx hb dX5_rankOf_1 rfl hl (Nat.le_of_ble_eq_true rfl) rfl (fun ls hl => ?_)
  refine lv_iconst (v := 0) hx hb dX5_rankOf_2 (by decide) ?_
  refine lv_istore_n (lv' := [(3, .int (0 : Int32)), (2, .int (0 : Int32)), (0, .ref (sw_ad g (sw_st i))), (1, .int a1)]) hx hb dX5_rankOf_3 rfl hl (Nat.le_of_ble_eq_true rfl) rfl (fun ls hl => ?_)
  obtain ⟨n4, h⟩ := h
  refine sw_lp_ii (hd := 4) (Lf := fun x2_4 x3_4 => [(0, .ref (sw_ad g (sw_st i))), (1, .int a1), (2, .int x2_4), (3, .int x3_4)]) h hW (lv_sub hl [2, 3, 1, 0] rfl) (fun _ _ h => h) (fun n4 ih4 x2_4 x3_4 H locs ls h hW hl => ?_)
  rw [lX5_rankOf_4.eq_2] at h
  refine lv_iload_n hx hb dX5_rankOf_4 rfl (lv_at hl 3 rfl) ?_
  refine lv_aload_n hx hb dX5_rankOf_5 rfl (lv_at hl 0 rfl) ?_
  refine sw_gi (j := 3) hx hb hts hown hW rfl qf_5 (sw_st_lt0 hi) (sw_lay_so i) rfl (Nat.le_of_ble_eq_true rfl) q_56 dX5_rankOf_6 ?_
  refine lv_icmp_ge (tgt := 30) hx hb dX5_rankOf_9 (by decide) (fun k1 => ?_) (fun k1 => ?_)
  · have h := h.1 k1
    refine lv_iload_n hx hb dX5_rankOf_30 rfl (lv_at hl 2 rfl) ?_
    exact sw_ri hx hb hr hlocks hW rfl ⟨h, rfl⟩ dX5_rankOf_31
  · have h := h.2 k1
    refine lv_aload_n hx hb dX5_rankOf_12 rfl (lv_at hl 0 rfl) ?_
    refine lv_iload_n hx hb dX5_rankOf_13 rfl (lv_at hl 3 rfl) ?_
    refine lv_iload_n hx hb dX5_rankOf_14 rfl (lv_at hl 1 rfl) ?_
    refine sw_ki (rest := []) (sw_runV (As := [.int x3_4, .int a1]) (rest := []) hx hb hml hown hts (kX5_ranksBefore l g i hi x3_4 a1 M _ h) cv_X5_ranksBefore q_584 rfl rfl ⟨(Nat.le_of_ble_eq_true rfl), (Nat.le_of_ble_eq_true rfl)⟩ hW (sw_st_lt0 hi) (sw_lay_so i) rfl rfl hl.1 rfl (Nat.le_of_ble_eq_true rfl) dX5_rankOf_15 ⟨(Nat.le_of_ble_eq_true rfl), (Nat.le_of_ble_eq_true rfl)⟩) hW (fun r2 M7 H locs h hW => ?_)
    obtain ⟨h, eM7⟩ := h
    rw [eM7] at hW
    refine lv_if_eq (tgt := 24) hx hb dX5_rankOf_18 (by decide) (fun k3 => ?_) (fun k3 => ?_)
    · have h := h.1 k3
      obtain ⟨v4, ev4⟩ : ∃ z : Int32, z = x3_4 + (1 : Int32) := ⟨_, rfl⟩
      have h := h v4 ev4
      refine lv_iinc (v := v4) (lv' := [(3, .int v4), (0, .ref (sw_ad g (sw_st i))), (1, .int a1), (2, .int x2_4)]) hx hb dX5_rankOf_24 hl (k := 3) rfl (by rw [ev4]; rfl) (Nat.le_of_ble_eq_true rfl) rfl (fun ls hl => ?_)
      refine lv_goto (tgt := 4) hx hb dX5_rankOf_27 (by decide) ?_
      exact ih4 _ _ _ _ _ h hW (lv_sub hl [1, 2, 3, 0] rfl)
    · have h := h.2 k3
      obtain ⟨v5, ev5⟩ : ∃ z : Int32, z = x2_4 + (1 : Int32) := ⟨_, rfl⟩
      have h := h v5 ev5
      refine lv_iinc (v := v5) (lv' := [(2, .int v5), (0, .ref (sw_ad g (sw_st i))), (1, .int a1), (3, .int x3_4)]) hx hb dX5_rankOf_21 hl (k := 2) rfl (by rw [ev5]; rfl) (Nat.le_of_ble_eq_true rfl) rfl (fun ls hl => ?_)
      obtain ⟨v6, ev6⟩ : ∃ z : Int32, z = x3_4 + (1 : Int32) := ⟨_, rfl⟩
      have h := h v6 ev6
      refine lv_iinc (v := v6) (lv' := [(3, .int v6), (2, .int v5), (0, .ref (sw_ad g (sw_st i))), (1, .int a1)]) hx hb dX5_rankOf_24 hl (k := 3) rfl (by rw [ev6]; rfl) (Nat.le_of_ble_eq_true rfl) rfl (fun ls hl => ?_)
      refine lv_goto (tgt := 4) hx hb dX5_rankOf_27 (by decide) ?_
      exact ih4 _ _ _ _ _ h hW (lv_sub hl [2, 3, 1, 0] rfl)

def lX5_doorRanked_2 (i : Nat) (a1 : Int32) (M : sM) (Q : Int32 → Prop) (K2 : Prop) : Nat → Int32 → Prop
  | 0, _ => False
  | n2 + 1, x2_2 => ((M (sw_st i) 3) ≤ x2_2 → (K2)) ∧ (¬ (M (sw_st i) 3) ≤ x2_2 → (wX5_rankOf i x2_2 M (fun r2 => (r2 = a1 → (Q x2_2)) ∧ (¬ r2 = a1 → (∀ v4 : Int32, v4 = x2_2 + (1 : Int32) → ((fun x2_2 => lX5_doorRanked_2 i a1 M Q K2 n2 x2_2) v4))))))
theorem cv_X5_doorRanked : sw_cV yX5_doorRanked RX5 cX5_doorRanked 3 (some .int) 1 := ⟨q_577, q_578, q_3, q_579, by decide +kernel⟩
def wX5_doorRanked (i : Nat) (a1 : Int32) (M : sM) (Q : Int32 → Prop) : Prop :=
  ∃ n2, lX5_doorRanked_2 i a1 M Q (Q (-1 : Int32)) n2 (0 : Int32)
set_option maxRecDepth 20000 in
theorem kX5_doorRanked (l : Launch) (g : sG) (i : Nat) (hi : i < 11) (a1 : Int32) (M : sM) (Q : Int32 → Prop) (h : wX5_doorRanked i a1 M Q) : Met l yX5_doorRanked (sw_ws yX5_doorRanked cX5_doorRanked 3 (some .int)) { frames := 4, cells := 0, slots := 0, locals := 99 } (va_Pc [.ref (sw_ad g (sw_st i)), .int a1] (sw_Pr g M)) (va_Qi (fun r M1 => Q r ∧ M1 = M) (sw_Po g) (sw_A g)) 0 0 (sw_A g) := by
  refine sw_met (by decide) (Nat.le_of_ble_eq_true rfl) ?_
  intro p e s m args below meth c ls hx hb hr hts hown hml hlocks hW hl
  have hown : s.vm.findClass RX5 = some m.cls := hown
  have hl : lv_has ls 3 [(0, .ref (sw_ad g (sw_st i))), (1, .int a1)] := hl
  unfold wX5_doorRanked at h
  refine lv_iconst (v := 0) hx hb dX5_doorRanked_0 (by decide) ?_
  refine lv_istore_n (lv' := [(2, .int (0 : Int32)), (0, .ref (sw_ad g (sw_st i))), (1, .int a1)]) hx hb dX5_doorRanked_1 rfl hl (Nat.le_of_ble_eq_true rfl) rfl (fun ls hl => ?_)
  obtain ⟨n2, h⟩ := h
  refine sw_lp_i (hd := 2) (Lf := fun x2_2 => [(0, .ref (sw_ad g (sw_st i))), (1, .int a1), (2, .int x2_2)]) h hW (lv_sub hl [1, 2, 0] rfl) (fun _ h => h) (fun n2 ih2 x2_2 H locs ls h hW hl => ?_)
  rw [lX5_doorRanked_2.eq_2] at h
  refine lv_iload_n hx hb dX5_doorRanked_2 rfl (lv_at hl 2 rfl) ?_
  refine lv_aload_n hx hb dX5_doorRanked_3 rfl (lv_at hl 0 rfl) ?_
  refine sw_gi (j := 3) hx hb hts hown hW rfl qf_5 (sw_st_lt0 hi) (sw_lay_so i) rfl (Nat.le_of_ble_eq_true rfl) q_56 dX5_doorRanked_4 ?_
  refine lv_icmp_ge (tgt := 27) hx hb dX5_doorRanked_7 (by decide) (fun k1 => ?_) (fun k1 => ?_)
  · have h := h.1 k1
    refine lv_iconst (v := -1) hx hb dX5_doorRanked_27 (by decide) ?_
    exact sw_ri hx hb hr hlocks hW rfl ⟨h, rfl⟩ dX5_doorRanked_28
  · have h := h.2 k1
    refine lv_aload_n hx hb dX5_doorRanked_10 rfl (lv_at hl 0 rfl) ?_
    refine lv_iload_n hx hb dX5_doorRanked_11 rfl (lv_at hl 2 rfl) ?_
    refine sw_ki (rest := []) (sw_runV (As := [.int x2_2]) (rest := []) hx hb hml hown hts (kX5_rankOf l g i hi x2_2 M _ h) cv_X5_rankOf q_580 rfl rfl ⟨(Nat.le_of_ble_eq_true rfl), (Nat.le_of_ble_eq_true rfl)⟩ hW (sw_st_lt0 hi) (sw_lay_so i) rfl rfl hl.1 rfl (Nat.le_of_ble_eq_true rfl) dX5_doorRanked_12 ⟨(Nat.le_of_ble_eq_true rfl), (Nat.le_of_ble_eq_true rfl)⟩) hW (fun r2 M5 H locs h hW => ?_)
    obtain ⟨h, eM5⟩ := h
    rw [eM5] at hW
    refine lv_iload_n hx hb dX5_doorRanked_15 rfl (lv_at hl 1 rfl) ?_
    refine lv_icmp_ne (tgt := 21) hx hb dX5_doorRanked_16 (by decide) (fun k3 => ?_) (fun k3 => ?_)
    · have h := h.2 k3
      obtain ⟨v4, ev4⟩ : ∃ z : Int32, z = x2_2 + (1 : Int32) := ⟨_, rfl⟩
      have h := h v4 ev4
      refine lv_iinc (v := v4) (lv' := [(2, .int v4), (0, .ref (sw_ad g (sw_st i))), (1, .int a1)]) hx hb dX5_doorRanked_21 hl (k := 2) rfl (by rw [ev4]; rfl) (Nat.le_of_ble_eq_true rfl) rfl (fun ls hl => ?_)
      refine lv_goto (tgt := 2) hx hb dX5_doorRanked_24 (by decide) ?_
      exact ih2 _ _ _ _ h hW (lv_sub hl [1, 2, 0] rfl)
    · have h := h.1 k3
      refine lv_iload_n hx hb dX5_doorRanked_19 rfl (lv_at hl 2 rfl) ?_
      exact sw_ri hx hb hr hlocks hW rfl ⟨h, rfl⟩ dX5_doorRanked_20

theorem cv_X5_tryNewDoor : sw_cV yX5_tryNewDoor RX5 cX5_tryNewDoor 3 (some .int) 2 := ⟨q_181, q_182, q_3, q_183, by decide +kernel⟩
def wX5_tryNewDoor (i : Nat) (a1 : Int32) (a2 : Int32) (M : sM) (Q : Int32 → sM → Prop) : Prop :=
  wX6_isFrame a1 (fun r1 => (r1 = 0 → (Q (-2 : Int32) M)) ∧ (¬ r1 = 0 → ((a2 < 0 → (Q (-2 : Int32) M)) ∧ (¬ a2 < 0 → ((a2 < (6 : Int32) → (((M (sw_st i) 3) < (8 : Int32) → (vp_in (M (sw_st i) 3) 8 ∧ (∀ M7 : sM, M7 = sw_ms M (sw_st i + 1) ((M (sw_st i) 3)).toNatClampNeg (vp_nar .char a1) → (vp_in (M7 (sw_st i) 3) 8 ∧ (∀ M9 : sM, M9 = sw_ms M7 (sw_st i + 2) ((M7 (sw_st i) 3)).toNatClampNeg a2 → (∀ M10 : sM, M10 = sw_ms M9 (sw_st i) 3 ((M9 (sw_st i) 3) + (1 : Int32)) → (Q ((M10 (sw_st i) 3) - (1 : Int32)) M10))))))) ∧ (¬ (M (sw_st i) 3) < (8 : Int32) → (Q (-3 : Int32) M)))) ∧ (¬ a2 < (6 : Int32) → (Q (-2 : Int32) M)))))))
set_option maxRecDepth 20000 in
theorem kX5_tryNewDoor (l : Launch) (g : sG) (i : Nat) (hi : i < 11) (a1 : Int32) (a2 : Int32) (M : sM) (Q : Int32 → sM → Prop) (h : wX5_tryNewDoor i a1 a2 M Q) : Met l yX5_tryNewDoor (sw_ws yX5_tryNewDoor cX5_tryNewDoor 3 (some .int)) { frames := 1, cells := 0, slots := 0, locals := 20 } (va_Pc [.ref (sw_ad g (sw_st i)), .int a1, .int a2] (sw_Pr g M)) (va_Qi Q (sw_Po g) (sw_A g)) 0 0 (sw_A g) := by
  refine sw_met (by decide) (Nat.le_of_ble_eq_true rfl) ?_
  intro p e s m args below meth c ls hx hb hr hts hown hml hlocks hW hl
  have hown : s.vm.findClass RX5 = some m.cls := hown
  have hl : lv_has ls 3 [(0, .ref (sw_ad g (sw_st i))), (1, .int a1), (2, .int a2)] := hl
  unfold wX5_tryNewDoor at h
  refine lv_iload_n hx hb dX5_tryNewDoor_0 rfl (lv_at hl 1 rfl) ?_
  refine sw_ki (rest := []) (sw_runN (As := [.int a1]) (rest := []) hx hb hml hown hts (kX6_isFrame l g a1 M _ h) cs_X6_isFrame qn_X5_123 rfl rfl ⟨(Nat.le_of_ble_eq_true rfl), (Nat.le_of_ble_eq_true rfl)⟩ hW rfl hl.1 rfl (Nat.le_of_ble_eq_true rfl) dX5_tryNewDoor_1 ⟨(Nat.le_of_ble_eq_true rfl), (Nat.le_of_ble_eq_true rfl)⟩) hW (fun r1 M11 H locs h hW => ?_)
  obtain ⟨h, eM11⟩ := h
  rw [eM11] at hW
  refine lv_if_eq (tgt := 17) hx hb dX5_tryNewDoor_4 (by decide) (fun k2 => ?_) (fun k2 => ?_)
  · have h := h.1 k2
    refine lv_bipush (v := -2) hx hb dX5_tryNewDoor_17 (by decide) ?_
    exact sw_ri hx hb hr hlocks hW rfl h dX5_tryNewDoor_19
  · have h := h.2 k2
    refine lv_iload_n hx hb dX5_tryNewDoor_7 rfl (lv_at hl 2 rfl) ?_
    refine lv_if_lt (tgt := 17) hx hb dX5_tryNewDoor_8 (by decide) (fun k3 => ?_) (fun k3 => ?_)
    · have h := h.1 k3
      refine lv_bipush (v := -2) hx hb dX5_tryNewDoor_17 (by decide) ?_
      exact sw_ri hx hb hr hlocks hW rfl h dX5_tryNewDoor_19
    · have h := h.2 k3
      refine lv_iload_n hx hb dX5_tryNewDoor_11 rfl (lv_at hl 2 rfl) ?_
      refine lv_bipush (v := 6) hx hb dX5_tryNewDoor_12 (by decide) ?_
      refine lv_icmp_lt (tgt := 20) hx hb dX5_tryNewDoor_14 (by decide) (fun k4 => ?_) (fun k4 => ?_)
      · have h := h.1 k4
        refine lv_aload_n hx hb dX5_tryNewDoor_20 rfl (lv_at hl 0 rfl) ?_
        refine sw_gi (j := 3) hx hb hts hown hW rfl qf_5 (sw_st_lt0 hi) (sw_lay_so i) rfl (Nat.le_of_ble_eq_true rfl) q_56 dX5_tryNewDoor_21 ?_
        refine lv_bipush (v := 8) hx hb dX5_tryNewDoor_24 (by decide) ?_
        refine lv_icmp_lt (tgt := 32) hx hb dX5_tryNewDoor_26 (by decide) (fun k5 => ?_) (fun k5 => ?_)
        · have h := h.1 k5
          refine lv_aload_n hx hb dX5_tryNewDoor_32 rfl (lv_at hl 0 rfl) ?_
          refine sw_gr (j := 4) (r := (sw_st i + 1)) hx hb hts hown hW rfl qf_5 (sw_st_lt0 hi) (sw_lay_so i) rfl (Nat.le_of_ble_eq_true rfl) q_59 dX5_tryNewDoor_33 ?_
          refine lv_aload_n hx hb dX5_tryNewDoor_36 rfl (lv_at hl 0 rfl) ?_
          refine sw_gi (j := 3) hx hb hts hown hW rfl qf_5 (sw_st_lt0 hi) (sw_lay_so i) rfl (Nat.le_of_ble_eq_true rfl) q_56 dX5_tryNewDoor_37 ?_
          refine lv_iload_n hx hb dX5_tryNewDoor_40 rfl (lv_at hl 1 rfl) ?_
          have b6 := h.1
          have h := h.2
          refine sw_cs (n := 8) hx hb hW (sw_st_lt hi (Nat.le_of_ble_eq_true rfl)) (sw_lay_s i 1 (Nat.le_of_ble_eq_true rfl)) b6 dX5_tryNewDoor_41 (fun H locs hW => ?_)
          obtain ⟨M7, eM7⟩ : ∃ z : sM, z = sw_ms M (sw_st i + 1) ((M (sw_st i) 3)).toNatClampNeg (vp_nar .char a1) := ⟨_, rfl⟩
          rw [← eM7] at hW
          have h := h M7 eM7
          refine lv_aload_n hx hb dX5_tryNewDoor_42 rfl (lv_at hl 0 rfl) ?_
          refine sw_gr (j := 5) (r := (sw_st i + 2)) hx hb hts hown hW rfl qf_5 (sw_st_lt0 hi) (sw_lay_so i) rfl (Nat.le_of_ble_eq_true rfl) q_62 dX5_tryNewDoor_43 ?_
          refine lv_aload_n hx hb dX5_tryNewDoor_46 rfl (lv_at hl 0 rfl) ?_
          refine sw_gi (j := 3) hx hb hts hown hW rfl qf_5 (sw_st_lt0 hi) (sw_lay_so i) rfl (Nat.le_of_ble_eq_true rfl) q_56 dX5_tryNewDoor_47 ?_
          refine lv_iload_n hx hb dX5_tryNewDoor_50 rfl (lv_at hl 2 rfl) ?_
          have b8 := h.1
          have h := h.2
          refine sw_is (n := 8) hx hb hW (sw_st_lt hi (Nat.le_of_ble_eq_true rfl)) (sw_lay_s i 2 (Nat.le_of_ble_eq_true rfl)) b8 dX5_tryNewDoor_51 (fun H locs hW => ?_)
          obtain ⟨M9, eM9⟩ : ∃ z : sM, z = sw_ms M7 (sw_st i + 2) ((M7 (sw_st i) 3)).toNatClampNeg a2 := ⟨_, rfl⟩
          rw [← eM9] at hW
          have h := h M9 eM9
          refine lv_aload_n hx hb dX5_tryNewDoor_52 rfl (lv_at hl 0 rfl) ?_
          refine lv_dup hx hb dX5_tryNewDoor_53 rfl ?_
          refine sw_gi (j := 3) hx hb hts hown hW rfl qf_5 (sw_st_lt0 hi) (sw_lay_so i) rfl (Nat.le_of_ble_eq_true rfl) q_56 dX5_tryNewDoor_54 ?_
          refine lv_iconst (v := 1) hx hb dX5_tryNewDoor_57 (by decide) ?_
          refine lv_iadd hx hb dX5_tryNewDoor_58 ?_
          refine sw_pi (j := 3) hx hb hts hown hW rfl qf_5 tyX5 tyX5_ok nmX5 (sw_st_lt0 hi) (sw_lay_so i) rfl (Nat.le_of_ble_eq_true rfl) q_56 rfl rfl rfl dX5_tryNewDoor_59 (fun H locs hW => ?_)
          obtain ⟨M10, eM10⟩ : ∃ z : sM, z = sw_ms M9 (sw_st i) 3 ((M9 (sw_st i) 3) + (1 : Int32)) := ⟨_, rfl⟩
          rw [← eM10] at hW
          have h := h M10 eM10
          refine lv_aload_n hx hb dX5_tryNewDoor_62 rfl (lv_at hl 0 rfl) ?_
          refine sw_gi (j := 3) hx hb hts hown hW rfl qf_5 (sw_st_lt0 hi) (sw_lay_so i) rfl (Nat.le_of_ble_eq_true rfl) q_56 dX5_tryNewDoor_63 ?_
          refine lv_iconst (v := 1) hx hb dX5_tryNewDoor_66 (by decide) ?_
          refine lv_isub hx hb dX5_tryNewDoor_67 ?_
          exact sw_ri hx hb hr hlocks hW rfl h dX5_tryNewDoor_68
        · have h := h.2 k5
          refine lv_bipush (v := -3) hx hb dX5_tryNewDoor_29 (by decide) ?_
          exact sw_ri hx hb hr hlocks hW rfl h dX5_tryNewDoor_31
      · have h := h.2 k4
        refine lv_bipush (v := -2) hx hb dX5_tryNewDoor_17 (by decide) ?_
        exact sw_ri hx hb hr hlocks hW rfl h dX5_tryNewDoor_19

theorem cv_X5_tryNewExaminer : sw_cV yX5_tryNewExaminer RX5 cX5_tryNewExaminer 5 (some .int) 4 := ⟨q_270, q_271, q_3, q_272, by decide +kernel⟩
def wX5_tryNewExaminer (i : Nat) (a1 : Int32) (a2 : Int32) (a3 : Int32) (a4 : Int32) (M : sM) (Q : Int32 → sM → Prop) : Prop :=
  wX6_isFrame a1 (fun r1 => (r1 = 0 → (Q (-2 : Int32) M)) ∧ (¬ r1 = 0 → ((a2 < (1 : Int32) → (Q (-2 : Int32) M)) ∧ (¬ a2 < (1 : Int32) → (((64 : Int32) ≤ a2 → (Q (-2 : Int32) M)) ∧ (¬ (64 : Int32) ≤ a2 → ((a3 < (1 : Int32) → (Q (-2 : Int32) M)) ∧ (¬ a3 < (1 : Int32) → (((4 : Int32) < a3 → (Q (-2 : Int32) M)) ∧ (¬ (4 : Int32) < a3 → ((a4 < 0 → (Q (-2 : Int32) M)) ∧ (¬ a4 < 0 → ((a4 ≤ (9 : Int32) → (((M (sw_st i) 6) < (6 : Int32) → (vp_in (M (sw_st i) 6) 6 ∧ (∀ M11 : sM, M11 = sw_ms M (sw_st i + 3) ((M (sw_st i) 6)).toNatClampNeg (vp_nar .char a1) → (vp_in (M11 (sw_st i) 6) 6 ∧ (∀ M13 : sM, M13 = sw_ms M11 (sw_st i + 4) ((M11 (sw_st i) 6)).toNatClampNeg a2 → (vp_in (M13 (sw_st i) 6) 6 ∧ (∀ M15 : sM, M15 = sw_ms M13 (sw_st i + 5) ((M13 (sw_st i) 6)).toNatClampNeg a3 → (vp_in (M15 (sw_st i) 6) 6 ∧ (∀ M17 : sM, M17 = sw_ms M15 (sw_st i + 6) ((M15 (sw_st i) 6)).toNatClampNeg a4 → (∀ M18 : sM, M18 = sw_ms M17 (sw_st i) 6 ((M17 (sw_st i) 6) + (1 : Int32)) → (Q ((M18 (sw_st i) 6) - (1 : Int32)) M18))))))))))) ∧ (¬ (M (sw_st i) 6) < (6 : Int32) → (Q (-3 : Int32) M)))) ∧ (¬ a4 ≤ (9 : Int32) → (Q (-2 : Int32) M)))))))))))))))
set_option maxRecDepth 20000 in
theorem kX5_tryNewExaminer (l : Launch) (g : sG) (i : Nat) (hi : i < 11) (a1 : Int32) (a2 : Int32) (a3 : Int32) (a4 : Int32) (M : sM) (Q : Int32 → sM → Prop) (h : wX5_tryNewExaminer i a1 a2 a3 a4 M Q) : Met l yX5_tryNewExaminer (sw_ws yX5_tryNewExaminer cX5_tryNewExaminer 5 (some .int)) { frames := 1, cells := 0, slots := 0, locals := 20 } (va_Pc [.ref (sw_ad g (sw_st i)), .int a1, .int a2, .int a3, .int a4] (sw_Pr g M)) (va_Qi Q (sw_Po g) (sw_A g)) 0 0 (sw_A g) := by
  refine sw_met (by decide) (Nat.le_of_ble_eq_true rfl) ?_
  intro p e s m args below meth c ls hx hb hr hts hown hml hlocks hW hl
  have hown : s.vm.findClass RX5 = some m.cls := hown
  have hl : lv_has ls 5 [(0, .ref (sw_ad g (sw_st i))), (1, .int a1), (2, .int a2), (3, .int a3), (4, .int a4)] := hl
  unfold wX5_tryNewExaminer at h
  refine lv_iload_n hx hb dX5_tryNewExaminer_0 rfl (lv_at hl 1 rfl) ?_
  refine sw_ki (rest := []) (sw_runN (As := [.int a1]) (rest := []) hx hb hml hown hts (kX6_isFrame l g a1 M _ h) cs_X6_isFrame qn_X5_123 rfl rfl ⟨(Nat.le_of_ble_eq_true rfl), (Nat.le_of_ble_eq_true rfl)⟩ hW rfl hl.1 rfl (Nat.le_of_ble_eq_true rfl) dX5_tryNewExaminer_1 ⟨(Nat.le_of_ble_eq_true rfl), (Nat.le_of_ble_eq_true rfl)⟩) hW (fun r1 M19 H locs h hW => ?_)
  obtain ⟨h, eM19⟩ := h
  rw [eM19] at hW
  refine lv_if_eq (tgt := 40) hx hb dX5_tryNewExaminer_4 (by decide) (fun k2 => ?_) (fun k2 => ?_)
  · have h := h.1 k2
    refine lv_bipush (v := -2) hx hb dX5_tryNewExaminer_40 (by decide) ?_
    exact sw_ri hx hb hr hlocks hW rfl h dX5_tryNewExaminer_42
  · have h := h.2 k2
    refine lv_iload_n hx hb dX5_tryNewExaminer_7 rfl (lv_at hl 2 rfl) ?_
    refine lv_iconst (v := 1) hx hb dX5_tryNewExaminer_8 (by decide) ?_
    refine lv_icmp_lt (tgt := 40) hx hb dX5_tryNewExaminer_9 (by decide) (fun k3 => ?_) (fun k3 => ?_)
    · have h := h.1 k3
      refine lv_bipush (v := -2) hx hb dX5_tryNewExaminer_40 (by decide) ?_
      exact sw_ri hx hb hr hlocks hW rfl h dX5_tryNewExaminer_42
    · have h := h.2 k3
      refine lv_iload_n hx hb dX5_tryNewExaminer_12 rfl (lv_at hl 2 rfl) ?_
      refine lv_bipush (v := 64) hx hb dX5_tryNewExaminer_13 (by decide) ?_
      refine lv_icmp_ge (tgt := 40) hx hb dX5_tryNewExaminer_15 (by decide) (fun k4 => ?_) (fun k4 => ?_)
      · have h := h.1 k4
        refine lv_bipush (v := -2) hx hb dX5_tryNewExaminer_40 (by decide) ?_
        exact sw_ri hx hb hr hlocks hW rfl h dX5_tryNewExaminer_42
      · have h := h.2 k4
        refine lv_iload_n hx hb dX5_tryNewExaminer_18 rfl (lv_at hl 3 rfl) ?_
        refine lv_iconst (v := 1) hx hb dX5_tryNewExaminer_19 (by decide) ?_
        refine lv_icmp_lt (tgt := 40) hx hb dX5_tryNewExaminer_20 (by decide) (fun k5 => ?_) (fun k5 => ?_)
        · have h := h.1 k5
          refine lv_bipush (v := -2) hx hb dX5_tryNewExaminer_40 (by decide) ?_
          exact sw_ri hx hb hr hlocks hW rfl h dX5_tryNewExaminer_42
        · have h := h.2 k5
          refine lv_iload_n hx hb dX5_tryNewExaminer_23 rfl (lv_at hl 3 rfl) ?_
          refine lv_iconst (v := 4) hx hb dX5_tryNewExaminer_24 (by decide) ?_
          refine lv_icmp_gt (tgt := 40) hx hb dX5_tryNewExaminer_25 (by decide) (fun k6 => ?_) (fun k6 => ?_)
          · have h := h.1 k6
            refine lv_bipush (v := -2) hx hb dX5_tryNewExaminer_40 (by decide) ?_
            exact sw_ri hx hb hr hlocks hW rfl h dX5_tryNewExaminer_42
          · have h := h.2 k6
            refine lv_iload hx hb dX5_tryNewExaminer_28 (lv_at hl 4 rfl) ?_
            refine lv_if_lt (tgt := 40) hx hb dX5_tryNewExaminer_30 (by decide) (fun k7 => ?_) (fun k7 => ?_)
            · have h := h.1 k7
              refine lv_bipush (v := -2) hx hb dX5_tryNewExaminer_40 (by decide) ?_
              exact sw_ri hx hb hr hlocks hW rfl h dX5_tryNewExaminer_42
            · have h := h.2 k7
              refine lv_iload hx hb dX5_tryNewExaminer_33 (lv_at hl 4 rfl) ?_
              refine lv_bipush (v := 9) hx hb dX5_tryNewExaminer_35 (by decide) ?_
              refine lv_icmp_le (tgt := 43) hx hb dX5_tryNewExaminer_37 (by decide) (fun k8 => ?_) (fun k8 => ?_)
              · have h := h.1 k8
                refine lv_aload_n hx hb dX5_tryNewExaminer_43 rfl (lv_at hl 0 rfl) ?_
                refine sw_gi (j := 6) hx hb hts hown hW rfl qf_5 (sw_st_lt0 hi) (sw_lay_so i) rfl (Nat.le_of_ble_eq_true rfl) q_65 dX5_tryNewExaminer_44 ?_
                refine lv_bipush (v := 6) hx hb dX5_tryNewExaminer_47 (by decide) ?_
                refine lv_icmp_lt (tgt := 55) hx hb dX5_tryNewExaminer_49 (by decide) (fun k9 => ?_) (fun k9 => ?_)
                · have h := h.1 k9
                  refine lv_aload_n hx hb dX5_tryNewExaminer_55 rfl (lv_at hl 0 rfl) ?_
                  refine sw_gr (j := 7) (r := (sw_st i + 3)) hx hb hts hown hW rfl qf_5 (sw_st_lt0 hi) (sw_lay_so i) rfl (Nat.le_of_ble_eq_true rfl) q_70 dX5_tryNewExaminer_56 ?_
                  refine lv_aload_n hx hb dX5_tryNewExaminer_59 rfl (lv_at hl 0 rfl) ?_
                  refine sw_gi (j := 6) hx hb hts hown hW rfl qf_5 (sw_st_lt0 hi) (sw_lay_so i) rfl (Nat.le_of_ble_eq_true rfl) q_65 dX5_tryNewExaminer_60 ?_
                  refine lv_iload_n hx hb dX5_tryNewExaminer_63 rfl (lv_at hl 1 rfl) ?_
                  have b10 := h.1
                  have h := h.2
                  refine sw_cs (n := 6) hx hb hW (sw_st_lt hi (Nat.le_of_ble_eq_true rfl)) (sw_lay_s i 3 (Nat.le_of_ble_eq_true rfl)) b10 dX5_tryNewExaminer_64 (fun H locs hW => ?_)
                  obtain ⟨M11, eM11⟩ : ∃ z : sM, z = sw_ms M (sw_st i + 3) ((M (sw_st i) 6)).toNatClampNeg (vp_nar .char a1) := ⟨_, rfl⟩
                  rw [← eM11] at hW
                  have h := h M11 eM11
                  refine lv_aload_n hx hb dX5_tryNewExaminer_65 rfl (lv_at hl 0 rfl) ?_
                  refine sw_gr (j := 8) (r := (sw_st i + 4)) hx hb hts hown hW rfl qf_5 (sw_st_lt0 hi) (sw_lay_so i) rfl (Nat.le_of_ble_eq_true rfl) q_74 dX5_tryNewExaminer_66 ?_
                  refine lv_aload_n hx hb dX5_tryNewExaminer_69 rfl (lv_at hl 0 rfl) ?_
                  refine sw_gi (j := 6) hx hb hts hown hW rfl qf_5 (sw_st_lt0 hi) (sw_lay_so i) rfl (Nat.le_of_ble_eq_true rfl) q_65 dX5_tryNewExaminer_70 ?_
                  refine lv_iload_n hx hb dX5_tryNewExaminer_73 rfl (lv_at hl 2 rfl) ?_
                  have b12 := h.1
                  have h := h.2
                  refine sw_is (n := 6) hx hb hW (sw_st_lt hi (Nat.le_of_ble_eq_true rfl)) (sw_lay_s i 4 (Nat.le_of_ble_eq_true rfl)) b12 dX5_tryNewExaminer_74 (fun H locs hW => ?_)
                  obtain ⟨M13, eM13⟩ : ∃ z : sM, z = sw_ms M11 (sw_st i + 4) ((M11 (sw_st i) 6)).toNatClampNeg a2 := ⟨_, rfl⟩
                  rw [← eM13] at hW
                  have h := h M13 eM13
                  refine lv_aload_n hx hb dX5_tryNewExaminer_75 rfl (lv_at hl 0 rfl) ?_
                  refine sw_gr (j := 9) (r := (sw_st i + 5)) hx hb hts hown hW rfl qf_5 (sw_st_lt0 hi) (sw_lay_so i) rfl (Nat.le_of_ble_eq_true rfl) q_76 dX5_tryNewExaminer_76 ?_
                  refine lv_aload_n hx hb dX5_tryNewExaminer_79 rfl (lv_at hl 0 rfl) ?_
                  refine sw_gi (j := 6) hx hb hts hown hW rfl qf_5 (sw_st_lt0 hi) (sw_lay_so i) rfl (Nat.le_of_ble_eq_true rfl) q_65 dX5_tryNewExaminer_80 ?_
                  refine lv_iload_n hx hb dX5_tryNewExaminer_83 rfl (lv_at hl 3 rfl) ?_
                  have b14 := h.1
                  have h := h.2
                  refine sw_is (n := 6) hx hb hW (sw_st_lt hi (Nat.le_of_ble_eq_true rfl)) (sw_lay_s i 5 (Nat.le_of_ble_eq_true rfl)) b14 dX5_tryNewExaminer_84 (fun H locs hW => ?_)
                  obtain ⟨M15, eM15⟩ : ∃ z : sM, z = sw_ms M13 (sw_st i + 5) ((M13 (sw_st i) 6)).toNatClampNeg a3 := ⟨_, rfl⟩
                  rw [← eM15] at hW
                  have h := h M15 eM15
                  refine lv_aload_n hx hb dX5_tryNewExaminer_85 rfl (lv_at hl 0 rfl) ?_
                  refine sw_gr (j := 10) (r := (sw_st i + 6)) hx hb hts hown hW rfl qf_5 (sw_st_lt0 hi) (sw_lay_so i) rfl (Nat.le_of_ble_eq_true rfl) q_78 dX5_tryNewExaminer_86 ?_
                  refine lv_aload_n hx hb dX5_tryNewExaminer_89 rfl (lv_at hl 0 rfl) ?_
                  refine sw_gi (j := 6) hx hb hts hown hW rfl qf_5 (sw_st_lt0 hi) (sw_lay_so i) rfl (Nat.le_of_ble_eq_true rfl) q_65 dX5_tryNewExaminer_90 ?_
                  refine lv_iload hx hb dX5_tryNewExaminer_93 (lv_at hl 4 rfl) ?_
                  have b16 := h.1
                  have h := h.2
                  refine sw_is (n := 6) hx hb hW (sw_st_lt hi (Nat.le_of_ble_eq_true rfl)) (sw_lay_s i 6 (Nat.le_of_ble_eq_true rfl)) b16 dX5_tryNewExaminer_95 (fun H locs hW => ?_)
                  obtain ⟨M17, eM17⟩ : ∃ z : sM, z = sw_ms M15 (sw_st i + 6) ((M15 (sw_st i) 6)).toNatClampNeg a4 := ⟨_, rfl⟩
                  rw [← eM17] at hW
                  have h := h M17 eM17
                  refine lv_aload_n hx hb dX5_tryNewExaminer_96 rfl (lv_at hl 0 rfl) ?_
                  refine lv_dup hx hb dX5_tryNewExaminer_97 rfl ?_
                  refine sw_gi (j := 6) hx hb hts hown hW rfl qf_5 (sw_st_lt0 hi) (sw_lay_so i) rfl (Nat.le_of_ble_eq_true rfl) q_65 dX5_tryNewExaminer_98 ?_
                  refine lv_iconst (v := 1) hx hb dX5_tryNewExaminer_101 (by decide) ?_
                  refine lv_iadd hx hb dX5_tryNewExaminer_102 ?_
                  refine sw_pi (j := 6) hx hb hts hown hW rfl qf_5 tyX5 tyX5_ok nmX5 (sw_st_lt0 hi) (sw_lay_so i) rfl (Nat.le_of_ble_eq_true rfl) q_65 rfl rfl rfl dX5_tryNewExaminer_103 (fun H locs hW => ?_)
                  obtain ⟨M18, eM18⟩ : ∃ z : sM, z = sw_ms M17 (sw_st i) 6 ((M17 (sw_st i) 6) + (1 : Int32)) := ⟨_, rfl⟩
                  rw [← eM18] at hW
                  have h := h M18 eM18
                  refine lv_aload_n hx hb dX5_tryNewExaminer_106 rfl (lv_at hl 0 rfl) ?_
                  refine sw_gi (j := 6) hx hb hts hown hW rfl qf_5 (sw_st_lt0 hi) (sw_lay_so i) rfl (Nat.le_of_ble_eq_true rfl) q_65 dX5_tryNewExaminer_107 ?_
                  refine lv_iconst (v := 1) hx hb dX5_tryNewExaminer_110 (by decide) ?_
                  refine lv_isub hx hb dX5_tryNewExaminer_111 ?_
                  exact sw_ri hx hb hr hlocks hW rfl h dX5_tryNewExaminer_112
                · have h := h.2 k9
                  refine lv_bipush (v := -3) hx hb dX5_tryNewExaminer_52 (by decide) ?_
                  exact sw_ri hx hb hr hlocks hW rfl h dX5_tryNewExaminer_54
              · have h := h.2 k8
                refine lv_bipush (v := -2) hx hb dX5_tryNewExaminer_40 (by decide) ?_
                exact sw_ri hx hb hr hlocks hW rfl h dX5_tryNewExaminer_42

theorem cv_X5_tryConflict : sw_cV yX5_tryConflict RX5 cX5_tryConflict 3 (some .int) 2 := ⟨q_391, q_392, q_3, q_393, by decide +kernel⟩
def wX5_tryConflict (i : Nat) (a1 : Int32) (a2 : Int32) (M : sM) (Q : Int32 → sM → Prop) : Prop :=
  wX5_hasPair i a1 a2 M (fun r1 => (r1 = 0 → (Q (-1 : Int32) M)) ∧ (¬ r1 = 0 → (vp_in a1 6 ∧ (wX6_contains (M (sw_st i + 7) (a1).toNatClampNeg) a2 (fun r4 => (r4 = 0 → (wX5_assigned i a1 a2 M (fun r6 => (r6 = 0 → (vp_in a1 6 ∧ (vp_in a1 6 ∧ (∀ M10 : sM, M10 = sw_ms M (sw_st i + 7) (a1).toNatClampNeg ((M (sw_st i + 7) (a1).toNatClampNeg) ||| ((1 : Int32) <<< (a2 &&& 31))) → (wX5_neutralCount i a2 M10 (fun r11 => Q r11 M10)))))) ∧ (¬ r6 = 0 → (Q (-3 : Int32) M))))) ∧ (¬ r4 = 0 → (Q (-3 : Int32) M)))))))
set_option maxRecDepth 20000 in
theorem kX5_tryConflict (l : Launch) (g : sG) (i : Nat) (hi : i < 11) (a1 : Int32) (a2 : Int32) (M : sM) (Q : Int32 → sM → Prop) (h : wX5_tryConflict i a1 a2 M Q) : Met l yX5_tryConflict (sw_ws yX5_tryConflict cX5_tryConflict 3 (some .int)) { frames := 2, cells := 0, slots := 0, locals := 45 } (va_Pc [.ref (sw_ad g (sw_st i)), .int a1, .int a2] (sw_Pr g M)) (va_Qi Q (sw_Po g) (sw_A g)) 0 0 (sw_A g) := by
  refine sw_met (by decide) (Nat.le_of_ble_eq_true rfl) ?_
  intro p e s m args below meth c ls hx hb hr hts hown hml hlocks hW hl
  have hown : s.vm.findClass RX5 = some m.cls := hown
  have hl : lv_has ls 3 [(0, .ref (sw_ad g (sw_st i))), (1, .int a1), (2, .int a2)] := hl
  unfold wX5_tryConflict at h
  refine lv_aload_n hx hb dX5_tryConflict_0 rfl (lv_at hl 0 rfl) ?_
  refine lv_iload_n hx hb dX5_tryConflict_1 rfl (lv_at hl 1 rfl) ?_
  refine lv_iload_n hx hb dX5_tryConflict_2 rfl (lv_at hl 2 rfl) ?_
  refine sw_ki (rest := []) (sw_runV (As := [.int a1, .int a2]) (rest := []) hx hb hml hown hts (kX5_hasPair l g i hi a1 a2 M _ h) cv_X5_hasPair q_302 rfl rfl ⟨(Nat.le_of_ble_eq_true rfl), (Nat.le_of_ble_eq_true rfl)⟩ hW (sw_st_lt0 hi) (sw_lay_so i) rfl rfl hl.1 rfl (Nat.le_of_ble_eq_true rfl) dX5_tryConflict_3 ⟨(Nat.le_of_ble_eq_true rfl), (Nat.le_of_ble_eq_true rfl)⟩) hW (fun r1 M15 H locs h hW => ?_)
  obtain ⟨h, eM15⟩ := h
  rw [eM15] at hW
  refine lv_if_ne (tgt := 11) hx hb dX5_tryConflict_6 (by decide) (fun k2 => ?_) (fun k2 => ?_)
  · have h := h.2 k2
    refine lv_aload_n hx hb dX5_tryConflict_11 rfl (lv_at hl 0 rfl) ?_
    refine sw_gr (j := 11) (r := (sw_st i + 7)) hx hb hts hown hW rfl qf_5 (sw_st_lt0 hi) (sw_lay_so i) rfl (Nat.le_of_ble_eq_true rfl) q_81 dX5_tryConflict_12 ?_
    refine lv_iload_n hx hb dX5_tryConflict_15 rfl (lv_at hl 1 rfl) ?_
    have b3 := h.1
    have h := h.2
    refine sw_ia (n := 6) hx hb hW (sw_st_lt hi (Nat.le_of_ble_eq_true rfl)) (sw_lay_s i 7 (Nat.le_of_ble_eq_true rfl)) b3 dX5_tryConflict_16 ?_
    refine lv_iload_n hx hb dX5_tryConflict_17 rfl (lv_at hl 2 rfl) ?_
    refine sw_ki (rest := []) (sw_runN (As := [.int (M (sw_st i + 7) (a1).toNatClampNeg), .int a2]) (rest := []) hx hb hml hown hts (kX6_contains l g (M (sw_st i + 7) (a1).toNatClampNeg) a2 M _ h) cs_X6_contains qn_X5_78 rfl rfl ⟨(Nat.le_of_ble_eq_true rfl), (Nat.le_of_ble_eq_true rfl)⟩ hW rfl hl.1 rfl (Nat.le_of_ble_eq_true rfl) dX5_tryConflict_18 ⟨(Nat.le_of_ble_eq_true rfl), (Nat.le_of_ble_eq_true rfl)⟩) hW (fun r4 M14 H locs h hW => ?_)
    obtain ⟨h, eM14⟩ := h
    rw [eM14] at hW
    refine lv_if_ne (tgt := 33) hx hb dX5_tryConflict_21 (by decide) (fun k5 => ?_) (fun k5 => ?_)
    · have h := h.2 k5
      refine lv_bipush (v := -3) hx hb dX5_tryConflict_33 (by decide) ?_
      exact sw_ri hx hb hr hlocks hW rfl h dX5_tryConflict_35
    · have h := h.1 k5
      refine lv_aload_n hx hb dX5_tryConflict_24 rfl (lv_at hl 0 rfl) ?_
      refine lv_iload_n hx hb dX5_tryConflict_25 rfl (lv_at hl 1 rfl) ?_
      refine lv_iload_n hx hb dX5_tryConflict_26 rfl (lv_at hl 2 rfl) ?_
      refine sw_ki (rest := []) (sw_runV (As := [.int a1, .int a2]) (rest := []) hx hb hml hown hts (kX5_assigned l g i hi a1 a2 M _ h) cv_X5_assigned q_314 rfl rfl ⟨(Nat.le_of_ble_eq_true rfl), (Nat.le_of_ble_eq_true rfl)⟩ hW (sw_st_lt0 hi) (sw_lay_so i) rfl rfl hl.1 rfl (Nat.le_of_ble_eq_true rfl) dX5_tryConflict_27 ⟨(Nat.le_of_ble_eq_true rfl), (Nat.le_of_ble_eq_true rfl)⟩) hW (fun r6 M13 H locs h hW => ?_)
      obtain ⟨h, eM13⟩ := h
      rw [eM13] at hW
      refine lv_if_eq (tgt := 36) hx hb dX5_tryConflict_30 (by decide) (fun k7 => ?_) (fun k7 => ?_)
      · have h := h.1 k7
        refine lv_aload_n hx hb dX5_tryConflict_36 rfl (lv_at hl 0 rfl) ?_
        refine sw_gr (j := 11) (r := (sw_st i + 7)) hx hb hts hown hW rfl qf_5 (sw_st_lt0 hi) (sw_lay_so i) rfl (Nat.le_of_ble_eq_true rfl) q_81 dX5_tryConflict_37 ?_
        refine lv_iload_n hx hb dX5_tryConflict_40 rfl (lv_at hl 1 rfl) ?_
        refine lv_dup2_11 hx hb dX5_tryConflict_41 rfl rfl ?_
        have b8 := h.1
        have h := h.2
        refine sw_ia (n := 6) hx hb hW (sw_st_lt hi (Nat.le_of_ble_eq_true rfl)) (sw_lay_s i 7 (Nat.le_of_ble_eq_true rfl)) b8 dX5_tryConflict_42 ?_
        refine lv_iconst (v := 1) hx hb dX5_tryConflict_43 (by decide) ?_
        refine lv_iload_n hx hb dX5_tryConflict_44 rfl (lv_at hl 2 rfl) ?_
        refine lv_ishl hx hb dX5_tryConflict_45 ?_
        refine lv_ior hx hb dX5_tryConflict_46 ?_
        have b9 := h.1
        have h := h.2
        refine sw_is (n := 6) hx hb hW (sw_st_lt hi (Nat.le_of_ble_eq_true rfl)) (sw_lay_s i 7 (Nat.le_of_ble_eq_true rfl)) b9 dX5_tryConflict_47 (fun H locs hW => ?_)
        obtain ⟨M10, eM10⟩ : ∃ z : sM, z = sw_ms M (sw_st i + 7) (a1).toNatClampNeg ((M (sw_st i + 7) (a1).toNatClampNeg) ||| ((1 : Int32) <<< (a2 &&& 31))) := ⟨_, rfl⟩
        rw [← eM10] at hW
        have h := h M10 eM10
        refine lv_aload_n hx hb dX5_tryConflict_48 rfl (lv_at hl 0 rfl) ?_
        refine lv_iload_n hx hb dX5_tryConflict_49 rfl (lv_at hl 2 rfl) ?_
        refine sw_ki (rest := []) (sw_runV (As := [.int a2]) (rest := []) hx hb hml hown hts (kX5_neutralCount l g i hi a2 M10 _ h) cv_X5_neutralCount q_394 rfl rfl ⟨(Nat.le_of_ble_eq_true rfl), (Nat.le_of_ble_eq_true rfl)⟩ hW (sw_st_lt0 hi) (sw_lay_so i) rfl rfl hl.1 rfl (Nat.le_of_ble_eq_true rfl) dX5_tryConflict_50 ⟨(Nat.le_of_ble_eq_true rfl), (Nat.le_of_ble_eq_true rfl)⟩) hW (fun r11 M12 H locs h hW => ?_)
        obtain ⟨h, eM12⟩ := h
        rw [eM12] at hW
        exact sw_ri hx hb hr hlocks hW rfl h dX5_tryConflict_53
      · have h := h.2 k7
        refine lv_bipush (v := -3) hx hb dX5_tryConflict_33 (by decide) ?_
        exact sw_ri hx hb hr hlocks hW rfl h dX5_tryConflict_35
  · have h := h.1 k2
    refine lv_iconst (v := -1) hx hb dX5_tryConflict_9 (by decide) ?_
    exact sw_ri hx hb hr hlocks hW rfl h dX5_tryConflict_10

theorem cv_X5_tryAssignment : sw_cV yX5_tryAssignment RX5 cX5_tryAssignment 3 (some .int) 2 := ⟨q_299, q_300, q_3, q_301, by decide +kernel⟩
def wX5_tryAssignment (i : Nat) (a1 : Int32) (a2 : Int32) (M : sM) (Q : Int32 → sM → Prop) : Prop :=
  wX5_hasPair i a1 a2 M (fun r1 => (r1 = 0 → (Q (-1 : Int32) M)) ∧ (¬ r1 = 0 → (wX5_assigned i a1 a2 M (fun r3 => (r3 = 0 → (wX5_assignedCount i a2 M (fun r5 => ((3 : Int32) ≤ r5 → (Q (-3 : Int32) M)) ∧ (¬ (3 : Int32) ≤ r5 → (wX5_freeCapacity i a1 M (fun r7 => (0 < r7 → (wX5_canJudge i a1 a2 M (fun r9 => (r9 = 0 → (Q (-4 : Int32) M)) ∧ (¬ r9 = 0 → (vp_in a1 6 ∧ (vp_in a1 6 ∧ (∀ M13 : sM, M13 = sw_ms M (sw_st i + 8) (a1).toNatClampNeg ((M (sw_st i + 8) (a1).toNatClampNeg) ||| ((1 : Int32) <<< (a2 &&& 31))) → (wX5_assignedCount i a2 M13 (fun r14 => Q r14 M13))))))))) ∧ (¬ 0 < r7 → (Q (-3 : Int32) M)))))))) ∧ (¬ r3 = 0 → (Q (-3 : Int32) M))))))
set_option maxRecDepth 20000 in
theorem kX5_tryAssignment (l : Launch) (g : sG) (i : Nat) (hi : i < 11) (a1 : Int32) (a2 : Int32) (M : sM) (Q : Int32 → sM → Prop) (h : wX5_tryAssignment i a1 a2 M Q) : Met l yX5_tryAssignment (sw_ws yX5_tryAssignment cX5_tryAssignment 3 (some .int)) { frames := 3, cells := 0, slots := 0, locals := 62 } (va_Pc [.ref (sw_ad g (sw_st i)), .int a1, .int a2] (sw_Pr g M)) (va_Qi Q (sw_Po g) (sw_A g)) 0 0 (sw_A g) := by
  refine sw_met (by decide) (Nat.le_of_ble_eq_true rfl) ?_
  intro p e s m args below meth c ls hx hb hr hts hown hml hlocks hW hl
  have hown : s.vm.findClass RX5 = some m.cls := hown
  have hl : lv_has ls 3 [(0, .ref (sw_ad g (sw_st i))), (1, .int a1), (2, .int a2)] := hl
  unfold wX5_tryAssignment at h
  refine lv_aload_n hx hb dX5_tryAssignment_0 rfl (lv_at hl 0 rfl) ?_
  refine lv_iload_n hx hb dX5_tryAssignment_1 rfl (lv_at hl 1 rfl) ?_
  refine lv_iload_n hx hb dX5_tryAssignment_2 rfl (lv_at hl 2 rfl) ?_
  refine sw_ki (rest := []) (sw_runV (As := [.int a1, .int a2]) (rest := []) hx hb hml hown hts (kX5_hasPair l g i hi a1 a2 M _ h) cv_X5_hasPair q_302 rfl rfl ⟨(Nat.le_of_ble_eq_true rfl), (Nat.le_of_ble_eq_true rfl)⟩ hW (sw_st_lt0 hi) (sw_lay_so i) rfl rfl hl.1 rfl (Nat.le_of_ble_eq_true rfl) dX5_tryAssignment_3 ⟨(Nat.le_of_ble_eq_true rfl), (Nat.le_of_ble_eq_true rfl)⟩) hW (fun r1 M20 H locs h hW => ?_)
  obtain ⟨h, eM20⟩ := h
  rw [eM20] at hW
  refine lv_if_ne (tgt := 11) hx hb dX5_tryAssignment_6 (by decide) (fun k2 => ?_) (fun k2 => ?_)
  · have h := h.2 k2
    refine lv_aload_n hx hb dX5_tryAssignment_11 rfl (lv_at hl 0 rfl) ?_
    refine lv_iload_n hx hb dX5_tryAssignment_12 rfl (lv_at hl 1 rfl) ?_
    refine lv_iload_n hx hb dX5_tryAssignment_13 rfl (lv_at hl 2 rfl) ?_
    refine sw_ki (rest := []) (sw_runV (As := [.int a1, .int a2]) (rest := []) hx hb hml hown hts (kX5_assigned l g i hi a1 a2 M _ h) cv_X5_assigned q_314 rfl rfl ⟨(Nat.le_of_ble_eq_true rfl), (Nat.le_of_ble_eq_true rfl)⟩ hW (sw_st_lt0 hi) (sw_lay_so i) rfl rfl hl.1 rfl (Nat.le_of_ble_eq_true rfl) dX5_tryAssignment_14 ⟨(Nat.le_of_ble_eq_true rfl), (Nat.le_of_ble_eq_true rfl)⟩) hW (fun r3 M19 H locs h hW => ?_)
    obtain ⟨h, eM19⟩ := h
    rw [eM19] at hW
    refine lv_if_ne (tgt := 37) hx hb dX5_tryAssignment_17 (by decide) (fun k4 => ?_) (fun k4 => ?_)
    · have h := h.2 k4
      refine lv_bipush (v := -3) hx hb dX5_tryAssignment_37 (by decide) ?_
      exact sw_ri hx hb hr hlocks hW rfl h dX5_tryAssignment_39
    · have h := h.1 k4
      refine lv_aload_n hx hb dX5_tryAssignment_20 rfl (lv_at hl 0 rfl) ?_
      refine lv_iload_n hx hb dX5_tryAssignment_21 rfl (lv_at hl 2 rfl) ?_
      refine sw_ki (rest := []) (sw_runV (As := [.int a2]) (rest := []) hx hb hml hown hts (kX5_assignedCount l g i hi a2 M _ h) cv_X5_assignedCount q_318 rfl rfl ⟨(Nat.le_of_ble_eq_true rfl), (Nat.le_of_ble_eq_true rfl)⟩ hW (sw_st_lt0 hi) (sw_lay_so i) rfl rfl hl.1 rfl (Nat.le_of_ble_eq_true rfl) dX5_tryAssignment_22 ⟨(Nat.le_of_ble_eq_true rfl), (Nat.le_of_ble_eq_true rfl)⟩) hW (fun r5 M18 H locs h hW => ?_)
      obtain ⟨h, eM18⟩ := h
      rw [eM18] at hW
      refine lv_iconst (v := 3) hx hb dX5_tryAssignment_25 (by decide) ?_
      refine lv_icmp_ge (tgt := 37) hx hb dX5_tryAssignment_26 (by decide) (fun k6 => ?_) (fun k6 => ?_)
      · have h := h.1 k6
        refine lv_bipush (v := -3) hx hb dX5_tryAssignment_37 (by decide) ?_
        exact sw_ri hx hb hr hlocks hW rfl h dX5_tryAssignment_39
      · have h := h.2 k6
        refine lv_aload_n hx hb dX5_tryAssignment_29 rfl (lv_at hl 0 rfl) ?_
        refine lv_iload_n hx hb dX5_tryAssignment_30 rfl (lv_at hl 1 rfl) ?_
        refine sw_ki (rest := []) (sw_runV (As := [.int a1]) (rest := []) hx hb hml hown hts (kX5_freeCapacity l g i hi a1 M _ h) cv_X5_freeCapacity q_322 rfl rfl ⟨(Nat.le_of_ble_eq_true rfl), (Nat.le_of_ble_eq_true rfl)⟩ hW (sw_st_lt0 hi) (sw_lay_so i) rfl rfl hl.1 rfl (Nat.le_of_ble_eq_true rfl) dX5_tryAssignment_31 ⟨(Nat.le_of_ble_eq_true rfl), (Nat.le_of_ble_eq_true rfl)⟩) hW (fun r7 M17 H locs h hW => ?_)
        obtain ⟨h, eM17⟩ := h
        rw [eM17] at hW
        refine lv_if_gt (tgt := 40) hx hb dX5_tryAssignment_34 (by decide) (fun k8 => ?_) (fun k8 => ?_)
        · have h := h.1 k8
          refine lv_aload_n hx hb dX5_tryAssignment_40 rfl (lv_at hl 0 rfl) ?_
          refine lv_iload_n hx hb dX5_tryAssignment_41 rfl (lv_at hl 1 rfl) ?_
          refine lv_iload_n hx hb dX5_tryAssignment_42 rfl (lv_at hl 2 rfl) ?_
          refine sw_ki (rest := []) (sw_runV (As := [.int a1, .int a2]) (rest := []) hx hb hml hown hts (kX5_canJudge l g i hi a1 a2 M _ h) cv_X5_canJudge q_336 rfl rfl ⟨(Nat.le_of_ble_eq_true rfl), (Nat.le_of_ble_eq_true rfl)⟩ hW (sw_st_lt0 hi) (sw_lay_so i) rfl rfl hl.1 rfl (Nat.le_of_ble_eq_true rfl) dX5_tryAssignment_43 ⟨(Nat.le_of_ble_eq_true rfl), (Nat.le_of_ble_eq_true rfl)⟩) hW (fun r9 M16 H locs h hW => ?_)
          obtain ⟨h, eM16⟩ := h
          rw [eM16] at hW
          refine lv_if_ne (tgt := 52) hx hb dX5_tryAssignment_46 (by decide) (fun k10 => ?_) (fun k10 => ?_)
          · have h := h.2 k10
            refine lv_aload_n hx hb dX5_tryAssignment_52 rfl (lv_at hl 0 rfl) ?_
            refine sw_gr (j := 12) (r := (sw_st i + 8)) hx hb hts hown hW rfl qf_5 (sw_st_lt0 hi) (sw_lay_so i) rfl (Nat.le_of_ble_eq_true rfl) q_82 dX5_tryAssignment_53 ?_
            refine lv_iload_n hx hb dX5_tryAssignment_56 rfl (lv_at hl 1 rfl) ?_
            refine lv_dup2_11 hx hb dX5_tryAssignment_57 rfl rfl ?_
            have b11 := h.1
            have h := h.2
            refine sw_ia (n := 6) hx hb hW (sw_st_lt hi (Nat.le_of_ble_eq_true rfl)) (sw_lay_s i 8 (Nat.le_of_ble_eq_true rfl)) b11 dX5_tryAssignment_58 ?_
            refine lv_iconst (v := 1) hx hb dX5_tryAssignment_59 (by decide) ?_
            refine lv_iload_n hx hb dX5_tryAssignment_60 rfl (lv_at hl 2 rfl) ?_
            refine lv_ishl hx hb dX5_tryAssignment_61 ?_
            refine lv_ior hx hb dX5_tryAssignment_62 ?_
            have b12 := h.1
            have h := h.2
            refine sw_is (n := 6) hx hb hW (sw_st_lt hi (Nat.le_of_ble_eq_true rfl)) (sw_lay_s i 8 (Nat.le_of_ble_eq_true rfl)) b12 dX5_tryAssignment_63 (fun H locs hW => ?_)
            obtain ⟨M13, eM13⟩ : ∃ z : sM, z = sw_ms M (sw_st i + 8) (a1).toNatClampNeg ((M (sw_st i + 8) (a1).toNatClampNeg) ||| ((1 : Int32) <<< (a2 &&& 31))) := ⟨_, rfl⟩
            rw [← eM13] at hW
            have h := h M13 eM13
            refine lv_aload_n hx hb dX5_tryAssignment_64 rfl (lv_at hl 0 rfl) ?_
            refine lv_iload_n hx hb dX5_tryAssignment_65 rfl (lv_at hl 2 rfl) ?_
            refine sw_ki (rest := []) (sw_runV (As := [.int a2]) (rest := []) hx hb hml hown hts (kX5_assignedCount l g i hi a2 M13 _ h) cv_X5_assignedCount q_318 rfl rfl ⟨(Nat.le_of_ble_eq_true rfl), (Nat.le_of_ble_eq_true rfl)⟩ hW (sw_st_lt0 hi) (sw_lay_so i) rfl rfl hl.1 rfl (Nat.le_of_ble_eq_true rfl) dX5_tryAssignment_66 ⟨(Nat.le_of_ble_eq_true rfl), (Nat.le_of_ble_eq_true rfl)⟩) hW (fun r14 M15 H locs h hW => ?_)
            obtain ⟨h, eM15⟩ := h
            rw [eM15] at hW
            exact sw_ri hx hb hr hlocks hW rfl h dX5_tryAssignment_69
          · have h := h.1 k10
            refine lv_bipush (v := -4) hx hb dX5_tryAssignment_49 (by decide) ?_
            exact sw_ri hx hb hr hlocks hW rfl h dX5_tryAssignment_51
        · have h := h.2 k8
          refine lv_bipush (v := -3) hx hb dX5_tryAssignment_37 (by decide) ?_
          exact sw_ri hx hb hr hlocks hW rfl h dX5_tryAssignment_39
  · have h := h.1 k2
    refine lv_iconst (v := -1) hx hb dX5_tryAssignment_9 (by decide) ?_
    exact sw_ri hx hb hr hlocks hW rfl h dX5_tryAssignment_10

def lX5_putPlan_4 (i : Nat) (K4 : Int32 → sM → Prop) : Nat → Int32 → Int32 → sM → Prop
  | 0, _, _, _ => False
  | n4 + 1, x2_4, x3_4, M_4 => ((M_4 (sw_st i) 3) ≤ x3_4 → (K4 x2_4 M_4)) ∧ (¬ (M_4 (sw_st i) 3) ≤ x3_4 → (vp_in x3_4 8 ∧ (((M_4 6 (x3_4).toNatClampNeg) = (-1 : Int32) → (∀ v4 : Int32, v4 = x3_4 + (1 : Int32) → ((fun x2_4 x3_4 M_4 => lX5_putPlan_4 i K4 n4 x2_4 x3_4 M_4) x2_4 v4 M_4))) ∧ (¬ (M_4 6 (x3_4).toNatClampNeg) = (-1 : Int32) → (vp_in x3_4 8 ∧ (vp_in (M_4 6 (x3_4).toNatClampNeg) 6 ∧ (vp_in (M_4 6 (x3_4).toNatClampNeg) 6 ∧ (∀ M8 : sM, M8 = sw_ms M_4 (sw_st i + 8) ((M_4 6 (x3_4).toNatClampNeg)).toNatClampNeg ((M_4 (sw_st i + 8) ((M_4 6 (x3_4).toNatClampNeg)).toNatClampNeg) ||| ((1 : Int32) <<< (x3_4 &&& 31))) → (∀ v9 : Int32, v9 = x2_4 + (1 : Int32) → (∀ v10 : Int32, v10 = x3_4 + (1 : Int32) → ((fun x2_4 x3_4 M_4 => lX5_putPlan_4 i K4 n4 x2_4 x3_4 M_4) v9 v10 M8)))))))))))
theorem cv_X5_putPlan : sw_cV yX5_putPlan RX5 cX5_putPlan 4 (some .int) 1 := ⟨q_381, q_382, q_3, q_383, by decide +kernel⟩
def wX5_putPlan (i : Nat) (M : sM) (Q : Int32 → sM → Prop) : Prop :=
  ∃ n4, lX5_putPlan_4 i (fun x2_4k M_4k => Q x2_4k M_4k) n4 (0 : Int32) (0 : Int32) M
set_option maxRecDepth 20000 in
theorem kX5_putPlan (l : Launch) (g : sG) (i : Nat) (hi : i < 11) (M : sM) (Q : Int32 → sM → Prop) (h : wX5_putPlan i M Q) : Met l yX5_putPlan (sw_ws yX5_putPlan cX5_putPlan 4 (some .int)) { frames := 0, cells := 0, slots := 0, locals := 0 } (va_Pc [.ref (sw_ad g (sw_st i)), .ref (sw_ad g 6)] (sw_Pr g M)) (va_Qi Q (sw_Po g) (sw_A g)) 0 0 (sw_A g) := by
  refine sw_met (by decide) (Nat.le_of_ble_eq_true rfl) ?_
  intro p e s m args below meth c ls hx hb hr hts hown hml hlocks hW hl
  have hown : s.vm.findClass RX5 = some m.cls := hown
  have hl : lv_has ls 4 [(0, .ref (sw_ad g (sw_st i))), (1, .ref (sw_ad g 6))] := hl
  unfold wX5_putPlan at h
  refine lv_iconst (v := 0) hx hb dX5_putPlan_0 (by decide) ?_
  refine lv_istore_n (lv' := [(2, .int (0 : Int32)), (0, .ref (sw_ad g (sw_st i))), (1, .ref (sw_ad g 6))]) hx hb dX5_putPlan_1 rfl hl (Nat.le_of_ble_eq_true rfl) rfl (fun ls hl => ?_)
  refine lv_iconst (v := 0) hx hb dX5_putPlan_2 (by decide) ?_
  refine lv_istore_n (lv' := [(3, .int (0 : Int32)), (2, .int (0 : Int32)), (0, .ref (sw_ad g (sw_st i))), (1, .ref (sw_ad g 6))]) hx hb dX5_putPlan_3 rfl hl (Nat.le_of_ble_eq_true rfl) rfl (fun ls hl => ?_)
  obtain ⟨n4, h⟩ := h
  refine sw_lp_iiM (hd := 4) (Lf := fun x2_4 x3_4 M_4 => [(0, .ref (sw_ad g (sw_st i))), (1, .ref (sw_ad g 6)), (2, .int x2_4), (3, .int x3_4)]) h hW (lv_sub hl [2, 3, 1, 0] rfl) (fun _ _ _ h => h) (fun n4 ih4 x2_4 x3_4 M_4 H locs ls h hW hl => ?_)
  rw [lX5_putPlan_4.eq_2] at h
  refine lv_iload_n hx hb dX5_putPlan_4 rfl (lv_at hl 3 rfl) ?_
  refine lv_aload_n hx hb dX5_putPlan_5 rfl (lv_at hl 0 rfl) ?_
  refine sw_gi (j := 3) hx hb hts hown hW rfl qf_5 (sw_st_lt0 hi) (sw_lay_so i) rfl (Nat.le_of_ble_eq_true rfl) q_56 dX5_putPlan_6 ?_
  refine lv_icmp_ge (tgt := 42) hx hb dX5_putPlan_9 (by decide) (fun k1 => ?_) (fun k1 => ?_)
  · have h := h.1 k1
    refine lv_iload_n hx hb dX5_putPlan_42 rfl (lv_at hl 2 rfl) ?_
    exact sw_ri hx hb hr hlocks hW rfl h dX5_putPlan_43
  · have h := h.2 k1
    refine lv_aload_n hx hb dX5_putPlan_12 rfl (lv_at hl 1 rfl) ?_
    refine lv_iload_n hx hb dX5_putPlan_13 rfl (lv_at hl 3 rfl) ?_
    have b2 := h.1
    have h := h.2
    refine sw_ia (n := 8) hx hb hW (Or.inl (Nat.le_of_ble_eq_true rfl)) sl_6 b2 dX5_putPlan_14 ?_
    refine lv_iconst (v := -1) hx hb dX5_putPlan_15 (by decide) ?_
    refine lv_icmp_eq (tgt := 36) hx hb dX5_putPlan_16 (by decide) (fun k3 => ?_) (fun k3 => ?_)
    · have h := h.1 k3
      obtain ⟨v4, ev4⟩ : ∃ z : Int32, z = x3_4 + (1 : Int32) := ⟨_, rfl⟩
      have h := h v4 ev4
      refine lv_iinc (v := v4) (lv' := [(3, .int v4), (0, .ref (sw_ad g (sw_st i))), (1, .ref (sw_ad g 6)), (2, .int x2_4)]) hx hb dX5_putPlan_36 hl (k := 3) rfl (by rw [ev4]; rfl) (Nat.le_of_ble_eq_true rfl) rfl (fun ls hl => ?_)
      refine lv_goto (tgt := 4) hx hb dX5_putPlan_39 (by decide) ?_
      exact ih4 _ _ _ _ _ _ h hW (lv_sub hl [1, 2, 3, 0] rfl)
    · have h := h.2 k3
      refine lv_aload_n hx hb dX5_putPlan_19 rfl (lv_at hl 0 rfl) ?_
      refine sw_gr (j := 12) (r := (sw_st i + 8)) hx hb hts hown hW rfl qf_5 (sw_st_lt0 hi) (sw_lay_so i) rfl (Nat.le_of_ble_eq_true rfl) q_82 dX5_putPlan_20 ?_
      refine lv_aload_n hx hb dX5_putPlan_23 rfl (lv_at hl 1 rfl) ?_
      refine lv_iload_n hx hb dX5_putPlan_24 rfl (lv_at hl 3 rfl) ?_
      have b5 := h.1
      have h := h.2
      refine sw_ia (n := 8) hx hb hW (Or.inl (Nat.le_of_ble_eq_true rfl)) sl_6 b5 dX5_putPlan_25 ?_
      refine lv_dup2_11 hx hb dX5_putPlan_26 rfl rfl ?_
      have b6 := h.1
      have h := h.2
      refine sw_ia (n := 6) hx hb hW (sw_st_lt hi (Nat.le_of_ble_eq_true rfl)) (sw_lay_s i 8 (Nat.le_of_ble_eq_true rfl)) b6 dX5_putPlan_27 ?_
      refine lv_iconst (v := 1) hx hb dX5_putPlan_28 (by decide) ?_
      refine lv_iload_n hx hb dX5_putPlan_29 rfl (lv_at hl 3 rfl) ?_
      refine lv_ishl hx hb dX5_putPlan_30 ?_
      refine lv_ior hx hb dX5_putPlan_31 ?_
      have b7 := h.1
      have h := h.2
      refine sw_is (n := 6) hx hb hW (sw_st_lt hi (Nat.le_of_ble_eq_true rfl)) (sw_lay_s i 8 (Nat.le_of_ble_eq_true rfl)) b7 dX5_putPlan_32 (fun H locs hW => ?_)
      obtain ⟨M8, eM8⟩ : ∃ z : sM, z = sw_ms M_4 (sw_st i + 8) ((M_4 6 (x3_4).toNatClampNeg)).toNatClampNeg ((M_4 (sw_st i + 8) ((M_4 6 (x3_4).toNatClampNeg)).toNatClampNeg) ||| ((1 : Int32) <<< (x3_4 &&& 31))) := ⟨_, rfl⟩
      rw [← eM8] at hW
      have h := h M8 eM8
      obtain ⟨v9, ev9⟩ : ∃ z : Int32, z = x2_4 + (1 : Int32) := ⟨_, rfl⟩
      have h := h v9 ev9
      refine lv_iinc (v := v9) (lv' := [(2, .int v9), (0, .ref (sw_ad g (sw_st i))), (1, .ref (sw_ad g 6)), (3, .int x3_4)]) hx hb dX5_putPlan_33 hl (k := 2) rfl (by rw [ev9]; rfl) (Nat.le_of_ble_eq_true rfl) rfl (fun ls hl => ?_)
      obtain ⟨v10, ev10⟩ : ∃ z : Int32, z = x3_4 + (1 : Int32) := ⟨_, rfl⟩
      have h := h v10 ev10
      refine lv_iinc (v := v10) (lv' := [(3, .int v10), (2, .int v9), (0, .ref (sw_ad g (sw_st i))), (1, .ref (sw_ad g 6))]) hx hb dX5_putPlan_36 hl (k := 3) rfl (by rw [ev10]; rfl) (Nat.le_of_ble_eq_true rfl) rfl (fun ls hl => ?_)
      refine lv_goto (tgt := 4) hx hb dX5_putPlan_39 (by decide) ?_
      exact ih4 _ _ _ _ _ _ h hW (lv_sub hl [2, 3, 1, 0] rfl)

theorem cv_X5_tryGrade : sw_cV yX5_tryGrade RX5 cX5_tryGrade 4 (some .int) 3 := ⟨q_405, q_406, q_3, q_407, by decide +kernel⟩
def wX5_tryGrade (i : Nat) (a1 : Int32) (a2 : Int32) (a3 : Int32) (M : sM) (Q : Int32 → sM → Prop) : Prop :=
  wX5_hasPair i a1 a2 M (fun r1 => (r1 = 0 → (Q (-1 : Int32) M)) ∧ (¬ r1 = 0 → ((a3 < 0 → (Q (-2 : Int32) M)) ∧ (¬ a3 < 0 → ((a3 ≤ (20 : Int32) → (wX5_assigned i a1 a2 M (fun r5 => (r5 = 0 → (Q (-3 : Int32) M)) ∧ (¬ r5 = 0 → (vp_in a1 6 ∧ (vp_in a2 8 ∧ (((M (sw_st i + 11 + (a1).toNatClampNeg) (a2).toNatClampNeg) = (-1 : Int32) → (vp_in a1 6 ∧ (vp_in a2 8 ∧ (∀ M12 : sM, M12 = sw_ms M (sw_st i + 11 + (a1).toNatClampNeg) (a2).toNatClampNeg a3 → (wX5_gradeCount i a2 M12 (fun r13 => Q r13 M12)))))) ∧ (¬ (M (sw_st i + 11 + (a1).toNatClampNeg) (a2).toNatClampNeg) = (-1 : Int32) → (Q (-3 : Int32) M))))))))) ∧ (¬ a3 ≤ (20 : Int32) → (Q (-2 : Int32) M)))))))
set_option maxRecDepth 20000 in
theorem kX5_tryGrade (l : Launch) (g : sG) (i : Nat) (hi : i < 11) (a1 : Int32) (a2 : Int32) (a3 : Int32) (M : sM) (Q : Int32 → sM → Prop) (h : wX5_tryGrade i a1 a2 a3 M Q) : Met l yX5_tryGrade (sw_ws yX5_tryGrade cX5_tryGrade 4 (some .int)) { frames := 2, cells := 0, slots := 0, locals := 43 } (va_Pc [.ref (sw_ad g (sw_st i)), .int a1, .int a2, .int a3] (sw_Pr g M)) (va_Qi Q (sw_Po g) (sw_A g)) 0 0 (sw_A g) := by
  refine sw_met (by decide) (Nat.le_of_ble_eq_true rfl) ?_
  intro p e s m args below meth c ls hx hb hr hts hown hml hlocks hW hl
  have hown : s.vm.findClass RX5 = some m.cls := hown
  have hl : lv_has ls 4 [(0, .ref (sw_ad g (sw_st i))), (1, .int a1), (2, .int a2), (3, .int a3)] := hl
  unfold wX5_tryGrade at h
  refine lv_aload_n hx hb dX5_tryGrade_0 rfl (lv_at hl 0 rfl) ?_
  refine lv_iload_n hx hb dX5_tryGrade_1 rfl (lv_at hl 1 rfl) ?_
  refine lv_iload_n hx hb dX5_tryGrade_2 rfl (lv_at hl 2 rfl) ?_
  refine sw_ki (rest := []) (sw_runV (As := [.int a1, .int a2]) (rest := []) hx hb hml hown hts (kX5_hasPair l g i hi a1 a2 M _ h) cv_X5_hasPair q_302 rfl rfl ⟨(Nat.le_of_ble_eq_true rfl), (Nat.le_of_ble_eq_true rfl)⟩ hW (sw_st_lt0 hi) (sw_lay_so i) rfl rfl hl.1 rfl (Nat.le_of_ble_eq_true rfl) dX5_tryGrade_3 ⟨(Nat.le_of_ble_eq_true rfl), (Nat.le_of_ble_eq_true rfl)⟩) hW (fun r1 M16 H locs h hW => ?_)
  obtain ⟨h, eM16⟩ := h
  rw [eM16] at hW
  refine lv_if_ne (tgt := 11) hx hb dX5_tryGrade_6 (by decide) (fun k2 => ?_) (fun k2 => ?_)
  · have h := h.2 k2
    refine lv_iload_n hx hb dX5_tryGrade_11 rfl (lv_at hl 3 rfl) ?_
    refine lv_if_lt (tgt := 21) hx hb dX5_tryGrade_12 (by decide) (fun k3 => ?_) (fun k3 => ?_)
    · have h := h.1 k3
      refine lv_bipush (v := -2) hx hb dX5_tryGrade_21 (by decide) ?_
      exact sw_ri hx hb hr hlocks hW rfl h dX5_tryGrade_23
    · have h := h.2 k3
      refine lv_iload_n hx hb dX5_tryGrade_15 rfl (lv_at hl 3 rfl) ?_
      refine lv_bipush (v := 20) hx hb dX5_tryGrade_16 (by decide) ?_
      refine lv_icmp_le (tgt := 24) hx hb dX5_tryGrade_18 (by decide) (fun k4 => ?_) (fun k4 => ?_)
      · have h := h.1 k4
        refine lv_aload_n hx hb dX5_tryGrade_24 rfl (lv_at hl 0 rfl) ?_
        refine lv_iload_n hx hb dX5_tryGrade_25 rfl (lv_at hl 1 rfl) ?_
        refine lv_iload_n hx hb dX5_tryGrade_26 rfl (lv_at hl 2 rfl) ?_
        refine sw_ki (rest := []) (sw_runV (As := [.int a1, .int a2]) (rest := []) hx hb hml hown hts (kX5_assigned l g i hi a1 a2 M _ h) cv_X5_assigned q_314 rfl rfl ⟨(Nat.le_of_ble_eq_true rfl), (Nat.le_of_ble_eq_true rfl)⟩ hW (sw_st_lt0 hi) (sw_lay_so i) rfl rfl hl.1 rfl (Nat.le_of_ble_eq_true rfl) dX5_tryGrade_27 ⟨(Nat.le_of_ble_eq_true rfl), (Nat.le_of_ble_eq_true rfl)⟩) hW (fun r5 M15 H locs h hW => ?_)
        obtain ⟨h, eM15⟩ := h
        rw [eM15] at hW
        refine lv_if_eq (tgt := 45) hx hb dX5_tryGrade_30 (by decide) (fun k6 => ?_) (fun k6 => ?_)
        · have h := h.1 k6
          refine lv_bipush (v := -3) hx hb dX5_tryGrade_45 (by decide) ?_
          exact sw_ri hx hb hr hlocks hW rfl h dX5_tryGrade_47
        · have h := h.2 k6
          refine lv_aload_n hx hb dX5_tryGrade_33 rfl (lv_at hl 0 rfl) ?_
          refine sw_gr (j := 13) (r := (sw_st i + 10)) hx hb hts hown hW rfl qf_5 (sw_st_lt0 hi) (sw_lay_so i) rfl (Nat.le_of_ble_eq_true rfl) q_83 dX5_tryGrade_34 ?_
          refine lv_iload_n hx hb dX5_tryGrade_37 rfl (lv_at hl 1 rfl) ?_
          have b7 := h.1
          have h := h.2
          refine sw_aaG hi hx hb hW b7 dX5_tryGrade_38 ?_
          refine lv_iload_n hx hb dX5_tryGrade_39 rfl (lv_at hl 2 rfl) ?_
          have b8 := h.1
          have h := h.2
          refine sw_ia (n := 8) hx hb hW (sw_g_lt hi (sw_vlt b7)) (sw_lay_g i (sw_vlt b7)) b8 dX5_tryGrade_40 ?_
          refine lv_iconst (v := -1) hx hb dX5_tryGrade_41 (by decide) ?_
          refine lv_icmp_eq (tgt := 48) hx hb dX5_tryGrade_42 (by decide) (fun k9 => ?_) (fun k9 => ?_)
          · have h := h.1 k9
            refine lv_aload_n hx hb dX5_tryGrade_48 rfl (lv_at hl 0 rfl) ?_
            refine sw_gr (j := 13) (r := (sw_st i + 10)) hx hb hts hown hW rfl qf_5 (sw_st_lt0 hi) (sw_lay_so i) rfl (Nat.le_of_ble_eq_true rfl) q_83 dX5_tryGrade_49 ?_
            refine lv_iload_n hx hb dX5_tryGrade_52 rfl (lv_at hl 1 rfl) ?_
            have b10 := h.1
            have h := h.2
            refine sw_aaG hi hx hb hW b10 dX5_tryGrade_53 ?_
            refine lv_iload_n hx hb dX5_tryGrade_54 rfl (lv_at hl 2 rfl) ?_
            refine lv_iload_n hx hb dX5_tryGrade_55 rfl (lv_at hl 3 rfl) ?_
            have b11 := h.1
            have h := h.2
            refine sw_is (n := 8) hx hb hW (sw_g_lt hi (sw_vlt b10)) (sw_lay_g i (sw_vlt b10)) b11 dX5_tryGrade_56 (fun H locs hW => ?_)
            obtain ⟨M12, eM12⟩ : ∃ z : sM, z = sw_ms M (sw_st i + 11 + (a1).toNatClampNeg) (a2).toNatClampNeg a3 := ⟨_, rfl⟩
            rw [← eM12] at hW
            have h := h M12 eM12
            refine lv_aload_n hx hb dX5_tryGrade_57 rfl (lv_at hl 0 rfl) ?_
            refine lv_iload_n hx hb dX5_tryGrade_58 rfl (lv_at hl 2 rfl) ?_
            refine sw_ki (rest := []) (sw_runV (As := [.int a2]) (rest := []) hx hb hml hown hts (kX5_gradeCount l g i hi a2 M12 _ h) cv_X5_gradeCount q_408 rfl rfl ⟨(Nat.le_of_ble_eq_true rfl), (Nat.le_of_ble_eq_true rfl)⟩ hW (sw_st_lt0 hi) (sw_lay_so i) rfl rfl hl.1 rfl (Nat.le_of_ble_eq_true rfl) dX5_tryGrade_59 ⟨(Nat.le_of_ble_eq_true rfl), (Nat.le_of_ble_eq_true rfl)⟩) hW (fun r13 M14 H locs h hW => ?_)
            obtain ⟨h, eM14⟩ := h
            rw [eM14] at hW
            exact sw_ri hx hb hr hlocks hW rfl h dX5_tryGrade_62
          · have h := h.2 k9
            refine lv_bipush (v := -3) hx hb dX5_tryGrade_45 (by decide) ?_
            exact sw_ri hx hb hr hlocks hW rfl h dX5_tryGrade_47
      · have h := h.2 k4
        refine lv_bipush (v := -2) hx hb dX5_tryGrade_21 (by decide) ?_
        exact sw_ri hx hb hr hlocks hW rfl h dX5_tryGrade_23
  · have h := h.1 k2
    refine lv_iconst (v := -1) hx hb dX5_tryGrade_9 (by decide) ?_
    exact sw_ri hx hb hr hlocks hW rfl h dX5_tryGrade_10

theorem cv_X5_tryThreshold : sw_cV yX5_tryThreshold RX5 cX5_tryThreshold 3 (some .int) 1 := ⟨q_419, q_420, q_3, q_421, by decide +kernel⟩
def wX5_tryThreshold (i : Nat) (a1 : Int32) (M : sM) (Q : Int32 → sM → Prop) : Prop :=
  (a1 < 0 → (Q (-2 : Int32) M)) ∧ (¬ a1 < 0 → ((a1 ≤ (20 : Int32) → (∀ v3 : Int32, v3 = (M (sw_st i) 14) → (∀ M4 : sM, M4 = sw_ms M (sw_st i) 14 a1 → (Q v3 M4)))) ∧ (¬ a1 ≤ (20 : Int32) → (Q (-2 : Int32) M))))
set_option maxRecDepth 20000 in
theorem kX5_tryThreshold (l : Launch) (g : sG) (i : Nat) (hi : i < 11) (a1 : Int32) (M : sM) (Q : Int32 → sM → Prop) (h : wX5_tryThreshold i a1 M Q) : Met l yX5_tryThreshold (sw_ws yX5_tryThreshold cX5_tryThreshold 3 (some .int)) { frames := 0, cells := 0, slots := 0, locals := 0 } (va_Pc [.ref (sw_ad g (sw_st i)), .int a1] (sw_Pr g M)) (va_Qi Q (sw_Po g) (sw_A g)) 0 0 (sw_A g) := by
  refine sw_met (by decide) (Nat.le_of_ble_eq_true rfl) ?_
  intro p e s m args below meth c ls hx hb hr hts hown hml hlocks hW hl
  have hown : s.vm.findClass RX5 = some m.cls := hown
  have hl : lv_has ls 3 [(0, .ref (sw_ad g (sw_st i))), (1, .int a1)] := hl
  unfold wX5_tryThreshold at h
  refine lv_iload_n hx hb dX5_tryThreshold_0 rfl (lv_at hl 1 rfl) ?_
  refine lv_if_lt (tgt := 10) hx hb dX5_tryThreshold_1 (by decide) (fun k1 => ?_) (fun k1 => ?_)
  · have h := h.1 k1
    refine lv_bipush (v := -2) hx hb dX5_tryThreshold_10 (by decide) ?_
    exact sw_ri hx hb hr hlocks hW rfl h dX5_tryThreshold_12
  · have h := h.2 k1
    refine lv_iload_n hx hb dX5_tryThreshold_4 rfl (lv_at hl 1 rfl) ?_
    refine lv_bipush (v := 20) hx hb dX5_tryThreshold_5 (by decide) ?_
    refine lv_icmp_le (tgt := 13) hx hb dX5_tryThreshold_7 (by decide) (fun k2 => ?_) (fun k2 => ?_)
    · have h := h.1 k2
      refine lv_aload_n hx hb dX5_tryThreshold_13 rfl (lv_at hl 0 rfl) ?_
      refine sw_gi (j := 14) hx hb hts hown hW rfl qf_5 (sw_st_lt0 hi) (sw_lay_so i) rfl (Nat.le_of_ble_eq_true rfl) q_86 dX5_tryThreshold_14 ?_
      refine lv_topi (fun v3 ev3 => ?_)
      have h := h v3 ev3
      refine lv_istore_n (lv' := [(2, .int v3), (0, .ref (sw_ad g (sw_st i))), (1, .int a1)]) hx hb dX5_tryThreshold_17 rfl hl (Nat.le_of_ble_eq_true rfl) rfl (fun ls hl => ?_)
      refine lv_aload_n hx hb dX5_tryThreshold_18 rfl (lv_at hl 1 rfl) ?_
      refine lv_iload_n hx hb dX5_tryThreshold_19 rfl (lv_at hl 2 rfl) ?_
      refine sw_pi (j := 14) hx hb hts hown hW rfl qf_5 tyX5 tyX5_ok nmX5 (sw_st_lt0 hi) (sw_lay_so i) rfl (Nat.le_of_ble_eq_true rfl) q_86 rfl rfl rfl dX5_tryThreshold_20 (fun H locs hW => ?_)
      obtain ⟨M4, eM4⟩ : ∃ z : sM, z = sw_ms M (sw_st i) 14 a1 := ⟨_, rfl⟩
      rw [← eM4] at hW
      have h := h M4 eM4
      refine lv_iload_n hx hb dX5_tryThreshold_23 rfl (lv_at hl 0 rfl) ?_
      exact sw_ri hx hb hr hlocks hW rfl h dX5_tryThreshold_24
    · have h := h.2 k2
      refine lv_bipush (v := -2) hx hb dX5_tryThreshold_10 (by decide) ?_
      exact sw_ri hx hb hr hlocks hW rfl h dX5_tryThreshold_12

theorem cv_X5_tryAward : sw_cV yX5_tryAward RX5 cX5_tryAward 2 (some .int) 1 := ⟨q_468, q_469, q_3, q_470, by decide +kernel⟩
def wX5_tryAward (i : Nat) (a1 : Int32) (M : sM) (Q : Int32 → sM → Prop) : Prop :=
  wX5_hasDoor i a1 M (fun r1 => (r1 = 0 → (Q (-1 : Int32) M)) ∧ (¬ r1 = 0 → (wX5_entryOf i a1 M (fun r3 => (r3 = (-1 : Int32) → (((M (sw_st i) 15) < (8 : Int32) → (wX5_deservesDegree i a1 M (fun r6 => (r6 = 0 → (Q (-4 : Int32) M)) ∧ (¬ r6 = 0 → (vp_in (M (sw_st i) 15) 8 ∧ (∀ M9 : sM, M9 = sw_ms M (sw_st i + 9) ((M (sw_st i) 15)).toNatClampNeg a1 → (∀ M10 : sM, M10 = sw_ms M9 (sw_st i) 15 ((M9 (sw_st i) 15) + (1 : Int32)) → (Q (M10 (sw_st i) 15) M10)))))))) ∧ (¬ (M (sw_st i) 15) < (8 : Int32) → (Q (-3 : Int32) M)))) ∧ (¬ r3 = (-1 : Int32) → (Q (-3 : Int32) M))))))
set_option maxRecDepth 20000 in
theorem kX5_tryAward (l : Launch) (g : sG) (i : Nat) (hi : i < 11) (a1 : Int32) (M : sM) (Q : Int32 → sM → Prop) (h : wX5_tryAward i a1 M Q) : Met l yX5_tryAward (sw_ws yX5_tryAward cX5_tryAward 2 (some .int)) { frames := 4, cells := 0, slots := 0, locals := 93 } (va_Pc [.ref (sw_ad g (sw_st i)), .int a1] (sw_Pr g M)) (va_Qi Q (sw_Po g) (sw_A g)) 0 0 (sw_A g) := by
  refine sw_met (by decide) (Nat.le_of_ble_eq_true rfl) ?_
  intro p e s m args below meth c ls hx hb hr hts hown hml hlocks hW hl
  have hown : s.vm.findClass RX5 = some m.cls := hown
  have hl : lv_has ls 2 [(0, .ref (sw_ad g (sw_st i))), (1, .int a1)] := hl
  unfold wX5_tryAward at h
  refine lv_aload_n hx hb dX5_tryAward_0 rfl (lv_at hl 0 rfl) ?_
  refine lv_iload_n hx hb dX5_tryAward_1 rfl (lv_at hl 1 rfl) ?_
  refine sw_ki (rest := []) (sw_runV (As := [.int a1]) (rest := []) hx hb hml hown hts (kX5_hasDoor l g i hi a1 M _ h) cv_X5_hasDoor q_310 rfl rfl ⟨(Nat.le_of_ble_eq_true rfl), (Nat.le_of_ble_eq_true rfl)⟩ hW (sw_st_lt0 hi) (sw_lay_so i) rfl rfl hl.1 rfl (Nat.le_of_ble_eq_true rfl) dX5_tryAward_2 ⟨(Nat.le_of_ble_eq_true rfl), (Nat.le_of_ble_eq_true rfl)⟩) hW (fun r1 M13 H locs h hW => ?_)
  obtain ⟨h, eM13⟩ := h
  rw [eM13] at hW
  refine lv_if_ne (tgt := 10) hx hb dX5_tryAward_5 (by decide) (fun k2 => ?_) (fun k2 => ?_)
  · have h := h.2 k2
    refine lv_aload_n hx hb dX5_tryAward_10 rfl (lv_at hl 0 rfl) ?_
    refine lv_iload_n hx hb dX5_tryAward_11 rfl (lv_at hl 1 rfl) ?_
    refine sw_ki (rest := []) (sw_runV (As := [.int a1]) (rest := []) hx hb hml hown hts (kX5_entryOf l g i hi a1 M _ h) cv_X5_entryOf q_471 rfl rfl ⟨(Nat.le_of_ble_eq_true rfl), (Nat.le_of_ble_eq_true rfl)⟩ hW (sw_st_lt0 hi) (sw_lay_so i) rfl rfl hl.1 rfl (Nat.le_of_ble_eq_true rfl) dX5_tryAward_12 ⟨(Nat.le_of_ble_eq_true rfl), (Nat.le_of_ble_eq_true rfl)⟩) hW (fun r3 M12 H locs h hW => ?_)
    obtain ⟨h, eM12⟩ := h
    rw [eM12] at hW
    refine lv_iconst (v := -1) hx hb dX5_tryAward_15 (by decide) ?_
    refine lv_icmp_ne (tgt := 28) hx hb dX5_tryAward_16 (by decide) (fun k4 => ?_) (fun k4 => ?_)
    · have h := h.2 k4
      refine lv_bipush (v := -3) hx hb dX5_tryAward_28 (by decide) ?_
      exact sw_ri hx hb hr hlocks hW rfl h dX5_tryAward_30
    · have h := h.1 k4
      refine lv_aload_n hx hb dX5_tryAward_19 rfl (lv_at hl 0 rfl) ?_
      refine sw_gi (j := 15) hx hb hts hown hW rfl qf_5 (sw_st_lt0 hi) (sw_lay_so i) rfl (Nat.le_of_ble_eq_true rfl) q_89 dX5_tryAward_20 ?_
      refine lv_bipush (v := 8) hx hb dX5_tryAward_23 (by decide) ?_
      refine lv_icmp_lt (tgt := 31) hx hb dX5_tryAward_25 (by decide) (fun k5 => ?_) (fun k5 => ?_)
      · have h := h.1 k5
        refine lv_aload_n hx hb dX5_tryAward_31 rfl (lv_at hl 0 rfl) ?_
        refine lv_iload_n hx hb dX5_tryAward_32 rfl (lv_at hl 1 rfl) ?_
        refine sw_ki (rest := []) (sw_runV (As := [.int a1]) (rest := []) hx hb hml hown hts (kX5_deservesDegree l g i hi a1 M _ h) cv_X5_deservesDegree q_475 rfl rfl ⟨(Nat.le_of_ble_eq_true rfl), (Nat.le_of_ble_eq_true rfl)⟩ hW (sw_st_lt0 hi) (sw_lay_so i) rfl rfl hl.1 rfl (Nat.le_of_ble_eq_true rfl) dX5_tryAward_33 ⟨(Nat.le_of_ble_eq_true rfl), (Nat.le_of_ble_eq_true rfl)⟩) hW (fun r6 M11 H locs h hW => ?_)
        obtain ⟨h, eM11⟩ := h
        rw [eM11] at hW
        refine lv_if_ne (tgt := 42) hx hb dX5_tryAward_36 (by decide) (fun k7 => ?_) (fun k7 => ?_)
        · have h := h.2 k7
          refine lv_aload_n hx hb dX5_tryAward_42 rfl (lv_at hl 0 rfl) ?_
          refine sw_gr (j := 16) (r := (sw_st i + 9)) hx hb hts hown hW rfl qf_5 (sw_st_lt0 hi) (sw_lay_so i) rfl (Nat.le_of_ble_eq_true rfl) q_91 dX5_tryAward_43 ?_
          refine lv_aload_n hx hb dX5_tryAward_46 rfl (lv_at hl 0 rfl) ?_
          refine sw_gi (j := 15) hx hb hts hown hW rfl qf_5 (sw_st_lt0 hi) (sw_lay_so i) rfl (Nat.le_of_ble_eq_true rfl) q_89 dX5_tryAward_47 ?_
          refine lv_iload_n hx hb dX5_tryAward_50 rfl (lv_at hl 1 rfl) ?_
          have b8 := h.1
          have h := h.2
          refine sw_is (n := 8) hx hb hW (sw_st_lt hi (Nat.le_of_ble_eq_true rfl)) (sw_lay_s i 9 (Nat.le_of_ble_eq_true rfl)) b8 dX5_tryAward_51 (fun H locs hW => ?_)
          obtain ⟨M9, eM9⟩ : ∃ z : sM, z = sw_ms M (sw_st i + 9) ((M (sw_st i) 15)).toNatClampNeg a1 := ⟨_, rfl⟩
          rw [← eM9] at hW
          have h := h M9 eM9
          refine lv_aload_n hx hb dX5_tryAward_52 rfl (lv_at hl 0 rfl) ?_
          refine lv_dup hx hb dX5_tryAward_53 rfl ?_
          refine sw_gi (j := 15) hx hb hts hown hW rfl qf_5 (sw_st_lt0 hi) (sw_lay_so i) rfl (Nat.le_of_ble_eq_true rfl) q_89 dX5_tryAward_54 ?_
          refine lv_iconst (v := 1) hx hb dX5_tryAward_57 (by decide) ?_
          refine lv_iadd hx hb dX5_tryAward_58 ?_
          refine sw_pi (j := 15) hx hb hts hown hW rfl qf_5 tyX5 tyX5_ok nmX5 (sw_st_lt0 hi) (sw_lay_so i) rfl (Nat.le_of_ble_eq_true rfl) q_89 rfl rfl rfl dX5_tryAward_59 (fun H locs hW => ?_)
          obtain ⟨M10, eM10⟩ : ∃ z : sM, z = sw_ms M9 (sw_st i) 15 ((M9 (sw_st i) 15) + (1 : Int32)) := ⟨_, rfl⟩
          rw [← eM10] at hW
          have h := h M10 eM10
          refine lv_aload_n hx hb dX5_tryAward_62 rfl (lv_at hl 0 rfl) ?_
          refine sw_gi (j := 15) hx hb hts hown hW rfl qf_5 (sw_st_lt0 hi) (sw_lay_so i) rfl (Nat.le_of_ble_eq_true rfl) q_89 dX5_tryAward_63 ?_
          exact sw_ri hx hb hr hlocks hW rfl h dX5_tryAward_66
        · have h := h.1 k7
          refine lv_bipush (v := -4) hx hb dX5_tryAward_39 (by decide) ?_
          exact sw_ri hx hb hr hlocks hW rfl h dX5_tryAward_41
      · have h := h.2 k5
        refine lv_bipush (v := -3) hx hb dX5_tryAward_28 (by decide) ?_
        exact sw_ri hx hb hr hlocks hW rfl h dX5_tryAward_30
  · have h := h.1 k2
    refine lv_iconst (v := -1) hx hb dX5_tryAward_8 (by decide) ?_
    exact sw_ri hx hb hr hlocks hW rfl h dX5_tryAward_9

theorem cv_X5_tryRevocation : sw_cV yX5_tryRevocation RX5 cX5_tryRevocation 2 (some .int) 1 := ⟨q_1074, q_1075, q_3, q_1076, by decide +kernel⟩
def wX5_tryRevocation (i : Nat) (a1 : Int32) (M : sM) (Q : Int32 → sM → Prop) : Prop :=
  wX5_hasEntry i a1 M (fun r1 => (r1 = 0 → (Q (-5 : Int32) M)) ∧ (¬ r1 = 0 → (wX6_contains (M (sw_st i) 2) a1 (fun r3 => (r3 = 0 → (∀ M5 : sM, M5 = sw_ms M (sw_st i) 2 ((M (sw_st i) 2) ||| ((1 : Int32) <<< (a1 &&& 31))) → (vp_in (a1 - (1 : Int32)) 8 ∧ (Q (M5 (sw_st i + 9) ((a1 - (1 : Int32))).toNatClampNeg) M5)))) ∧ (¬ r3 = 0 → (Q (-3 : Int32) M))))))
set_option maxRecDepth 20000 in
theorem kX5_tryRevocation (l : Launch) (g : sG) (i : Nat) (hi : i < 11) (a1 : Int32) (M : sM) (Q : Int32 → sM → Prop) (h : wX5_tryRevocation i a1 M Q) : Met l yX5_tryRevocation (sw_ws yX5_tryRevocation cX5_tryRevocation 2 (some .int)) { frames := 1, cells := 0, slots := 0, locals := 21 } (va_Pc [.ref (sw_ad g (sw_st i)), .int a1] (sw_Pr g M)) (va_Qi Q (sw_Po g) (sw_A g)) 0 0 (sw_A g) := by
  refine sw_met (by decide) (Nat.le_of_ble_eq_true rfl) ?_
  intro p e s m args below meth c ls hx hb hr hts hown hml hlocks hW hl
  have hown : s.vm.findClass RX5 = some m.cls := hown
  have hl : lv_has ls 2 [(0, .ref (sw_ad g (sw_st i))), (1, .int a1)] := hl
  unfold wX5_tryRevocation at h
  refine lv_aload_n hx hb dX5_tryRevocation_0 rfl (lv_at hl 0 rfl) ?_
  refine lv_iload_n hx hb dX5_tryRevocation_1 rfl (lv_at hl 1 rfl) ?_
  refine sw_ki (rest := []) (sw_runV (As := [.int a1]) (rest := []) hx hb hml hown hts (kX5_hasEntry l g i hi a1 M _ h) cv_X5_hasEntry q_1077 rfl rfl ⟨(Nat.le_of_ble_eq_true rfl), (Nat.le_of_ble_eq_true rfl)⟩ hW (sw_st_lt0 hi) (sw_lay_so i) rfl rfl hl.1 rfl (Nat.le_of_ble_eq_true rfl) dX5_tryRevocation_2 ⟨(Nat.le_of_ble_eq_true rfl), (Nat.le_of_ble_eq_true rfl)⟩) hW (fun r1 M8 H locs h hW => ?_)
  obtain ⟨h, eM8⟩ := h
  rw [eM8] at hW
  refine lv_if_ne (tgt := 11) hx hb dX5_tryRevocation_5 (by decide) (fun k2 => ?_) (fun k2 => ?_)
  · have h := h.2 k2
    refine lv_aload_n hx hb dX5_tryRevocation_11 rfl (lv_at hl 0 rfl) ?_
    refine sw_gi (j := 2) hx hb hts hown hW rfl qf_5 (sw_st_lt0 hi) (sw_lay_so i) rfl (Nat.le_of_ble_eq_true rfl) q_54 dX5_tryRevocation_12 ?_
    refine lv_iload_n hx hb dX5_tryRevocation_15 rfl (lv_at hl 1 rfl) ?_
    refine sw_ki (rest := []) (sw_runN (As := [.int (M (sw_st i) 2), .int a1]) (rest := []) hx hb hml hown hts (kX6_contains l g (M (sw_st i) 2) a1 M _ h) cs_X6_contains qn_X5_78 rfl rfl ⟨(Nat.le_of_ble_eq_true rfl), (Nat.le_of_ble_eq_true rfl)⟩ hW rfl hl.1 rfl (Nat.le_of_ble_eq_true rfl) dX5_tryRevocation_16 ⟨(Nat.le_of_ble_eq_true rfl), (Nat.le_of_ble_eq_true rfl)⟩) hW (fun r3 M7 H locs h hW => ?_)
    obtain ⟨h, eM7⟩ := h
    rw [eM7] at hW
    refine lv_if_eq (tgt := 25) hx hb dX5_tryRevocation_19 (by decide) (fun k4 => ?_) (fun k4 => ?_)
    · have h := h.1 k4
      refine lv_aload_n hx hb dX5_tryRevocation_25 rfl (lv_at hl 0 rfl) ?_
      refine lv_dup hx hb dX5_tryRevocation_26 rfl ?_
      refine sw_gi (j := 2) hx hb hts hown hW rfl qf_5 (sw_st_lt0 hi) (sw_lay_so i) rfl (Nat.le_of_ble_eq_true rfl) q_54 dX5_tryRevocation_27 ?_
      refine lv_iconst (v := 1) hx hb dX5_tryRevocation_30 (by decide) ?_
      refine lv_iload_n hx hb dX5_tryRevocation_31 rfl (lv_at hl 1 rfl) ?_
      refine lv_ishl hx hb dX5_tryRevocation_32 ?_
      refine lv_ior hx hb dX5_tryRevocation_33 ?_
      refine sw_pi (j := 2) hx hb hts hown hW rfl qf_5 tyX5 tyX5_ok nmX5 (sw_st_lt0 hi) (sw_lay_so i) rfl (Nat.le_of_ble_eq_true rfl) q_54 rfl rfl rfl dX5_tryRevocation_34 (fun H locs hW => ?_)
      obtain ⟨M5, eM5⟩ : ∃ z : sM, z = sw_ms M (sw_st i) 2 ((M (sw_st i) 2) ||| ((1 : Int32) <<< (a1 &&& 31))) := ⟨_, rfl⟩
      rw [← eM5] at hW
      have h := h M5 eM5
      refine lv_aload_n hx hb dX5_tryRevocation_37 rfl (lv_at hl 0 rfl) ?_
      refine sw_gr (j := 16) (r := (sw_st i + 9)) hx hb hts hown hW rfl qf_5 (sw_st_lt0 hi) (sw_lay_so i) rfl (Nat.le_of_ble_eq_true rfl) q_91 dX5_tryRevocation_38 ?_
      refine lv_iload_n hx hb dX5_tryRevocation_41 rfl (lv_at hl 1 rfl) ?_
      refine lv_iconst (v := 1) hx hb dX5_tryRevocation_42 (by decide) ?_
      refine lv_isub hx hb dX5_tryRevocation_43 ?_
      have b6 := h.1
      have h := h.2
      refine sw_ia (n := 8) hx hb hW (sw_st_lt hi (Nat.le_of_ble_eq_true rfl)) (sw_lay_s i 9 (Nat.le_of_ble_eq_true rfl)) b6 dX5_tryRevocation_44 ?_
      exact sw_ri hx hb hr hlocks hW rfl h dX5_tryRevocation_45
    · have h := h.2 k4
      refine lv_bipush (v := -3) hx hb dX5_tryRevocation_22 (by decide) ?_
      exact sw_ri hx hb hr hlocks hW rfl h dX5_tryRevocation_24
  · have h := h.1 k2
    refine lv_bipush (v := -5) hx hb dX5_tryRevocation_8 (by decide) ?_
    exact sw_ri hx hb hr hlocks hW rfl h dX5_tryRevocation_10

def lX6_memberAt_4 (a1 : Int32) (a2 : Int32) (Q : Int32 → Prop) (K4 : Prop) : Nat → Int32 → Int32 → Prop
  | 0, _, _ => False
  | n4 + 1, x2_4, x3_4 => ((6 : Int32) ≤ x3_4 → (K4)) ∧ (¬ (6 : Int32) ≤ x3_4 → (wX6_contains a1 x3_4 (fun r2 => (r2 = 0 → (∀ v4 : Int32, v4 = x3_4 + (1 : Int32) → ((fun x2_4 x3_4 => lX6_memberAt_4 a1 a2 Q K4 n4 x2_4 x3_4) x2_4 v4))) ∧ (¬ r2 = 0 → ((x2_4 = a2 → (Q x3_4)) ∧ (¬ x2_4 = a2 → (∀ v6 : Int32, v6 = x2_4 + (1 : Int32) → (∀ v7 : Int32, v7 = x3_4 + (1 : Int32) → ((fun x2_4 x3_4 => lX6_memberAt_4 a1 a2 Q K4 n4 x2_4 x3_4) v6 v7)))))))))
theorem cs_X6_memberAt : sw_cS yX6_memberAt cX6_memberAt 4 (some .int) 2 := ⟨q_677, q_2, q_678, by decide +kernel⟩
def wX6_memberAt (a1 : Int32) (a2 : Int32) (Q : Int32 → Prop) : Prop :=
  ∃ n4, lX6_memberAt_4 a1 a2 Q (Q (-1 : Int32)) n4 (0 : Int32) (0 : Int32)
set_option maxRecDepth 20000 in
theorem kX6_memberAt (l : Launch) (g : sG) (a1 : Int32) (a2 : Int32) (M : sM) (Q : Int32 → Prop) (h : wX6_memberAt a1 a2 Q) : Met l yX6_memberAt (sw_ws yX6_memberAt cX6_memberAt 4 (some .int)) { frames := 1, cells := 0, slots := 0, locals := 21 } (va_Pc [.int a1, .int a2] (sw_Pr g M)) (va_Qi (fun r M1 => Q r ∧ M1 = M) (sw_Po g) (sw_A g)) 0 0 (sw_A g) := by
  refine sw_met (by decide) (Nat.le_of_ble_eq_true rfl) ?_
  intro p e s m args below meth c ls hx hb hr hts hown hml hlocks hW hl
  have hown : s.vm.findClass RX6 = some m.cls := hown
  have hl : lv_has ls 4 [(0, .int a1), (1, .int a2)] := hl
  unfold wX6_memberAt at h
  refine lv_iconst (v := 0) hx hb dX6_memberAt_0 (by decide) ?_
  refine lv_istore_n (lv' := [(2, .int (0 : Int32)), (0, .int a1), (1, .int a2)]) hx hb dX6_memberAt_1 rfl hl (Nat.le_of_ble_eq_true rfl) rfl (fun ls hl => ?_)
  refine lv_iconst (v := 0) hx hb dX6_memberAt_2 (by decide) ?_
  refine lv_istore_n (lv' := [(3, .int (0 : Int32)), (2, .int (0 : Int32)), (0, .int a1), (1, .int a2)]) hx hb dX6_memberAt_3 rfl hl (Nat.le_of_ble_eq_true rfl) rfl (fun ls hl => ?_)
  obtain ⟨n4, h⟩ := h
  refine sw_lp_ii (hd := 4) (Lf := fun x2_4 x3_4 => [(0, .int a1), (1, .int a2), (2, .int x2_4), (3, .int x3_4)]) h hW (lv_sub hl [2, 3, 1, 0] rfl) (fun _ _ h => h) (fun n4 ih4 x2_4 x3_4 H locs ls h hW hl => ?_)
  rw [lX6_memberAt_4.eq_2] at h
  refine lv_iload_n hx hb dX6_memberAt_4 rfl (lv_at hl 3 rfl) ?_
  refine lv_bipush (v := 6) hx hb dX6_memberAt_5 (by decide) ?_
  refine lv_icmp_ge (tgt := 34) hx hb dX6_memberAt_7 (by decide) (fun k1 => ?_) (fun k1 => ?_)
  · have h := h.1 k1
    refine lv_iconst (v := -1) hx hb dX6_memberAt_34 (by decide) ?_
    exact sw_ri hx hb hr hlocks hW rfl ⟨h, rfl⟩ dX6_memberAt_35
  · have h := h.2 k1
    refine lv_iload_n hx hb dX6_memberAt_10 rfl (lv_at hl 0 rfl) ?_
    refine lv_iload_n hx hb dX6_memberAt_11 rfl (lv_at hl 3 rfl) ?_
    refine sw_ki (rest := []) (sw_runS (As := [.int a1, .int x3_4]) (rest := []) hx hb hml hown hts (kX6_contains l g a1 x3_4 M _ h) cs_X6_contains q_569 rfl rfl ⟨(Nat.le_of_ble_eq_true rfl), (Nat.le_of_ble_eq_true rfl)⟩ hW rfl hl.1 rfl (Nat.le_of_ble_eq_true rfl) dX6_memberAt_12 ⟨(Nat.le_of_ble_eq_true rfl), (Nat.le_of_ble_eq_true rfl)⟩) hW (fun r2 M8 H locs h hW => ?_)
    obtain ⟨h, eM8⟩ := h
    rw [eM8] at hW
    refine lv_if_eq (tgt := 28) hx hb dX6_memberAt_15 (by decide) (fun k3 => ?_) (fun k3 => ?_)
    · have h := h.1 k3
      obtain ⟨v4, ev4⟩ : ∃ z : Int32, z = x3_4 + (1 : Int32) := ⟨_, rfl⟩
      have h := h v4 ev4
      refine lv_iinc (v := v4) (lv' := [(3, .int v4), (0, .int a1), (1, .int a2), (2, .int x2_4)]) hx hb dX6_memberAt_28 hl (k := 3) rfl (by rw [ev4]; rfl) (Nat.le_of_ble_eq_true rfl) rfl (fun ls hl => ?_)
      refine lv_goto (tgt := 4) hx hb dX6_memberAt_31 (by decide) ?_
      exact ih4 _ _ _ _ _ h hW (lv_sub hl [1, 2, 3, 0] rfl)
    · have h := h.2 k3
      refine lv_iload_n hx hb dX6_memberAt_18 rfl (lv_at hl 2 rfl) ?_
      refine lv_iload_n hx hb dX6_memberAt_19 rfl (lv_at hl 1 rfl) ?_
      refine lv_icmp_ne (tgt := 25) hx hb dX6_memberAt_20 (by decide) (fun k5 => ?_) (fun k5 => ?_)
      · have h := h.2 k5
        obtain ⟨v6, ev6⟩ : ∃ z : Int32, z = x2_4 + (1 : Int32) := ⟨_, rfl⟩
        have h := h v6 ev6
        refine lv_iinc (v := v6) (lv' := [(2, .int v6), (0, .int a1), (1, .int a2), (3, .int x3_4)]) hx hb dX6_memberAt_25 hl (k := 2) rfl (by rw [ev6]; rfl) (Nat.le_of_ble_eq_true rfl) rfl (fun ls hl => ?_)
        obtain ⟨v7, ev7⟩ : ∃ z : Int32, z = x3_4 + (1 : Int32) := ⟨_, rfl⟩
        have h := h v7 ev7
        refine lv_iinc (v := v7) (lv' := [(3, .int v7), (2, .int v6), (0, .int a1), (1, .int a2)]) hx hb dX6_memberAt_28 hl (k := 3) rfl (by rw [ev7]; rfl) (Nat.le_of_ble_eq_true rfl) rfl (fun ls hl => ?_)
        refine lv_goto (tgt := 4) hx hb dX6_memberAt_31 (by decide) ?_
        exact ih4 _ _ _ _ _ h hW (lv_sub hl [2, 3, 1, 0] rfl)
      · have h := h.1 k5
        refine lv_iload_n hx hb dX6_memberAt_23 rfl (lv_at hl 3 rfl) ?_
        exact sw_ri hx hb hr hlocks hW rfl ⟨h, rfl⟩ dX6_memberAt_24
