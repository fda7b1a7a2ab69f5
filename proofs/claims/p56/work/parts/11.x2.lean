theorem cv_X1_put : sw_cV yX1_put RX1 cX1_put 2 none 1 := ⟨q_1011, q_1168, q_8, q_1012, by decide +kernel⟩
def wX1_put (a1 : Int32) (M : sM) (Q : sM → Prop) : Prop :=
  ((32 : Int32) ≤ (M 31 1) → (Q M)) ∧ (¬ (32 : Int32) ≤ (M 31 1) → (vp_in (M 31 1) 32 ∧ (∀ M3 : sM, M3 = sw_ms M 32 ((M 31 1)).toNatClampNeg (vp_nar .char a1) → (∀ M4 : sM, M4 = sw_ms M3 31 1 ((M3 31 1) + (1 : Int32)) → (Q M4)))))
set_option maxRecDepth 20000 in
theorem kX1_put (l : Launch) (g : sG) (a1 : Int32) (M : sM) (Q : sM → Prop) (h : wX1_put a1 M Q) : Met l yX1_put (sw_ws yX1_put cX1_put 2 none) { frames := 0, cells := 0, slots := 0, locals := 0 } (va_Pc [.ref (sw_ad g 31), .int a1] (sw_Pr g M)) (va_Qv Q (sw_Po g) (sw_A g)) 0 0 (sw_A g) := by
  refine sw_met (by decide) (Nat.le_of_ble_eq_true rfl) ?_
  intro p e s m args below meth c ls hx hb hr hts hown hml hlocks hW hl
  have hown : s.vm.findClass RX1 = some m.cls := hown
  have hl : lv_has ls 2 [(0, .ref (sw_ad g 31)), (1, .int a1)] := hl
  unfold wX1_put at h
  refine lv_aload_n hx hb dX1_put_0 rfl (lv_at hl 0 rfl) ?_
  refine sw_gi (j := 1) hx hb hts hown hW rfl qf_1 (Or.inl (Nat.le_of_ble_eq_true rfl)) sl_31 rfl (Nat.le_of_ble_eq_true rfl) q_148 dX1_put_1 ?_
  refine lv_bipush (v := 32) hx hb dX1_put_4 (by decide) ?_
  refine lv_icmp_ge (tgt := 29) hx hb dX1_put_6 (by decide) (fun k1 => ?_) (fun k1 => ?_)
  · have h := h.1 k1
    exact sw_rv hx hb hr hlocks hW h dX1_put_29
  · have h := h.2 k1
    refine lv_aload_n hx hb dX1_put_9 rfl (lv_at hl 0 rfl) ?_
    refine sw_gr (j := 0) (r := 32) hx hb hts hown hW rfl qf_1 (Or.inl (Nat.le_of_ble_eq_true rfl)) sl_31 rfl (Nat.le_of_ble_eq_true rfl) q_146 dX1_put_10 ?_
    refine lv_aload_n hx hb dX1_put_13 rfl (lv_at hl 0 rfl) ?_
    refine sw_gi (j := 1) hx hb hts hown hW rfl qf_1 (Or.inl (Nat.le_of_ble_eq_true rfl)) sl_31 rfl (Nat.le_of_ble_eq_true rfl) q_148 dX1_put_14 ?_
    refine lv_iload_n hx hb dX1_put_17 rfl (lv_at hl 1 rfl) ?_
    have b2 := h.1
    have h := h.2
    refine sw_cs (n := 32) hx hb hW (Or.inl (Nat.le_of_ble_eq_true rfl)) sl_32 b2 dX1_put_18 (fun H locs hW => ?_)
    obtain ⟨M3, eM3⟩ : ∃ z : sM, z = sw_ms M 32 ((M 31 1)).toNatClampNeg (vp_nar .char a1) := ⟨_, rfl⟩
    rw [← eM3] at hW
    have h := h M3 eM3
    refine lv_aload_n hx hb dX1_put_19 rfl (lv_at hl 0 rfl) ?_
    refine lv_dup hx hb dX1_put_20 rfl ?_
    refine sw_gi (j := 1) hx hb hts hown hW rfl qf_1 (Or.inl (Nat.le_of_ble_eq_true rfl)) sl_31 rfl (Nat.le_of_ble_eq_true rfl) q_148 dX1_put_21 ?_
    refine lv_iconst (v := 1) hx hb dX1_put_24 (by decide) ?_
    refine lv_iadd hx hb dX1_put_25 ?_
    refine sw_pi (j := 1) hx hb hts hown hW rfl qf_1 tyX1 tyX1_ok nmX1 (Or.inl (Nat.le_of_ble_eq_true rfl)) sl_31 rfl (Nat.le_of_ble_eq_true rfl) q_148 rfl rfl rfl dX1_put_26 (fun H locs hW => ?_)
    obtain ⟨M4, eM4⟩ : ∃ z : sM, z = sw_ms M3 31 1 ((M3 31 1) + (1 : Int32)) := ⟨_, rfl⟩
    rw [← eM4] at hW
    have h := h M4 eM4
    exact sw_rv hx hb hr hlocks hW h dX1_put_29

def jX1_putNumber_18 (a1 : Int32) (Q : sM → Prop) (M_18 : sM) : Prop :=
  ∀ v1 : Int32, v1 = ((((48 : Int32) + (a1 - a1 / (10 : Int32) * (10 : Int32)))).toUInt32 % 65536).toInt32 → (wX1_put v1 M_18 (fun M2 => Q M2))
theorem cv_X1_putNumber : sw_cV yX1_putNumber RX1 cX1_putNumber 2 none 1 := ⟨q_1014, q_1169, q_8, q_1015, by decide +kernel⟩
def wX1_putNumber (a1 : Int32) (M : sM) (Q : sM → Prop) : Prop :=
  (a1 < (10 : Int32) → (jX1_putNumber_18 a1 Q M)) ∧ (¬ a1 < (10 : Int32) → (∀ v4 : Int32, v4 = ((((48 : Int32) + (a1 / (10 : Int32)))).toUInt32 % 65536).toInt32 → (wX1_put v4 M (fun M5 => jX1_putNumber_18 a1 Q M5))))
set_option maxRecDepth 20000 in
theorem kX1_putNumber (l : Launch) (g : sG) (a1 : Int32) (M : sM) (Q : sM → Prop) (h : wX1_putNumber a1 M Q) : Met l yX1_putNumber (sw_ws yX1_putNumber cX1_putNumber 2 none) { frames := 1, cells := 0, slots := 0, locals := 21 } (va_Pc [.ref (sw_ad g 31), .int a1] (sw_Pr g M)) (va_Qv Q (sw_Po g) (sw_A g)) 0 0 (sw_A g) := by
  refine sw_met (by decide) (Nat.le_of_ble_eq_true rfl) ?_
  intro p e s m args below meth c ls hx hb hr hts hown hml hlocks hW hl
  have hown : s.vm.findClass RX1 = some m.cls := hown
  have hl : lv_has ls 2 [(0, .ref (sw_ad g 31)), (1, .int a1)] := hl
  unfold wX1_putNumber at h
  refine lv_iload_n hx hb dX1_putNumber_0 rfl (lv_at hl 1 rfl) ?_
  refine lv_bipush (v := 10) hx hb dX1_putNumber_1 (by decide) ?_
  refine sw_jn_M (g := g) (nL := 2) (jp := 18) (J := fun M_18 => jX1_putNumber_18 a1 Q M_18) (Lf := fun M_18 => [(0, .ref (sw_ad g 31)), (1, .int a1)]) (Sf := fun M_18 => []) (fun M_18 H locs ls h hW hl => ?_) (fun hJ18 => ?_)
  · unfold jX1_putNumber_18 at h
    refine lv_aload_n hx hb dX1_putNumber_18 rfl (lv_at hl 0 rfl) ?_
    refine lv_bipush (v := 48) hx hb dX1_putNumber_19 (by decide) ?_
    refine lv_iload_n hx hb dX1_putNumber_21 rfl (lv_at hl 1 rfl) ?_
    refine lv_bipush (v := 10) hx hb dX1_putNumber_22 (by decide) ?_
    refine lv_irem hx hb dX1_putNumber_24 (by decide) ?_
    refine lv_iadd hx hb dX1_putNumber_25 ?_
    refine lv_i2c hx hb dX1_putNumber_26 rfl ?_
    refine lv_topi (fun v1 ev1 => ?_)
    have h := h v1 ev1
    refine sw_kv (rest := []) (sw_runV (As := [.int v1]) (rest := []) hx hb hml hown hts (kX1_put l g v1 M_18 _ h) cv_X1_put q_1010 rfl rfl ⟨(Nat.le_of_ble_eq_true rfl), (Nat.le_of_ble_eq_true rfl)⟩ hW (Or.inl (Nat.le_of_ble_eq_true rfl)) sl_31 rfl rfl hl.1 rfl (Nat.le_of_ble_eq_true rfl) dX1_putNumber_27 ⟨(Nat.le_of_ble_eq_true rfl), (Nat.le_of_ble_eq_true rfl)⟩) hW (fun  M2 H locs h hW => ?_)
    exact sw_rv hx hb hr hlocks hW h dX1_putNumber_30
  · refine lv_icmp_lt (tgt := 18) hx hb dX1_putNumber_3 (by decide) (fun k3 => ?_) (fun k3 => ?_)
    · have h := h.1 k3
      exact hJ18 _ _ _ _ h hW (lv_sub hl [0, 1] rfl)
    · have h := h.2 k3
      refine lv_aload_n hx hb dX1_putNumber_6 rfl (lv_at hl 0 rfl) ?_
      refine lv_bipush (v := 48) hx hb dX1_putNumber_7 (by decide) ?_
      refine lv_iload_n hx hb dX1_putNumber_9 rfl (lv_at hl 1 rfl) ?_
      refine lv_bipush (v := 10) hx hb dX1_putNumber_10 (by decide) ?_
      refine lv_idiv hx hb dX1_putNumber_12 (by decide) ?_
      refine lv_iadd hx hb dX1_putNumber_13 ?_
      refine lv_i2c hx hb dX1_putNumber_14 rfl ?_
      refine lv_topi (fun v4 ev4 => ?_)
      have h := h v4 ev4
      refine sw_kv (rest := []) (sw_runV (As := [.int v4]) (rest := []) hx hb hml hown hts (kX1_put l g v4 M _ h) cv_X1_put q_1010 rfl rfl ⟨(Nat.le_of_ble_eq_true rfl), (Nat.le_of_ble_eq_true rfl)⟩ hW (Or.inl (Nat.le_of_ble_eq_true rfl)) sl_31 rfl rfl hl.1 rfl (Nat.le_of_ble_eq_true rfl) dX1_putNumber_15 ⟨(Nat.le_of_ble_eq_true rfl), (Nat.le_of_ble_eq_true rfl)⟩) hW (fun  M5 H locs h hW => ?_)
      exact hJ18 _ _ _ _ h hW (lv_sub hl [0, 1] rfl)

theorem cv_X1_putIfThere : sw_cV yX1_putIfThere RX1 cX1_putIfThere 3 none 2 := ⟨q_1018, q_1170, q_8, q_1019, by decide +kernel⟩
def wX1_putIfThere (a1 : Int32) (a2 : Int32) (M : sM) (Q : sM → Prop) : Prop :=
  (a2 = (-1 : Int32) → (Q M)) ∧ (¬ a2 = (-1 : Int32) → (wX1_put a1 M (fun M2 => wX1_putNumber a2 M2 (fun M3 => Q M3))))
set_option maxRecDepth 20000 in
theorem kX1_putIfThere (l : Launch) (g : sG) (a1 : Int32) (a2 : Int32) (M : sM) (Q : sM → Prop) (h : wX1_putIfThere a1 a2 M Q) : Met l yX1_putIfThere (sw_ws yX1_putIfThere cX1_putIfThere 3 none) { frames := 2, cells := 0, slots := 0, locals := 42 } (va_Pc [.ref (sw_ad g 31), .int a1, .int a2] (sw_Pr g M)) (va_Qv Q (sw_Po g) (sw_A g)) 0 0 (sw_A g) := by
  refine sw_met (by decide) (Nat.le_of_ble_eq_true rfl) ?_
  intro p e s m args below meth c ls hx hb hr hts hown hml hlocks hW hl
  have hown : s.vm.findClass RX1 = some m.cls := hown
  have hl : lv_has ls 3 [(0, .ref (sw_ad g 31)), (1, .int a1), (2, .int a2)] := hl
  unfold wX1_putIfThere at h
  refine lv_iload_n hx hb dX1_putIfThere_0 rfl (lv_at hl 2 rfl) ?_
  refine lv_iconst (v := -1) hx hb dX1_putIfThere_1 (by decide) ?_
  refine lv_icmp_eq (tgt := 15) hx hb dX1_putIfThere_2 (by decide) (fun k1 => ?_) (fun k1 => ?_)
  · have h := h.1 k1
    exact sw_rv hx hb hr hlocks hW h dX1_putIfThere_15
  · have h := h.2 k1
    refine lv_aload_n hx hb dX1_putIfThere_5 rfl (lv_at hl 0 rfl) ?_
    refine lv_iload_n hx hb dX1_putIfThere_6 rfl (lv_at hl 1 rfl) ?_
    refine sw_kv (rest := []) (sw_runV (As := [.int a1]) (rest := []) hx hb hml hown hts (kX1_put l g a1 M _ h) cv_X1_put q_1010 rfl rfl ⟨(Nat.le_of_ble_eq_true rfl), (Nat.le_of_ble_eq_true rfl)⟩ hW (Or.inl (Nat.le_of_ble_eq_true rfl)) sl_31 rfl rfl hl.1 rfl (Nat.le_of_ble_eq_true rfl) dX1_putIfThere_7 ⟨(Nat.le_of_ble_eq_true rfl), (Nat.le_of_ble_eq_true rfl)⟩) hW (fun  M2 H locs h hW => ?_)
    refine lv_aload_n hx hb dX1_putIfThere_10 rfl (lv_at hl 0 rfl) ?_
    refine lv_iload_n hx hb dX1_putIfThere_11 rfl (lv_at hl 2 rfl) ?_
    refine sw_kv (rest := []) (sw_runV (As := [.int a2]) (rest := []) hx hb hml hown hts (kX1_putNumber l g a2 M2 _ h) cv_X1_putNumber q_1013 rfl rfl ⟨(Nat.le_of_ble_eq_true rfl), (Nat.le_of_ble_eq_true rfl)⟩ hW (Or.inl (Nat.le_of_ble_eq_true rfl)) sl_31 rfl rfl hl.1 rfl (Nat.le_of_ble_eq_true rfl) dX1_putIfThere_12 ⟨(Nat.le_of_ble_eq_true rfl), (Nat.le_of_ble_eq_true rfl)⟩) hW (fun  M3 H locs h hW => ?_)
    exact sw_rv hx hb hr hlocks hW h dX1_putIfThere_15

def lX1_showDoor_27 (i1 : Nat) (a2 : Int32) (K27 : sM → Prop) : Nat → Int32 → sM → Prop
  | 0, _, _ => False
  | n27 + 1, x3_27, M_27 => ((M_27 (sw_st i1) 6) ≤ x3_27 → (K27 M_27)) ∧ (¬ (M_27 (sw_st i1) 6) ≤ x3_27 → (wX5_assigned i1 x3_27 a2 M_27 (fun r21 => (r21 = 0 → (∀ v23 : Int32, v23 = x3_27 + (1 : Int32) → ((fun x3_27 M_27 => lX1_showDoor_27 i1 a2 K27 n27 x3_27 M_27) v23 M_27))) ∧ (¬ r21 = 0 → (wX1_put (32 : Int32) M_27 (fun M24 => wX1_putNumber x3_27 M24 (fun M25 => vp_in x3_27 6 ∧ (vp_in a2 8 ∧ (wX1_putIfThere (58 : Int32) (M25 (sw_st i1 + 11 + (x3_27).toNatClampNeg) (a2).toNatClampNeg) M25 (fun M28 => ∀ v29 : Int32, v29 = x3_27 + (1 : Int32) → ((fun x3_27 M_27 => lX1_showDoor_27 i1 a2 K27 n27 x3_27 M_27) v29 M28)))))))))))
theorem cv_X1_showDoor : sw_cV yX1_showDoor RX1 cX1_showDoor 4 none 2 := ⟨q_1007, q_1008, q_8, q_1009, by decide +kernel⟩
def wX1_showDoor (i1 : Nat) (a2 : Int32) (M : sM) (Q : sM → Prop) : Prop :=
  ∀ M1 : sM, M1 = sw_ms M 31 1 (0 : Int32) → (vp_in a2 8 ∧ (wX1_put (M1 (sw_st i1 + 1) (a2).toNatClampNeg) M1 (fun M3 => vp_in a2 8 ∧ (wX1_putNumber (M3 (sw_st i1 + 2) (a2).toNatClampNeg) M3 (fun M5 => ∃ n27, lX1_showDoor_27 i1 a2 (fun M_27k => wX5_median i1 a2 M_27k (fun r6 => wX1_putIfThere (61 : Int32) r6 M_27k (fun M7 => wX5_holdsDegree i1 a2 M7 (fun r8 => (r8 = 0 → (Q M7)) ∧ (¬ r8 = 0 → (wX1_put (42 : Int32) M7 (fun M10 => Q M10))))))) n27 (0 : Int32) M5)))))
set_option maxRecDepth 20000 in
theorem kX1_showDoor (l : Launch) (g : sG) (i1 : Nat) (hi1 : i1 < 11) (a2 : Int32) (M : sM) (Q : sM → Prop) (h : wX1_showDoor i1 a2 M Q) : Met l yX1_showDoor (sw_ws yX1_showDoor cX1_showDoor 4 none) { frames := 3, cells := 0, slots := 0, locals := 64 } (va_Pc [.ref (sw_ad g 31), .ref (sw_ad g (sw_st i1)), .int a2] (sw_Pr g M)) (va_Qv Q (sw_Po g) (sw_A g)) 0 0 (sw_A g) := by
  refine sw_met (by decide) (Nat.le_of_ble_eq_true rfl) ?_
  intro p e s m args below meth c ls hx hb hr hts hown hml hlocks hW hl
  have hown : s.vm.findClass RX1 = some m.cls := hown
  have hl : lv_has ls 4 [(0, .ref (sw_ad g 31)), (1, .ref (sw_ad g (sw_st i1))), (2, .int a2)] := hl
  unfold wX1_showDoor at h
  refine lv_aload_n hx hb dX1_showDoor_0 rfl (lv_at hl 0 rfl) ?_
  refine lv_iconst (v := 0) hx hb dX1_showDoor_1 (by decide) ?_
  refine sw_pi (j := 1) hx hb hts hown hW rfl qf_1 tyX1 tyX1_ok nmX1 (Or.inl (Nat.le_of_ble_eq_true rfl)) sl_31 rfl (Nat.le_of_ble_eq_true rfl) q_148 rfl rfl rfl dX1_showDoor_2 (fun H locs hW => ?_)
  obtain ⟨M1, eM1⟩ : ∃ z : sM, z = sw_ms M 31 1 (0 : Int32) := ⟨_, rfl⟩
  rw [← eM1] at hW
  have h := h M1 eM1
  refine lv_aload_n hx hb dX1_showDoor_5 rfl (lv_at hl 0 rfl) ?_
  refine lv_aload_n hx hb dX1_showDoor_6 rfl (lv_at hl 1 rfl) ?_
  refine sw_gr (j := 4) (r := (sw_st i1 + 1)) hx hb hts hown hW rfl qf_5 (sw_st_lt0 hi1) (sw_lay_so i1) rfl (Nat.le_of_ble_eq_true rfl) q_60 dX1_showDoor_7 ?_
  refine lv_iload_n hx hb dX1_showDoor_10 rfl (lv_at hl 2 rfl) ?_
  have b2 := h.1
  have h := h.2
  refine sw_ca (n := 8) hx hb hW (sw_st_lt hi1 (Nat.le_of_ble_eq_true rfl)) (sw_lay_s i1 1 (Nat.le_of_ble_eq_true rfl)) b2 dX1_showDoor_11 ?_
  refine sw_kv (rest := []) (sw_runV (As := [.int (M1 (sw_st i1 + 1) (a2).toNatClampNeg)]) (rest := []) hx hb hml hown hts (kX1_put l g (M1 (sw_st i1 + 1) (a2).toNatClampNeg) M1 _ h) cv_X1_put q_1010 rfl rfl ⟨(Nat.le_of_ble_eq_true rfl), (Nat.le_of_ble_eq_true rfl)⟩ hW (Or.inl (Nat.le_of_ble_eq_true rfl)) sl_31 rfl rfl hl.1 rfl (Nat.le_of_ble_eq_true rfl) dX1_showDoor_12 ⟨(Nat.le_of_ble_eq_true rfl), (Nat.le_of_ble_eq_true rfl)⟩) hW (fun  M3 H locs h hW => ?_)
  refine lv_aload_n hx hb dX1_showDoor_15 rfl (lv_at hl 0 rfl) ?_
  refine lv_aload_n hx hb dX1_showDoor_16 rfl (lv_at hl 1 rfl) ?_
  refine sw_gr (j := 5) (r := (sw_st i1 + 2)) hx hb hts hown hW rfl qf_5 (sw_st_lt0 hi1) (sw_lay_so i1) rfl (Nat.le_of_ble_eq_true rfl) q_63 dX1_showDoor_17 ?_
  refine lv_iload_n hx hb dX1_showDoor_20 rfl (lv_at hl 2 rfl) ?_
  have b4 := h.1
  have h := h.2
  refine sw_ia (n := 8) hx hb hW (sw_st_lt hi1 (Nat.le_of_ble_eq_true rfl)) (sw_lay_s i1 2 (Nat.le_of_ble_eq_true rfl)) b4 dX1_showDoor_21 ?_
  refine sw_kv (rest := []) (sw_runV (As := [.int (M3 (sw_st i1 + 2) (a2).toNatClampNeg)]) (rest := []) hx hb hml hown hts (kX1_putNumber l g (M3 (sw_st i1 + 2) (a2).toNatClampNeg) M3 _ h) cv_X1_putNumber q_1013 rfl rfl ⟨(Nat.le_of_ble_eq_true rfl), (Nat.le_of_ble_eq_true rfl)⟩ hW (Or.inl (Nat.le_of_ble_eq_true rfl)) sl_31 rfl rfl hl.1 rfl (Nat.le_of_ble_eq_true rfl) dX1_showDoor_22 ⟨(Nat.le_of_ble_eq_true rfl), (Nat.le_of_ble_eq_true rfl)⟩) hW (fun  M5 H locs h hW => ?_)
  refine lv_iconst (v := 0) hx hb dX1_showDoor_25 (by decide) ?_
  refine lv_istore_n (lv' := [(3, .int (0 : Int32)), (0, .ref (sw_ad g 31)), (1, .ref (sw_ad g (sw_st i1))), (2, .int a2)]) hx hb dX1_showDoor_26 rfl hl (Nat.le_of_ble_eq_true rfl) rfl (fun ls hl => ?_)
  obtain ⟨n27, h⟩ := h
  refine sw_lp_iM (hd := 27) (Lf := fun x3_27 M_27 => [(0, .ref (sw_ad g 31)), (1, .ref (sw_ad g (sw_st i1))), (2, .int a2), (3, .int x3_27)]) h hW (lv_sub hl [1, 2, 3, 0] rfl) (fun _ _ h => h) (fun n27 ih27 x3_27 M_27 H locs ls h hW hl => ?_)
  rw [lX1_showDoor_27.eq_2] at h
  refine lv_iload_n hx hb dX1_showDoor_27 rfl (lv_at hl 3 rfl) ?_
  refine lv_aload_n hx hb dX1_showDoor_28 rfl (lv_at hl 1 rfl) ?_
  refine sw_gi (j := 6) hx hb hts hown hW rfl qf_5 (sw_st_lt0 hi1) (sw_lay_so i1) rfl (Nat.le_of_ble_eq_true rfl) q_66 dX1_showDoor_29 ?_
  refine lv_icmp_ge (tgt := 75) hx hb dX1_showDoor_32 (by decide) (fun k13 => ?_) (fun k13 => ?_)
  · have h := h.1 k13
    refine lv_aload_n hx hb dX1_showDoor_75 rfl (lv_at hl 0 rfl) ?_
    refine lv_bipush (v := 61) hx hb dX1_showDoor_76 (by decide) ?_
    refine lv_aload_n hx hb dX1_showDoor_78 rfl (lv_at hl 1 rfl) ?_
    refine lv_iload_n hx hb dX1_showDoor_79 rfl (lv_at hl 2 rfl) ?_
    refine sw_ki (rest := [.int (61 : Int32), .ref (sw_ad g 31)]) (sw_runV (As := [.int a2]) (rest := [.int (61 : Int32), .ref (sw_ad g 31)]) hx hb hml hown hts (kX5_median l g i1 hi1 a2 M_27 _ h) cv_X5_median q_1020 rfl rfl ⟨(Nat.le_of_ble_eq_true rfl), (Nat.le_of_ble_eq_true rfl)⟩ hW (sw_st_lt0 hi1) (sw_lay_so i1) rfl rfl hl.1 rfl (Nat.le_of_ble_eq_true rfl) dX1_showDoor_80 ⟨(Nat.le_of_ble_eq_true rfl), (Nat.le_of_ble_eq_true rfl)⟩) hW (fun r14 M20 H locs h hW => ?_)
    obtain ⟨h, eM20⟩ := h
    rw [eM20] at hW
    refine sw_kv (rest := []) (sw_runV (As := [.int (61 : Int32), .int r14]) (rest := []) hx hb hml hown hts (kX1_putIfThere l g (61 : Int32) r14 M_27 _ h) cv_X1_putIfThere q_1017 rfl rfl ⟨(Nat.le_of_ble_eq_true rfl), (Nat.le_of_ble_eq_true rfl)⟩ hW (Or.inl (Nat.le_of_ble_eq_true rfl)) sl_31 rfl rfl hl.1 rfl (Nat.le_of_ble_eq_true rfl) dX1_showDoor_83 ⟨(Nat.le_of_ble_eq_true rfl), (Nat.le_of_ble_eq_true rfl)⟩) hW (fun  M15 H locs h hW => ?_)
    refine lv_aload_n hx hb dX1_showDoor_86 rfl (lv_at hl 1 rfl) ?_
    refine lv_iload_n hx hb dX1_showDoor_87 rfl (lv_at hl 2 rfl) ?_
    refine sw_ki (rest := []) (sw_runV (As := [.int a2]) (rest := []) hx hb hml hown hts (kX5_holdsDegree l g i1 hi1 a2 M15 _ h) cv_X5_holdsDegree q_1021 rfl rfl ⟨(Nat.le_of_ble_eq_true rfl), (Nat.le_of_ble_eq_true rfl)⟩ hW (sw_st_lt0 hi1) (sw_lay_so i1) rfl rfl hl.1 rfl (Nat.le_of_ble_eq_true rfl) dX1_showDoor_88 ⟨(Nat.le_of_ble_eq_true rfl), (Nat.le_of_ble_eq_true rfl)⟩) hW (fun r16 M19 H locs h hW => ?_)
    obtain ⟨h, eM19⟩ := h
    rw [eM19] at hW
    refine lv_if_eq (tgt := 100) hx hb dX1_showDoor_91 (by decide) (fun k17 => ?_) (fun k17 => ?_)
    · have h := h.1 k17
      exact sw_rv hx hb hr hlocks hW h dX1_showDoor_100
    · have h := h.2 k17
      refine lv_aload_n hx hb dX1_showDoor_94 rfl (lv_at hl 0 rfl) ?_
      refine lv_bipush (v := 42) hx hb dX1_showDoor_95 (by decide) ?_
      refine sw_kv (rest := []) (sw_runV (As := [.int (42 : Int32)]) (rest := []) hx hb hml hown hts (kX1_put l g (42 : Int32) M15 _ h) cv_X1_put q_1010 rfl rfl ⟨(Nat.le_of_ble_eq_true rfl), (Nat.le_of_ble_eq_true rfl)⟩ hW (Or.inl (Nat.le_of_ble_eq_true rfl)) sl_31 rfl rfl hl.1 rfl (Nat.le_of_ble_eq_true rfl) dX1_showDoor_97 ⟨(Nat.le_of_ble_eq_true rfl), (Nat.le_of_ble_eq_true rfl)⟩) hW (fun  M18 H locs h hW => ?_)
      exact sw_rv hx hb hr hlocks hW h dX1_showDoor_100
  · have h := h.2 k13
    refine lv_aload_n hx hb dX1_showDoor_35 rfl (lv_at hl 1 rfl) ?_
    refine lv_iload_n hx hb dX1_showDoor_36 rfl (lv_at hl 3 rfl) ?_
    refine lv_iload_n hx hb dX1_showDoor_37 rfl (lv_at hl 2 rfl) ?_
    refine sw_ki (rest := []) (sw_runV (As := [.int x3_27, .int a2]) (rest := []) hx hb hml hown hts (kX5_assigned l g i1 hi1 x3_27 a2 M_27 _ h) cv_X5_assigned q_1016 rfl rfl ⟨(Nat.le_of_ble_eq_true rfl), (Nat.le_of_ble_eq_true rfl)⟩ hW (sw_st_lt0 hi1) (sw_lay_so i1) rfl rfl hl.1 rfl (Nat.le_of_ble_eq_true rfl) dX1_showDoor_38 ⟨(Nat.le_of_ble_eq_true rfl), (Nat.le_of_ble_eq_true rfl)⟩) hW (fun r21 M30 H locs h hW => ?_)
    obtain ⟨h, eM30⟩ := h
    rw [eM30] at hW
    refine lv_if_eq (tgt := 69) hx hb dX1_showDoor_41 (by decide) (fun k22 => ?_) (fun k22 => ?_)
    · have h := h.1 k22
      obtain ⟨v23, ev23⟩ : ∃ z : Int32, z = x3_27 + (1 : Int32) := ⟨_, rfl⟩
      have h := h v23 ev23
      refine lv_iinc (v := v23) (lv' := [(3, .int v23), (0, .ref (sw_ad g 31)), (1, .ref (sw_ad g (sw_st i1))), (2, .int a2)]) hx hb dX1_showDoor_69 hl (k := 3) rfl (by rw [ev23]; rfl) (Nat.le_of_ble_eq_true rfl) rfl (fun ls hl => ?_)
      refine lv_goto (tgt := 27) hx hb dX1_showDoor_72 (by decide) ?_
      exact ih27 _ _ _ _ _ h hW (lv_sub hl [1, 2, 3, 0] rfl)
    · have h := h.2 k22
      refine lv_aload_n hx hb dX1_showDoor_44 rfl (lv_at hl 0 rfl) ?_
      refine lv_bipush (v := 32) hx hb dX1_showDoor_45 (by decide) ?_
      refine sw_kv (rest := []) (sw_runV (As := [.int (32 : Int32)]) (rest := []) hx hb hml hown hts (kX1_put l g (32 : Int32) M_27 _ h) cv_X1_put q_1010 rfl rfl ⟨(Nat.le_of_ble_eq_true rfl), (Nat.le_of_ble_eq_true rfl)⟩ hW (Or.inl (Nat.le_of_ble_eq_true rfl)) sl_31 rfl rfl hl.1 rfl (Nat.le_of_ble_eq_true rfl) dX1_showDoor_47 ⟨(Nat.le_of_ble_eq_true rfl), (Nat.le_of_ble_eq_true rfl)⟩) hW (fun  M24 H locs h hW => ?_)
      refine lv_aload_n hx hb dX1_showDoor_50 rfl (lv_at hl 0 rfl) ?_
      refine lv_iload_n hx hb dX1_showDoor_51 rfl (lv_at hl 3 rfl) ?_
      refine sw_kv (rest := []) (sw_runV (As := [.int x3_27]) (rest := []) hx hb hml hown hts (kX1_putNumber l g x3_27 M24 _ h) cv_X1_putNumber q_1013 rfl rfl ⟨(Nat.le_of_ble_eq_true rfl), (Nat.le_of_ble_eq_true rfl)⟩ hW (Or.inl (Nat.le_of_ble_eq_true rfl)) sl_31 rfl rfl hl.1 rfl (Nat.le_of_ble_eq_true rfl) dX1_showDoor_52 ⟨(Nat.le_of_ble_eq_true rfl), (Nat.le_of_ble_eq_true rfl)⟩) hW (fun  M25 H locs h hW => ?_)
      refine lv_aload_n hx hb dX1_showDoor_55 rfl (lv_at hl 0 rfl) ?_
      refine lv_bipush (v := 58) hx hb dX1_showDoor_56 (by decide) ?_
      refine lv_aload_n hx hb dX1_showDoor_58 rfl (lv_at hl 1 rfl) ?_
      refine sw_gr (j := 13) (r := (sw_st i1 + 10)) hx hb hts hown hW rfl qf_5 (sw_st_lt0 hi1) (sw_lay_so i1) rfl (Nat.le_of_ble_eq_true rfl) q_84 dX1_showDoor_59 ?_
      refine lv_iload_n hx hb dX1_showDoor_62 rfl (lv_at hl 3 rfl) ?_
      have b26 := h.1
      have h := h.2
      refine sw_aaG hi1 hx hb hW b26 dX1_showDoor_63 ?_
      refine lv_iload_n hx hb dX1_showDoor_64 rfl (lv_at hl 2 rfl) ?_
      have b27 := h.1
      have h := h.2
      refine sw_ia (n := 8) hx hb hW (sw_g_lt hi1 (sw_vlt b26)) (sw_lay_g i1 (sw_vlt b26)) b27 dX1_showDoor_65 ?_
      refine sw_kv (rest := []) (sw_runV (As := [.int (58 : Int32), .int (M25 (sw_st i1 + 11 + (x3_27).toNatClampNeg) (a2).toNatClampNeg)]) (rest := []) hx hb hml hown hts (kX1_putIfThere l g (58 : Int32) (M25 (sw_st i1 + 11 + (x3_27).toNatClampNeg) (a2).toNatClampNeg) M25 _ h) cv_X1_putIfThere q_1017 rfl rfl ⟨(Nat.le_of_ble_eq_true rfl), (Nat.le_of_ble_eq_true rfl)⟩ hW (Or.inl (Nat.le_of_ble_eq_true rfl)) sl_31 rfl rfl hl.1 rfl (Nat.le_of_ble_eq_true rfl) dX1_showDoor_66 ⟨(Nat.le_of_ble_eq_true rfl), (Nat.le_of_ble_eq_true rfl)⟩) hW (fun  M28 H locs h hW => ?_)
      obtain ⟨v29, ev29⟩ : ∃ z : Int32, z = x3_27 + (1 : Int32) := ⟨_, rfl⟩
      have h := h v29 ev29
      refine lv_iinc (v := v29) (lv' := [(3, .int v29), (0, .ref (sw_ad g 31)), (1, .ref (sw_ad g (sw_st i1))), (2, .int a2)]) hx hb dX1_showDoor_69 hl (k := 3) rfl (by rw [ev29]; rfl) (Nat.le_of_ble_eq_true rfl) rfl (fun ls hl => ?_)
      refine lv_goto (tgt := 27) hx hb dX1_showDoor_72 (by decide) ?_
      exact ih27 _ _ _ _ _ h hW (lv_sub hl [1, 2, 3, 0] rfl)

def lX1_showExaminer_48 (i1 : Nat) (a2 : Int32) (K48 : sM → Prop) : Nat → Int32 → sM → Prop
  | 0, _, _ => False
  | n48 + 1, x3_48, M_48 => ((6 : Int32) ≤ x3_48 → (K48 M_48)) ∧ (¬ (6 : Int32) ≤ x3_48 → (vp_in a2 6 ∧ (wX6_contains (M_48 (sw_st i1 + 4) (a2).toNatClampNeg) x3_48 (fun r18 => (r18 = 0 → (∀ v20 : Int32, v20 = x3_48 + (1 : Int32) → ((fun x3_48 M_48 => lX1_showExaminer_48 i1 a2 K48 n48 x3_48 M_48) v20 M_48))) ∧ (¬ r18 = 0 → (wX1_putNumber x3_48 M_48 (fun M21 => ∀ v22 : Int32, v22 = x3_48 + (1 : Int32) → ((fun x3_48 M_48 => lX1_showExaminer_48 i1 a2 K48 n48 x3_48 M_48) v22 M21))))))))
theorem cv_X1_showExaminer : sw_cV yX1_showExaminer RX1 cX1_showExaminer 4 none 2 := ⟨q_1057, q_1058, q_8, q_1059, by decide +kernel⟩
def wX1_showExaminer (i1 : Nat) (a2 : Int32) (M : sM) (Q : sM → Prop) : Prop :=
  ∀ M1 : sM, M1 = sw_ms M 31 1 (0 : Int32) → (vp_in a2 6 ∧ (wX1_put (M1 (sw_st i1 + 3) (a2).toNatClampNeg) M1 (fun M3 => wX5_loadOf i1 a2 M3 (fun r4 => wX1_putNumber r4 M3 (fun M5 => wX1_put (47 : Int32) M5 (fun M6 => vp_in a2 6 ∧ (wX1_putNumber (M6 (sw_st i1 + 5) (a2).toNatClampNeg) M6 (fun M8 => wX1_put (35 : Int32) M8 (fun M9 => ∃ n48, lX1_showExaminer_48 i1 a2 (fun M_48k => wX1_put (43 : Int32) M_48k (fun M10 => vp_in a2 6 ∧ (wX1_putNumber (M10 (sw_st i1 + 6) (a2).toNatClampNeg) M10 (fun M12 => Q M12)))) n48 (0 : Int32) M9)))))))))
set_option maxRecDepth 20000 in
theorem kX1_showExaminer (l : Launch) (g : sG) (i1 : Nat) (hi1 : i1 < 11) (a2 : Int32) (M : sM) (Q : sM → Prop) (h : wX1_showExaminer i1 a2 M Q) : Met l yX1_showExaminer (sw_ws yX1_showExaminer cX1_showExaminer 4 none) { frames := 2, cells := 0, slots := 0, locals := 42 } (va_Pc [.ref (sw_ad g 31), .ref (sw_ad g (sw_st i1)), .int a2] (sw_Pr g M)) (va_Qv Q (sw_Po g) (sw_A g)) 0 0 (sw_A g) := by
  refine sw_met (by decide) (Nat.le_of_ble_eq_true rfl) ?_
  intro p e s m args below meth c ls hx hb hr hts hown hml hlocks hW hl
  have hown : s.vm.findClass RX1 = some m.cls := hown
  have hl : lv_has ls 4 [(0, .ref (sw_ad g 31)), (1, .ref (sw_ad g (sw_st i1))), (2, .int a2)] := hl
  unfold wX1_showExaminer at h
  refine lv_aload_n hx hb dX1_showExaminer_0 rfl (lv_at hl 0 rfl) ?_
  refine lv_iconst (v := 0) hx hb dX1_showExaminer_1 (by decide) ?_
  refine sw_pi (j := 1) hx hb hts hown hW rfl qf_1 tyX1 tyX1_ok nmX1 (Or.inl (Nat.le_of_ble_eq_true rfl)) sl_31 rfl (Nat.le_of_ble_eq_true rfl) q_148 rfl rfl rfl dX1_showExaminer_2 (fun H locs hW => ?_)
  obtain ⟨M1, eM1⟩ : ∃ z : sM, z = sw_ms M 31 1 (0 : Int32) := ⟨_, rfl⟩
  rw [← eM1] at hW
  have h := h M1 eM1
  refine lv_aload_n hx hb dX1_showExaminer_5 rfl (lv_at hl 0 rfl) ?_
  refine lv_aload_n hx hb dX1_showExaminer_6 rfl (lv_at hl 1 rfl) ?_
  refine sw_gr (j := 7) (r := (sw_st i1 + 3)) hx hb hts hown hW rfl qf_5 (sw_st_lt0 hi1) (sw_lay_so i1) rfl (Nat.le_of_ble_eq_true rfl) q_71 dX1_showExaminer_7 ?_
  refine lv_iload_n hx hb dX1_showExaminer_10 rfl (lv_at hl 2 rfl) ?_
  have b2 := h.1
  have h := h.2
  refine sw_ca (n := 6) hx hb hW (sw_st_lt hi1 (Nat.le_of_ble_eq_true rfl)) (sw_lay_s i1 3 (Nat.le_of_ble_eq_true rfl)) b2 dX1_showExaminer_11 ?_
  refine sw_kv (rest := []) (sw_runV (As := [.int (M1 (sw_st i1 + 3) (a2).toNatClampNeg)]) (rest := []) hx hb hml hown hts (kX1_put l g (M1 (sw_st i1 + 3) (a2).toNatClampNeg) M1 _ h) cv_X1_put q_1010 rfl rfl ⟨(Nat.le_of_ble_eq_true rfl), (Nat.le_of_ble_eq_true rfl)⟩ hW (Or.inl (Nat.le_of_ble_eq_true rfl)) sl_31 rfl rfl hl.1 rfl (Nat.le_of_ble_eq_true rfl) dX1_showExaminer_12 ⟨(Nat.le_of_ble_eq_true rfl), (Nat.le_of_ble_eq_true rfl)⟩) hW (fun  M3 H locs h hW => ?_)
  refine lv_aload_n hx hb dX1_showExaminer_15 rfl (lv_at hl 0 rfl) ?_
  refine lv_aload_n hx hb dX1_showExaminer_16 rfl (lv_at hl 1 rfl) ?_
  refine lv_iload_n hx hb dX1_showExaminer_17 rfl (lv_at hl 2 rfl) ?_
  refine sw_ki (rest := [.ref (sw_ad g 31)]) (sw_runV (As := [.int a2]) (rest := [.ref (sw_ad g 31)]) hx hb hml hown hts (kX5_loadOf l g i1 hi1 a2 M3 _ h) cv_X5_loadOf q_1060 rfl rfl ⟨(Nat.le_of_ble_eq_true rfl), (Nat.le_of_ble_eq_true rfl)⟩ hW (sw_st_lt0 hi1) (sw_lay_so i1) rfl rfl hl.1 rfl (Nat.le_of_ble_eq_true rfl) dX1_showExaminer_18 ⟨(Nat.le_of_ble_eq_true rfl), (Nat.le_of_ble_eq_true rfl)⟩) hW (fun r4 M24 H locs h hW => ?_)
  obtain ⟨h, eM24⟩ := h
  rw [eM24] at hW
  refine sw_kv (rest := []) (sw_runV (As := [.int r4]) (rest := []) hx hb hml hown hts (kX1_putNumber l g r4 M3 _ h) cv_X1_putNumber q_1013 rfl rfl ⟨(Nat.le_of_ble_eq_true rfl), (Nat.le_of_ble_eq_true rfl)⟩ hW (Or.inl (Nat.le_of_ble_eq_true rfl)) sl_31 rfl rfl hl.1 rfl (Nat.le_of_ble_eq_true rfl) dX1_showExaminer_21 ⟨(Nat.le_of_ble_eq_true rfl), (Nat.le_of_ble_eq_true rfl)⟩) hW (fun  M5 H locs h hW => ?_)
  refine lv_aload_n hx hb dX1_showExaminer_24 rfl (lv_at hl 0 rfl) ?_
  refine lv_bipush (v := 47) hx hb dX1_showExaminer_25 (by decide) ?_
  refine sw_kv (rest := []) (sw_runV (As := [.int (47 : Int32)]) (rest := []) hx hb hml hown hts (kX1_put l g (47 : Int32) M5 _ h) cv_X1_put q_1010 rfl rfl ⟨(Nat.le_of_ble_eq_true rfl), (Nat.le_of_ble_eq_true rfl)⟩ hW (Or.inl (Nat.le_of_ble_eq_true rfl)) sl_31 rfl rfl hl.1 rfl (Nat.le_of_ble_eq_true rfl) dX1_showExaminer_27 ⟨(Nat.le_of_ble_eq_true rfl), (Nat.le_of_ble_eq_true rfl)⟩) hW (fun  M6 H locs h hW => ?_)
  refine lv_aload_n hx hb dX1_showExaminer_30 rfl (lv_at hl 0 rfl) ?_
  refine lv_aload_n hx hb dX1_showExaminer_31 rfl (lv_at hl 1 rfl) ?_
  refine sw_gr (j := 9) (r := (sw_st i1 + 5)) hx hb hts hown hW rfl qf_5 (sw_st_lt0 hi1) (sw_lay_so i1) rfl (Nat.le_of_ble_eq_true rfl) q_77 dX1_showExaminer_32 ?_
  refine lv_iload_n hx hb dX1_showExaminer_35 rfl (lv_at hl 2 rfl) ?_
  have b7 := h.1
  have h := h.2
  refine sw_ia (n := 6) hx hb hW (sw_st_lt hi1 (Nat.le_of_ble_eq_true rfl)) (sw_lay_s i1 5 (Nat.le_of_ble_eq_true rfl)) b7 dX1_showExaminer_36 ?_
  refine sw_kv (rest := []) (sw_runV (As := [.int (M6 (sw_st i1 + 5) (a2).toNatClampNeg)]) (rest := []) hx hb hml hown hts (kX1_putNumber l g (M6 (sw_st i1 + 5) (a2).toNatClampNeg) M6 _ h) cv_X1_putNumber q_1013 rfl rfl ⟨(Nat.le_of_ble_eq_true rfl), (Nat.le_of_ble_eq_true rfl)⟩ hW (Or.inl (Nat.le_of_ble_eq_true rfl)) sl_31 rfl rfl hl.1 rfl (Nat.le_of_ble_eq_true rfl) dX1_showExaminer_37 ⟨(Nat.le_of_ble_eq_true rfl), (Nat.le_of_ble_eq_true rfl)⟩) hW (fun  M8 H locs h hW => ?_)
  refine lv_aload_n hx hb dX1_showExaminer_40 rfl (lv_at hl 0 rfl) ?_
  refine lv_bipush (v := 35) hx hb dX1_showExaminer_41 (by decide) ?_
  refine sw_kv (rest := []) (sw_runV (As := [.int (35 : Int32)]) (rest := []) hx hb hml hown hts (kX1_put l g (35 : Int32) M8 _ h) cv_X1_put q_1010 rfl rfl ⟨(Nat.le_of_ble_eq_true rfl), (Nat.le_of_ble_eq_true rfl)⟩ hW (Or.inl (Nat.le_of_ble_eq_true rfl)) sl_31 rfl rfl hl.1 rfl (Nat.le_of_ble_eq_true rfl) dX1_showExaminer_43 ⟨(Nat.le_of_ble_eq_true rfl), (Nat.le_of_ble_eq_true rfl)⟩) hW (fun  M9 H locs h hW => ?_)
  refine lv_iconst (v := 0) hx hb dX1_showExaminer_46 (by decide) ?_
  refine lv_istore_n (lv' := [(3, .int (0 : Int32)), (0, .ref (sw_ad g 31)), (1, .ref (sw_ad g (sw_st i1))), (2, .int a2)]) hx hb dX1_showExaminer_47 rfl hl (Nat.le_of_ble_eq_true rfl) rfl (fun ls hl => ?_)
  obtain ⟨n48, h⟩ := h
  refine sw_lp_iM (hd := 48) (Lf := fun x3_48 M_48 => [(0, .ref (sw_ad g 31)), (1, .ref (sw_ad g (sw_st i1))), (2, .int a2), (3, .int x3_48)]) h hW (lv_sub hl [1, 2, 3, 0] rfl) (fun _ _ h => h) (fun n48 ih48 x3_48 M_48 H locs ls h hW hl => ?_)
  rw [lX1_showExaminer_48.eq_2] at h
  refine lv_iload_n hx hb dX1_showExaminer_48 rfl (lv_at hl 3 rfl) ?_
  refine lv_bipush (v := 6) hx hb dX1_showExaminer_49 (by decide) ?_
  refine lv_icmp_ge (tgt := 78) hx hb dX1_showExaminer_51 (by decide) (fun k13 => ?_) (fun k13 => ?_)
  · have h := h.1 k13
    refine lv_aload_n hx hb dX1_showExaminer_78 rfl (lv_at hl 0 rfl) ?_
    refine lv_bipush (v := 43) hx hb dX1_showExaminer_79 (by decide) ?_
    refine sw_kv (rest := []) (sw_runV (As := [.int (43 : Int32)]) (rest := []) hx hb hml hown hts (kX1_put l g (43 : Int32) M_48 _ h) cv_X1_put q_1010 rfl rfl ⟨(Nat.le_of_ble_eq_true rfl), (Nat.le_of_ble_eq_true rfl)⟩ hW (Or.inl (Nat.le_of_ble_eq_true rfl)) sl_31 rfl rfl hl.1 rfl (Nat.le_of_ble_eq_true rfl) dX1_showExaminer_81 ⟨(Nat.le_of_ble_eq_true rfl), (Nat.le_of_ble_eq_true rfl)⟩) hW (fun  M14 H locs h hW => ?_)
    refine lv_aload_n hx hb dX1_showExaminer_84 rfl (lv_at hl 0 rfl) ?_
    refine lv_aload_n hx hb dX1_showExaminer_85 rfl (lv_at hl 1 rfl) ?_
    refine sw_gr (j := 10) (r := (sw_st i1 + 6)) hx hb hts hown hW rfl qf_5 (sw_st_lt0 hi1) (sw_lay_so i1) rfl (Nat.le_of_ble_eq_true rfl) q_79 dX1_showExaminer_86 ?_
    refine lv_iload_n hx hb dX1_showExaminer_89 rfl (lv_at hl 2 rfl) ?_
    have b15 := h.1
    have h := h.2
    refine sw_ia (n := 6) hx hb hW (sw_st_lt hi1 (Nat.le_of_ble_eq_true rfl)) (sw_lay_s i1 6 (Nat.le_of_ble_eq_true rfl)) b15 dX1_showExaminer_90 ?_
    refine sw_kv (rest := []) (sw_runV (As := [.int (M14 (sw_st i1 + 6) (a2).toNatClampNeg)]) (rest := []) hx hb hml hown hts (kX1_putNumber l g (M14 (sw_st i1 + 6) (a2).toNatClampNeg) M14 _ h) cv_X1_putNumber q_1013 rfl rfl ⟨(Nat.le_of_ble_eq_true rfl), (Nat.le_of_ble_eq_true rfl)⟩ hW (Or.inl (Nat.le_of_ble_eq_true rfl)) sl_31 rfl rfl hl.1 rfl (Nat.le_of_ble_eq_true rfl) dX1_showExaminer_91 ⟨(Nat.le_of_ble_eq_true rfl), (Nat.le_of_ble_eq_true rfl)⟩) hW (fun  M16 H locs h hW => ?_)
    exact sw_rv hx hb hr hlocks hW h dX1_showExaminer_94
  · have h := h.2 k13
    refine lv_aload_n hx hb dX1_showExaminer_54 rfl (lv_at hl 1 rfl) ?_
    refine sw_gr (j := 8) (r := (sw_st i1 + 4)) hx hb hts hown hW rfl qf_5 (sw_st_lt0 hi1) (sw_lay_so i1) rfl (Nat.le_of_ble_eq_true rfl) q_75 dX1_showExaminer_55 ?_
    refine lv_iload_n hx hb dX1_showExaminer_58 rfl (lv_at hl 2 rfl) ?_
    have b17 := h.1
    have h := h.2
    refine sw_ia (n := 6) hx hb hW (sw_st_lt hi1 (Nat.le_of_ble_eq_true rfl)) (sw_lay_s i1 4 (Nat.le_of_ble_eq_true rfl)) b17 dX1_showExaminer_59 ?_
    refine lv_iload_n hx hb dX1_showExaminer_60 rfl (lv_at hl 3 rfl) ?_
    refine sw_ki (rest := []) (sw_runN (As := [.int (M_48 (sw_st i1 + 4) (a2).toNatClampNeg), .int x3_48]) (rest := []) hx hb hml hown hts (kX6_contains l g (M_48 (sw_st i1 + 4) (a2).toNatClampNeg) x3_48 M_48 _ h) cs_X6_contains qn_X1_71 rfl rfl ⟨(Nat.le_of_ble_eq_true rfl), (Nat.le_of_ble_eq_true rfl)⟩ hW rfl hl.1 rfl (Nat.le_of_ble_eq_true rfl) dX1_showExaminer_61 ⟨(Nat.le_of_ble_eq_true rfl), (Nat.le_of_ble_eq_true rfl)⟩) hW (fun r18 M23 H locs h hW => ?_)
    obtain ⟨h, eM23⟩ := h
    rw [eM23] at hW
    refine lv_if_eq (tgt := 72) hx hb dX1_showExaminer_64 (by decide) (fun k19 => ?_) (fun k19 => ?_)
    · have h := h.1 k19
      obtain ⟨v20, ev20⟩ : ∃ z : Int32, z = x3_48 + (1 : Int32) := ⟨_, rfl⟩
      have h := h v20 ev20
      refine lv_iinc (v := v20) (lv' := [(3, .int v20), (0, .ref (sw_ad g 31)), (1, .ref (sw_ad g (sw_st i1))), (2, .int a2)]) hx hb dX1_showExaminer_72 hl (k := 3) rfl (by rw [ev20]; rfl) (Nat.le_of_ble_eq_true rfl) rfl (fun ls hl => ?_)
      refine lv_goto (tgt := 48) hx hb dX1_showExaminer_75 (by decide) ?_
      exact ih48 _ _ _ _ _ h hW (lv_sub hl [1, 2, 3, 0] rfl)
    · have h := h.2 k19
      refine lv_aload_n hx hb dX1_showExaminer_67 rfl (lv_at hl 0 rfl) ?_
      refine lv_iload_n hx hb dX1_showExaminer_68 rfl (lv_at hl 3 rfl) ?_
      refine sw_kv (rest := []) (sw_runV (As := [.int x3_48]) (rest := []) hx hb hml hown hts (kX1_putNumber l g x3_48 M_48 _ h) cv_X1_putNumber q_1013 rfl rfl ⟨(Nat.le_of_ble_eq_true rfl), (Nat.le_of_ble_eq_true rfl)⟩ hW (Or.inl (Nat.le_of_ble_eq_true rfl)) sl_31 rfl rfl hl.1 rfl (Nat.le_of_ble_eq_true rfl) dX1_showExaminer_69 ⟨(Nat.le_of_ble_eq_true rfl), (Nat.le_of_ble_eq_true rfl)⟩) hW (fun  M21 H locs h hW => ?_)
      obtain ⟨v22, ev22⟩ : ∃ z : Int32, z = x3_48 + (1 : Int32) := ⟨_, rfl⟩
      have h := h v22 ev22
      refine lv_iinc (v := v22) (lv' := [(3, .int v22), (0, .ref (sw_ad g 31)), (1, .ref (sw_ad g (sw_st i1))), (2, .int a2)]) hx hb dX1_showExaminer_72 hl (k := 3) rfl (by rw [ev22]; rfl) (Nat.le_of_ble_eq_true rfl) rfl (fun ls hl => ?_)
      refine lv_goto (tgt := 48) hx hb dX1_showExaminer_75 (by decide) ?_
      exact ih48 _ _ _ _ _ h hW (lv_sub hl [1, 2, 3, 0] rfl)

theorem cs_X2_suits : sw_cS yX2_suits cX2_suits 3 (some .boolean) 3 := ⟨q_453, q_6, q_454, by decide +kernel⟩
def wX2_suits (i1 : Nat) (a2 : Int32) (a3 : Int32) (M : sM) (Q : Int32 → Prop) : Prop :=
  wX5_hasExaminer i1 a3 M (fun r1 => (r1 = 0 → (Q (0 : Int32))) ∧ (¬ r1 = 0 → (wX5_neutral i1 a3 a2 M (fun r3 => (r3 = 0 → (Q (0 : Int32))) ∧ (¬ r3 = 0 → (wX5_assigned i1 a3 a2 M (fun r5 => (r5 = 0 → (Q (1 : Int32))) ∧ (¬ r5 = 0 → (Q (0 : Int32))))))))))
set_option maxRecDepth 20000 in
theorem kX2_suits (l : Launch) (g : sG) (i1 : Nat) (hi1 : i1 < 11) (a2 : Int32) (a3 : Int32) (M : sM) (Q : Int32 → Prop) (h : wX2_suits i1 a2 a3 M Q) : Met l yX2_suits (sw_ws yX2_suits cX2_suits 3 (some .boolean)) { frames := 1, cells := 0, slots := 0, locals := 22 } (va_Pc [.ref (sw_ad g (sw_st i1)), .int a2, .int a3] (sw_Pr g M)) (va_Qi (fun r M1 => Q r ∧ M1 = M) (sw_Po g) (sw_A g)) 0 0 (sw_A g) := by
  refine sw_met (by decide) (Nat.le_of_ble_eq_true rfl) ?_
  intro p e s m args below meth c ls hx hb hr hts hown hml hlocks hW hl
  have hown : s.vm.findClass RX2 = some m.cls := hown
  have hl : lv_has ls 3 [(0, .ref (sw_ad g (sw_st i1))), (1, .int a2), (2, .int a3)] := hl
  unfold wX2_suits at h
  refine lv_aload_n hx hb dX2_suits_0 rfl (lv_at hl 0 rfl) ?_
  refine lv_iload_n hx hb dX2_suits_1 rfl (lv_at hl 2 rfl) ?_
  refine sw_ki (rest := []) (sw_runV (As := [.int a3]) (rest := []) hx hb hml hown hts (kX5_hasExaminer l g i1 hi1 a3 M _ h) cv_X5_hasExaminer q_455 rfl rfl ⟨(Nat.le_of_ble_eq_true rfl), (Nat.le_of_ble_eq_true rfl)⟩ hW (sw_st_lt0 hi1) (sw_lay_so i1) rfl rfl hl.1 rfl (Nat.le_of_ble_eq_true rfl) dX2_suits_2 ⟨(Nat.le_of_ble_eq_true rfl), (Nat.le_of_ble_eq_true rfl)⟩) hW (fun r1 M9 H locs h hW => ?_)
  obtain ⟨h, eM9⟩ := h
  rw [eM9] at hW
  refine lv_if_eq (tgt := 30) hx hb dX2_suits_5 (by decide) (fun k2 => ?_) (fun k2 => ?_)
  · have h := h.1 k2
    refine lv_iconst (v := 0) hx hb dX2_suits_30 (by decide) ?_
    exact sw_ri hx hb hr hlocks hW (by decide) ⟨h, rfl⟩ dX2_suits_31
  · have h := h.2 k2
    refine lv_aload_n hx hb dX2_suits_8 rfl (lv_at hl 0 rfl) ?_
    refine lv_iload_n hx hb dX2_suits_9 rfl (lv_at hl 2 rfl) ?_
    refine lv_iload_n hx hb dX2_suits_10 rfl (lv_at hl 1 rfl) ?_
    refine sw_ki (rest := []) (sw_runV (As := [.int a3, .int a2]) (rest := []) hx hb hml hown hts (kX5_neutral l g i1 hi1 a3 a2 M _ h) cv_X5_neutral q_456 rfl rfl ⟨(Nat.le_of_ble_eq_true rfl), (Nat.le_of_ble_eq_true rfl)⟩ hW (sw_st_lt0 hi1) (sw_lay_so i1) rfl rfl hl.1 rfl (Nat.le_of_ble_eq_true rfl) dX2_suits_11 ⟨(Nat.le_of_ble_eq_true rfl), (Nat.le_of_ble_eq_true rfl)⟩) hW (fun r3 M8 H locs h hW => ?_)
    obtain ⟨h, eM8⟩ := h
    rw [eM8] at hW
    refine lv_if_eq (tgt := 30) hx hb dX2_suits_14 (by decide) (fun k4 => ?_) (fun k4 => ?_)
    · have h := h.1 k4
      refine lv_iconst (v := 0) hx hb dX2_suits_30 (by decide) ?_
      exact sw_ri hx hb hr hlocks hW (by decide) ⟨h, rfl⟩ dX2_suits_31
    · have h := h.2 k4
      refine lv_aload_n hx hb dX2_suits_17 rfl (lv_at hl 0 rfl) ?_
      refine lv_iload_n hx hb dX2_suits_18 rfl (lv_at hl 2 rfl) ?_
      refine lv_iload_n hx hb dX2_suits_19 rfl (lv_at hl 1 rfl) ?_
      refine sw_ki (rest := []) (sw_runV (As := [.int a3, .int a2]) (rest := []) hx hb hml hown hts (kX5_assigned l g i1 hi1 a3 a2 M _ h) cv_X5_assigned q_457 rfl rfl ⟨(Nat.le_of_ble_eq_true rfl), (Nat.le_of_ble_eq_true rfl)⟩ hW (sw_st_lt0 hi1) (sw_lay_so i1) rfl rfl hl.1 rfl (Nat.le_of_ble_eq_true rfl) dX2_suits_20 ⟨(Nat.le_of_ble_eq_true rfl), (Nat.le_of_ble_eq_true rfl)⟩) hW (fun r5 M7 H locs h hW => ?_)
      obtain ⟨h, eM7⟩ := h
      rw [eM7] at hW
      refine lv_if_ne (tgt := 30) hx hb dX2_suits_23 (by decide) (fun k6 => ?_) (fun k6 => ?_)
      · have h := h.2 k6
        refine lv_iconst (v := 0) hx hb dX2_suits_30 (by decide) ?_
        exact sw_ri hx hb hr hlocks hW (by decide) ⟨h, rfl⟩ dX2_suits_31
      · have h := h.1 k6
        refine lv_iconst (v := 1) hx hb dX2_suits_26 (by decide) ?_
        refine lv_goto (tgt := 31) hx hb dX2_suits_27 (by decide) ?_
        exact sw_ri hx hb hr hlocks hW (by decide) ⟨h, rfl⟩ dX2_suits_31

theorem cs_X2_isPanel : sw_cS yX2_isPanel cX2_isPanel 5 (some .boolean) 5 := ⟨q_450, q_6, q_451, by decide +kernel⟩
def wX2_isPanel (i1 : Nat) (a2 : Int32) (a3 : Int32) (a4 : Int32) (a5 : Int32) (M : sM) (Q : Int32 → Prop) : Prop :=
  wX2_suits i1 a2 a3 M (fun r1 => (r1 = 0 → (Q (0 : Int32))) ∧ (¬ r1 = 0 → (wX2_suits i1 a2 a4 M (fun r3 => (r3 = 0 → (Q (0 : Int32))) ∧ (¬ r3 = 0 → (wX2_suits i1 a2 a5 M (fun r5 => (r5 = 0 → (Q (0 : Int32))) ∧ (¬ r5 = 0 → (vp_in a3 6 ∧ (vp_in a4 6 ∧ (((M (sw_st i1 + 3) (a3).toNatClampNeg) = (M (sw_st i1 + 3) (a4).toNatClampNeg) → (Q (0 : Int32))) ∧ (¬ (M (sw_st i1 + 3) (a3).toNatClampNeg) = (M (sw_st i1 + 3) (a4).toNatClampNeg) → (vp_in a3 6 ∧ (vp_in a5 6 ∧ (((M (sw_st i1 + 3) (a3).toNatClampNeg) = (M (sw_st i1 + 3) (a5).toNatClampNeg) → (Q (0 : Int32))) ∧ (¬ (M (sw_st i1 + 3) (a3).toNatClampNeg) = (M (sw_st i1 + 3) (a5).toNatClampNeg) → (vp_in a4 6 ∧ (vp_in a5 6 ∧ (((M (sw_st i1 + 3) (a4).toNatClampNeg) = (M (sw_st i1 + 3) (a5).toNatClampNeg) → (Q (0 : Int32))) ∧ (¬ (M (sw_st i1 + 3) (a4).toNatClampNeg) = (M (sw_st i1 + 3) (a5).toNatClampNeg) → (Q (1 : Int32))))))))))))))))))))))
set_option maxRecDepth 20000 in
theorem kX2_isPanel (l : Launch) (g : sG) (i1 : Nat) (hi1 : i1 < 11) (a2 : Int32) (a3 : Int32) (a4 : Int32) (a5 : Int32) (M : sM) (Q : Int32 → Prop) (h : wX2_isPanel i1 a2 a3 a4 a5 M Q) : Met l yX2_isPanel (sw_ws yX2_isPanel cX2_isPanel 5 (some .boolean)) { frames := 2, cells := 0, slots := 0, locals := 44 } (va_Pc [.ref (sw_ad g (sw_st i1)), .int a2, .int a3, .int a4, .int a5] (sw_Pr g M)) (va_Qi (fun r M1 => Q r ∧ M1 = M) (sw_Po g) (sw_A g)) 0 0 (sw_A g) := by
  refine sw_met (by decide) (Nat.le_of_ble_eq_true rfl) ?_
  intro p e s m args below meth c ls hx hb hr hts hown hml hlocks hW hl
  have hown : s.vm.findClass RX2 = some m.cls := hown
  have hl : lv_has ls 5 [(0, .ref (sw_ad g (sw_st i1))), (1, .int a2), (2, .int a3), (3, .int a4), (4, .int a5)] := hl
  unfold wX2_isPanel at h
  refine lv_aload_n hx hb dX2_isPanel_0 rfl (lv_at hl 0 rfl) ?_
  refine lv_iload_n hx hb dX2_isPanel_1 rfl (lv_at hl 1 rfl) ?_
  refine lv_iload_n hx hb dX2_isPanel_2 rfl (lv_at hl 2 rfl) ?_
  refine sw_ki (rest := []) (sw_runS (As := [.ref (sw_ad g (sw_st i1)), .int a2, .int a3]) (rest := []) hx hb hml hown hts (kX2_suits l g i1 hi1 a2 a3 M _ h) cs_X2_suits q_452 rfl rfl ⟨(Nat.le_of_ble_eq_true rfl), (Nat.le_of_ble_eq_true rfl)⟩ hW rfl hl.1 rfl (Nat.le_of_ble_eq_true rfl) dX2_isPanel_3 ⟨(Nat.le_of_ble_eq_true rfl), (Nat.le_of_ble_eq_true rfl)⟩) hW (fun r1 M18 H locs h hW => ?_)
  obtain ⟨h, eM18⟩ := h
  rw [eM18] at hW
  refine lv_if_eq (tgt := 79) hx hb dX2_isPanel_6 (by decide) (fun k2 => ?_) (fun k2 => ?_)
  · have h := h.1 k2
    refine lv_iconst (v := 0) hx hb dX2_isPanel_79 (by decide) ?_
    exact sw_ri hx hb hr hlocks hW (by decide) ⟨h, rfl⟩ dX2_isPanel_80
  · have h := h.2 k2
    refine lv_aload_n hx hb dX2_isPanel_9 rfl (lv_at hl 0 rfl) ?_
    refine lv_iload_n hx hb dX2_isPanel_10 rfl (lv_at hl 1 rfl) ?_
    refine lv_iload_n hx hb dX2_isPanel_11 rfl (lv_at hl 3 rfl) ?_
    refine sw_ki (rest := []) (sw_runS (As := [.ref (sw_ad g (sw_st i1)), .int a2, .int a4]) (rest := []) hx hb hml hown hts (kX2_suits l g i1 hi1 a2 a4 M _ h) cs_X2_suits q_452 rfl rfl ⟨(Nat.le_of_ble_eq_true rfl), (Nat.le_of_ble_eq_true rfl)⟩ hW rfl hl.1 rfl (Nat.le_of_ble_eq_true rfl) dX2_isPanel_12 ⟨(Nat.le_of_ble_eq_true rfl), (Nat.le_of_ble_eq_true rfl)⟩) hW (fun r3 M17 H locs h hW => ?_)
    obtain ⟨h, eM17⟩ := h
    rw [eM17] at hW
    refine lv_if_eq (tgt := 79) hx hb dX2_isPanel_15 (by decide) (fun k4 => ?_) (fun k4 => ?_)
    · have h := h.1 k4
      refine lv_iconst (v := 0) hx hb dX2_isPanel_79 (by decide) ?_
      exact sw_ri hx hb hr hlocks hW (by decide) ⟨h, rfl⟩ dX2_isPanel_80
    · have h := h.2 k4
      refine lv_aload_n hx hb dX2_isPanel_18 rfl (lv_at hl 0 rfl) ?_
      refine lv_iload_n hx hb dX2_isPanel_19 rfl (lv_at hl 1 rfl) ?_
      refine lv_iload hx hb dX2_isPanel_20 (lv_at hl 4 rfl) ?_
      refine sw_ki (rest := []) (sw_runS (As := [.ref (sw_ad g (sw_st i1)), .int a2, .int a5]) (rest := []) hx hb hml hown hts (kX2_suits l g i1 hi1 a2 a5 M _ h) cs_X2_suits q_452 rfl rfl ⟨(Nat.le_of_ble_eq_true rfl), (Nat.le_of_ble_eq_true rfl)⟩ hW rfl hl.1 rfl (Nat.le_of_ble_eq_true rfl) dX2_isPanel_22 ⟨(Nat.le_of_ble_eq_true rfl), (Nat.le_of_ble_eq_true rfl)⟩) hW (fun r5 M16 H locs h hW => ?_)
      obtain ⟨h, eM16⟩ := h
      rw [eM16] at hW
      refine lv_if_eq (tgt := 79) hx hb dX2_isPanel_25 (by decide) (fun k6 => ?_) (fun k6 => ?_)
      · have h := h.1 k6
        refine lv_iconst (v := 0) hx hb dX2_isPanel_79 (by decide) ?_
        exact sw_ri hx hb hr hlocks hW (by decide) ⟨h, rfl⟩ dX2_isPanel_80
      · have h := h.2 k6
        refine lv_aload_n hx hb dX2_isPanel_28 rfl (lv_at hl 0 rfl) ?_
        refine sw_gr (j := 7) (r := (sw_st i1 + 3)) hx hb hts hown hW rfl qf_5 (sw_st_lt0 hi1) (sw_lay_so i1) rfl (Nat.le_of_ble_eq_true rfl) q_72 dX2_isPanel_29 ?_
        refine lv_iload_n hx hb dX2_isPanel_32 rfl (lv_at hl 2 rfl) ?_
        have b7 := h.1
        have h := h.2
        refine sw_ca (n := 6) hx hb hW (sw_st_lt hi1 (Nat.le_of_ble_eq_true rfl)) (sw_lay_s i1 3 (Nat.le_of_ble_eq_true rfl)) b7 dX2_isPanel_33 ?_
        refine lv_aload_n hx hb dX2_isPanel_34 rfl (lv_at hl 0 rfl) ?_
        refine sw_gr (j := 7) (r := (sw_st i1 + 3)) hx hb hts hown hW rfl qf_5 (sw_st_lt0 hi1) (sw_lay_so i1) rfl (Nat.le_of_ble_eq_true rfl) q_72 dX2_isPanel_35 ?_
        refine lv_iload_n hx hb dX2_isPanel_38 rfl (lv_at hl 3 rfl) ?_
        have b8 := h.1
        have h := h.2
        refine sw_ca (n := 6) hx hb hW (sw_st_lt hi1 (Nat.le_of_ble_eq_true rfl)) (sw_lay_s i1 3 (Nat.le_of_ble_eq_true rfl)) b8 dX2_isPanel_39 ?_
        refine lv_icmp_eq (tgt := 79) hx hb dX2_isPanel_40 (by decide) (fun k9 => ?_) (fun k9 => ?_)
        · have h := h.1 k9
          refine lv_iconst (v := 0) hx hb dX2_isPanel_79 (by decide) ?_
          exact sw_ri hx hb hr hlocks hW (by decide) ⟨h, rfl⟩ dX2_isPanel_80
        · have h := h.2 k9
          refine lv_aload_n hx hb dX2_isPanel_43 rfl (lv_at hl 0 rfl) ?_
          refine sw_gr (j := 7) (r := (sw_st i1 + 3)) hx hb hts hown hW rfl qf_5 (sw_st_lt0 hi1) (sw_lay_so i1) rfl (Nat.le_of_ble_eq_true rfl) q_72 dX2_isPanel_44 ?_
          refine lv_iload_n hx hb dX2_isPanel_47 rfl (lv_at hl 2 rfl) ?_
          have b10 := h.1
          have h := h.2
          refine sw_ca (n := 6) hx hb hW (sw_st_lt hi1 (Nat.le_of_ble_eq_true rfl)) (sw_lay_s i1 3 (Nat.le_of_ble_eq_true rfl)) b10 dX2_isPanel_48 ?_
          refine lv_aload_n hx hb dX2_isPanel_49 rfl (lv_at hl 0 rfl) ?_
          refine sw_gr (j := 7) (r := (sw_st i1 + 3)) hx hb hts hown hW rfl qf_5 (sw_st_lt0 hi1) (sw_lay_so i1) rfl (Nat.le_of_ble_eq_true rfl) q_72 dX2_isPanel_50 ?_
          refine lv_iload hx hb dX2_isPanel_53 (lv_at hl 4 rfl) ?_
          have b11 := h.1
          have h := h.2
          refine sw_ca (n := 6) hx hb hW (sw_st_lt hi1 (Nat.le_of_ble_eq_true rfl)) (sw_lay_s i1 3 (Nat.le_of_ble_eq_true rfl)) b11 dX2_isPanel_55 ?_
          refine lv_icmp_eq (tgt := 79) hx hb dX2_isPanel_56 (by decide) (fun k12 => ?_) (fun k12 => ?_)
          · have h := h.1 k12
            refine lv_iconst (v := 0) hx hb dX2_isPanel_79 (by decide) ?_
            exact sw_ri hx hb hr hlocks hW (by decide) ⟨h, rfl⟩ dX2_isPanel_80
          · have h := h.2 k12
            refine lv_aload_n hx hb dX2_isPanel_59 rfl (lv_at hl 0 rfl) ?_
            refine sw_gr (j := 7) (r := (sw_st i1 + 3)) hx hb hts hown hW rfl qf_5 (sw_st_lt0 hi1) (sw_lay_so i1) rfl (Nat.le_of_ble_eq_true rfl) q_72 dX2_isPanel_60 ?_
            refine lv_iload_n hx hb dX2_isPanel_63 rfl (lv_at hl 3 rfl) ?_
            have b13 := h.1
            have h := h.2
            refine sw_ca (n := 6) hx hb hW (sw_st_lt hi1 (Nat.le_of_ble_eq_true rfl)) (sw_lay_s i1 3 (Nat.le_of_ble_eq_true rfl)) b13 dX2_isPanel_64 ?_
            refine lv_aload_n hx hb dX2_isPanel_65 rfl (lv_at hl 0 rfl) ?_
            refine sw_gr (j := 7) (r := (sw_st i1 + 3)) hx hb hts hown hW rfl qf_5 (sw_st_lt0 hi1) (sw_lay_so i1) rfl (Nat.le_of_ble_eq_true rfl) q_72 dX2_isPanel_66 ?_
            refine lv_iload hx hb dX2_isPanel_69 (lv_at hl 4 rfl) ?_
            have b14 := h.1
            have h := h.2
            refine sw_ca (n := 6) hx hb hW (sw_st_lt hi1 (Nat.le_of_ble_eq_true rfl)) (sw_lay_s i1 3 (Nat.le_of_ble_eq_true rfl)) b14 dX2_isPanel_71 ?_
            refine lv_icmp_eq (tgt := 79) hx hb dX2_isPanel_72 (by decide) (fun k15 => ?_) (fun k15 => ?_)
            · have h := h.1 k15
              refine lv_iconst (v := 0) hx hb dX2_isPanel_79 (by decide) ?_
              exact sw_ri hx hb hr hlocks hW (by decide) ⟨h, rfl⟩ dX2_isPanel_80
            · have h := h.2 k15
              refine lv_iconst (v := 1) hx hb dX2_isPanel_75 (by decide) ?_
              refine lv_goto (tgt := 80) hx hb dX2_isPanel_76 (by decide) ?_
              exact sw_ri hx hb hr hlocks hW (by decide) ⟨h, rfl⟩ dX2_isPanel_80

def lX2_countByTrying_31 (i1 : Nat) (a2 : Int32) (M : sM) (x4_5 : Int32) (x5_18 : Int32) (K31 : Int32 → Prop) : Nat → Int32 → Int32 → Prop
  | 0, _, _ => False
  | n31 + 1, x3_31, x6_31 => ((6 : Int32) ≤ x6_31 → (K31 x3_31)) ∧ (¬ (6 : Int32) ≤ x6_31 → (wX2_isPanel i1 a2 x4_5 x5_18 x6_31 M (fun r10 => (r10 = 0 → (∀ v12 : Int32, v12 = x6_31 + (1 : Int32) → ((fun x3_31 x6_31 => lX2_countByTrying_31 i1 a2 M x4_5 x5_18 K31 n31 x3_31 x6_31) x3_31 v12))) ∧ (¬ r10 = 0 → (∀ v13 : Int32, v13 = x3_31 + (1 : Int32) → (∀ v14 : Int32, v14 = x6_31 + (1 : Int32) → ((fun x3_31 x6_31 => lX2_countByTrying_31 i1 a2 M x4_5 x5_18 K31 n31 x3_31 x6_31) v13 v14)))))))
def lX2_countByTrying_18 (i1 : Nat) (a2 : Int32) (M : sM) (x4_5 : Int32) (K18 : Int32 → Prop) : Nat → Int32 → Int32 → Prop
  | 0, _, _ => False
  | n18 + 1, x3_18, x5_18 => ((6 : Int32) ≤ x5_18 → (K18 x3_18)) ∧ (¬ (6 : Int32) ≤ x5_18 → (∀ v6 : Int32, v6 = (x5_18 + (1 : Int32)) → (∃ n31, lX2_countByTrying_31 i1 a2 M x4_5 x5_18 (fun x3_31k => ∀ v7 : Int32, v7 = x5_18 + (1 : Int32) → ((fun x3_18 x5_18 => lX2_countByTrying_18 i1 a2 M x4_5 K18 n18 x3_18 x5_18) x3_31k v7)) n31 x3_18 v6)))
def lX2_countByTrying_5 (i1 : Nat) (a2 : Int32) (M : sM) (K5 : Int32 → Prop) : Nat → Int32 → Int32 → Prop
  | 0, _, _ => False
  | n5 + 1, x3_5, x4_5 => ((6 : Int32) ≤ x4_5 → (K5 x3_5)) ∧ (¬ (6 : Int32) ≤ x4_5 → (∀ v2 : Int32, v2 = (x4_5 + (1 : Int32)) → (∃ n18, lX2_countByTrying_18 i1 a2 M x4_5 (fun x3_18k => ∀ v3 : Int32, v3 = x4_5 + (1 : Int32) → ((fun x3_5 x4_5 => lX2_countByTrying_5 i1 a2 M K5 n5 x3_5 x4_5) x3_18k v3)) n18 x3_5 v2)))
theorem cv_X2_countByTrying : sw_cV yX2_countByTrying RX2 cX2_countByTrying 7 (some .int) 2 := ⟨q_686, q_687, q_6, q_688, by decide +kernel⟩
def wX2_countByTrying (i1 : Nat) (a2 : Int32) (M : sM) (Q : Int32 → Prop) : Prop :=
  ∃ n5, lX2_countByTrying_5 i1 a2 M (fun x3_5k => Q x3_5k) n5 (0 : Int32) (0 : Int32)
set_option maxRecDepth 20000 in
theorem kX2_countByTrying (l : Launch) (g : sG) (i1 : Nat) (hi1 : i1 < 11) (a2 : Int32) (M : sM) (Q : Int32 → Prop) (h : wX2_countByTrying i1 a2 M Q) : Met l yX2_countByTrying (sw_ws yX2_countByTrying cX2_countByTrying 7 (some .int)) { frames := 3, cells := 0, slots := 0, locals := 68 } (va_Pc [.ref (sw_ad g 12), .ref (sw_ad g (sw_st i1)), .int a2] (sw_Pr g M)) (va_Qi (fun r M1 => Q r ∧ M1 = M) (sw_Po g) (sw_A g)) 0 0 (sw_A g) := by
  refine sw_met (by decide) (Nat.le_of_ble_eq_true rfl) ?_
  intro p e s m args below meth c ls hx hb hr hts hown hml hlocks hW hl
  have hown : s.vm.findClass RX2 = some m.cls := hown
  have hl : lv_has ls 7 [(0, .ref (sw_ad g 12)), (1, .ref (sw_ad g (sw_st i1))), (2, .int a2)] := hl
  unfold wX2_countByTrying at h
  refine lv_iconst (v := 0) hx hb dX2_countByTrying_0 (by decide) ?_
  refine lv_istore_n (lv' := [(3, .int (0 : Int32)), (0, .ref (sw_ad g 12)), (1, .ref (sw_ad g (sw_st i1))), (2, .int a2)]) hx hb dX2_countByTrying_1 rfl hl (Nat.le_of_ble_eq_true rfl) rfl (fun ls hl => ?_)
  refine lv_iconst (v := 0) hx hb dX2_countByTrying_2 (by decide) ?_
  refine lv_istore (lv' := [(4, .int (0 : Int32)), (3, .int (0 : Int32)), (0, .ref (sw_ad g 12)), (1, .ref (sw_ad g (sw_st i1))), (2, .int a2)]) hx hb dX2_countByTrying_3 hl (Nat.le_of_ble_eq_true rfl) rfl (fun ls hl => ?_)
  obtain ⟨n5, h⟩ := h
  refine sw_lp_ii (hd := 5) (Lf := fun x3_5 x4_5 => [(1, .ref (sw_ad g (sw_st i1))), (2, .int a2), (3, .int x3_5), (4, .int x4_5)]) h hW (lv_sub hl [3, 4, 1, 0] rfl) (fun _ _ h => h) (fun n5 ih5 x3_5 x4_5 H locs ls h hW hl => ?_)
  rw [lX2_countByTrying_5.eq_2] at h
  refine lv_iload hx hb dX2_countByTrying_5 (lv_at hl 3 rfl) ?_
  refine lv_bipush (v := 6) hx hb dX2_countByTrying_7 (by decide) ?_
  refine lv_icmp_ge (tgt := 73) hx hb dX2_countByTrying_9 (by decide) (fun k1 => ?_) (fun k1 => ?_)
  · have h := h.1 k1
    refine lv_iload_n hx hb dX2_countByTrying_73 rfl (lv_at hl 2 rfl) ?_
    exact sw_ri hx hb hr hlocks hW rfl ⟨h, rfl⟩ dX2_countByTrying_74
  · have h := h.2 k1
    refine lv_iload hx hb dX2_countByTrying_12 (lv_at hl 3 rfl) ?_
    refine lv_iconst (v := 1) hx hb dX2_countByTrying_14 (by decide) ?_
    refine lv_iadd hx hb dX2_countByTrying_15 ?_
    refine lv_topi (fun v2 ev2 => ?_)
    have h := h v2 ev2
    refine lv_istore (lv' := [(5, .int v2), (1, .ref (sw_ad g (sw_st i1))), (2, .int a2), (3, .int x3_5), (4, .int x4_5)]) hx hb dX2_countByTrying_16 hl (Nat.le_of_ble_eq_true rfl) rfl (fun ls hl => ?_)
    obtain ⟨n18, h⟩ := h
    refine sw_lp_ii (hd := 18) (Lf := fun x3_18 x5_18 => [(1, .ref (sw_ad g (sw_st i1))), (2, .int a2), (3, .int x3_18), (4, .int x4_5), (5, .int x5_18)]) h hW (lv_sub hl [1, 2, 3, 4, 0] rfl) (fun _ _ h => h) (fun n18 ih18 x3_18 x5_18 H locs ls h hW hl => ?_)
    rw [lX2_countByTrying_18.eq_2] at h
    refine lv_iload hx hb dX2_countByTrying_18 (lv_at hl 4 rfl) ?_
    refine lv_bipush (v := 6) hx hb dX2_countByTrying_20 (by decide) ?_
    refine lv_icmp_ge (tgt := 67) hx hb dX2_countByTrying_22 (by decide) (fun k4 => ?_) (fun k4 => ?_)
    · have h := h.1 k4
      obtain ⟨v5, ev5⟩ : ∃ z : Int32, z = x4_5 + (1 : Int32) := ⟨_, rfl⟩
      have h := h v5 ev5
      refine lv_iinc (v := v5) (lv' := [(4, .int v5), (1, .ref (sw_ad g (sw_st i1))), (2, .int a2), (3, .int x3_18), (5, .int x5_18)]) hx hb dX2_countByTrying_67 hl (k := 3) rfl (by rw [ev5]; rfl) (Nat.le_of_ble_eq_true rfl) rfl (fun ls hl => ?_)
      refine lv_goto (tgt := 5) hx hb dX2_countByTrying_70 (by decide) ?_
      exact ih5 _ _ _ _ _ h hW (lv_sub hl [1, 2, 3, 0] rfl)
    · have h := h.2 k4
      refine lv_iload hx hb dX2_countByTrying_25 (lv_at hl 4 rfl) ?_
      refine lv_iconst (v := 1) hx hb dX2_countByTrying_27 (by decide) ?_
      refine lv_iadd hx hb dX2_countByTrying_28 ?_
      refine lv_topi (fun v6 ev6 => ?_)
      have h := h v6 ev6
      refine lv_istore (lv' := [(6, .int v6), (1, .ref (sw_ad g (sw_st i1))), (2, .int a2), (3, .int x3_18), (4, .int x4_5), (5, .int x5_18)]) hx hb dX2_countByTrying_29 hl (Nat.le_of_ble_eq_true rfl) rfl (fun ls hl => ?_)
      obtain ⟨n31, h⟩ := h
      refine sw_lp_ii (hd := 31) (Lf := fun x3_31 x6_31 => [(1, .ref (sw_ad g (sw_st i1))), (2, .int a2), (3, .int x3_31), (4, .int x4_5), (5, .int x5_18), (6, .int x6_31)]) h hW (lv_sub hl [1, 2, 3, 4, 5, 0] rfl) (fun _ _ h => h) (fun n31 ih31 x3_31 x6_31 H locs ls h hW hl => ?_)
      rw [lX2_countByTrying_31.eq_2] at h
      refine lv_iload hx hb dX2_countByTrying_31 (lv_at hl 5 rfl) ?_
      refine lv_bipush (v := 6) hx hb dX2_countByTrying_33 (by decide) ?_
      refine lv_icmp_ge (tgt := 61) hx hb dX2_countByTrying_35 (by decide) (fun k8 => ?_) (fun k8 => ?_)
      · have h := h.1 k8
        obtain ⟨v9, ev9⟩ : ∃ z : Int32, z = x5_18 + (1 : Int32) := ⟨_, rfl⟩
        have h := h v9 ev9
        refine lv_iinc (v := v9) (lv' := [(5, .int v9), (1, .ref (sw_ad g (sw_st i1))), (2, .int a2), (3, .int x3_31), (4, .int x4_5), (6, .int x6_31)]) hx hb dX2_countByTrying_61 hl (k := 4) rfl (by rw [ev9]; rfl) (Nat.le_of_ble_eq_true rfl) rfl (fun ls hl => ?_)
        refine lv_goto (tgt := 18) hx hb dX2_countByTrying_64 (by decide) ?_
        exact ih18 _ _ _ _ _ h hW (lv_sub hl [1, 2, 3, 4, 0] rfl)
      · have h := h.2 k8
        refine lv_aload_n hx hb dX2_countByTrying_38 rfl (lv_at hl 0 rfl) ?_
        refine lv_iload_n hx hb dX2_countByTrying_39 rfl (lv_at hl 1 rfl) ?_
        refine lv_iload hx hb dX2_countByTrying_40 (lv_at hl 3 rfl) ?_
        refine lv_iload hx hb dX2_countByTrying_42 (lv_at hl 4 rfl) ?_
        refine lv_iload hx hb dX2_countByTrying_44 (lv_at hl 5 rfl) ?_
        refine sw_ki (rest := []) (sw_runS (As := [.ref (sw_ad g (sw_st i1)), .int a2, .int x4_5, .int x5_18, .int x6_31]) (rest := []) hx hb hml hown hts (kX2_isPanel l g i1 hi1 a2 x4_5 x5_18 x6_31 M _ h) cs_X2_isPanel q_449 rfl rfl ⟨(Nat.le_of_ble_eq_true rfl), (Nat.le_of_ble_eq_true rfl)⟩ hW rfl hl.1 rfl (Nat.le_of_ble_eq_true rfl) dX2_countByTrying_46 ⟨(Nat.le_of_ble_eq_true rfl), (Nat.le_of_ble_eq_true rfl)⟩) hW (fun r10 M15 H locs h hW => ?_)
        obtain ⟨h, eM15⟩ := h
        rw [eM15] at hW
        refine lv_if_eq (tgt := 55) hx hb dX2_countByTrying_49 (by decide) (fun k11 => ?_) (fun k11 => ?_)
        · have h := h.1 k11
          obtain ⟨v12, ev12⟩ : ∃ z : Int32, z = x6_31 + (1 : Int32) := ⟨_, rfl⟩
          have h := h v12 ev12
          refine lv_iinc (v := v12) (lv' := [(6, .int v12), (1, .ref (sw_ad g (sw_st i1))), (2, .int a2), (3, .int x3_31), (4, .int x4_5), (5, .int x5_18)]) hx hb dX2_countByTrying_55 hl (k := 5) rfl (by rw [ev12]; rfl) (Nat.le_of_ble_eq_true rfl) rfl (fun ls hl => ?_)
          refine lv_goto (tgt := 31) hx hb dX2_countByTrying_58 (by decide) ?_
          exact ih31 _ _ _ _ _ h hW (lv_sub hl [1, 2, 3, 4, 5, 0] rfl)
        · have h := h.2 k11
          obtain ⟨v13, ev13⟩ : ∃ z : Int32, z = x3_31 + (1 : Int32) := ⟨_, rfl⟩
          have h := h v13 ev13
          refine lv_iinc (v := v13) (lv' := [(3, .int v13), (1, .ref (sw_ad g (sw_st i1))), (2, .int a2), (4, .int x4_5), (5, .int x5_18), (6, .int x6_31)]) hx hb dX2_countByTrying_52 hl (k := 2) rfl (by rw [ev13]; rfl) (Nat.le_of_ble_eq_true rfl) rfl (fun ls hl => ?_)
          obtain ⟨v14, ev14⟩ : ∃ z : Int32, z = x6_31 + (1 : Int32) := ⟨_, rfl⟩
          have h := h v14 ev14
          refine lv_iinc (v := v14) (lv' := [(6, .int v14), (3, .int v13), (1, .ref (sw_ad g (sw_st i1))), (2, .int a2), (4, .int x4_5), (5, .int x5_18)]) hx hb dX2_countByTrying_55 hl (k := 5) rfl (by rw [ev14]; rfl) (Nat.le_of_ble_eq_true rfl) rfl (fun ls hl => ?_)
          refine lv_goto (tgt := 31) hx hb dX2_countByTrying_58 (by decide) ?_
          exact ih31 _ _ _ _ _ h hW (lv_sub hl [2, 3, 1, 4, 5, 0] rfl)

def lX2_suitableWithFrame_5 (i1 : Nat) (a2 : Int32) (a3 : Int32) (M : sM) (K5 : Int32 → Prop) : Nat → Int32 → Int32 → Prop
  | 0, _, _ => False
  | n5 + 1, x3_5, x4_5 => ((M (sw_st i1) 6) ≤ x4_5 → (K5 x3_5)) ∧ (¬ (M (sw_st i1) 6) ≤ x4_5 → (vp_in x4_5 6 ∧ (((M (sw_st i1 + 3) (x4_5).toNatClampNeg) = a3 → (wX2_suits i1 a2 x4_5 M (fun r5 => (r5 = 0 → (∀ v7 : Int32, v7 = x4_5 + (1 : Int32) → ((fun x3_5 x4_5 => lX2_suitableWithFrame_5 i1 a2 a3 M K5 n5 x3_5 x4_5) x3_5 v7))) ∧ (¬ r5 = 0 → (∀ v8 : Int32, v8 = x3_5 + (1 : Int32) → (∀ v9 : Int32, v9 = x4_5 + (1 : Int32) → ((fun x3_5 x4_5 => lX2_suitableWithFrame_5 i1 a2 a3 M K5 n5 x3_5 x4_5) v8 v9))))))) ∧ (¬ (M (sw_st i1 + 3) (x4_5).toNatClampNeg) = a3 → (∀ v4 : Int32, v4 = x4_5 + (1 : Int32) → ((fun x3_5 x4_5 => lX2_suitableWithFrame_5 i1 a2 a3 M K5 n5 x3_5 x4_5) x3_5 v4))))))
theorem cs_X2_suitableWithFrame : sw_cS yX2_suitableWithFrame cX2_suitableWithFrame 5 (some .int) 3 := ⟨q_700, q_6, q_701, by decide +kernel⟩
def wX2_suitableWithFrame (i1 : Nat) (a2 : Int32) (a3 : Int32) (M : sM) (Q : Int32 → Prop) : Prop :=
  ∃ n5, lX2_suitableWithFrame_5 i1 a2 a3 M (fun x3_5k => Q x3_5k) n5 (0 : Int32) (0 : Int32)
set_option maxRecDepth 20000 in
theorem kX2_suitableWithFrame (l : Launch) (g : sG) (i1 : Nat) (hi1 : i1 < 11) (a2 : Int32) (a3 : Int32) (M : sM) (Q : Int32 → Prop) (h : wX2_suitableWithFrame i1 a2 a3 M Q) : Met l yX2_suitableWithFrame (sw_ws yX2_suitableWithFrame cX2_suitableWithFrame 5 (some .int)) { frames := 2, cells := 0, slots := 0, locals := 44 } (va_Pc [.ref (sw_ad g (sw_st i1)), .int a2, .int a3] (sw_Pr g M)) (va_Qi (fun r M1 => Q r ∧ M1 = M) (sw_Po g) (sw_A g)) 0 0 (sw_A g) := by
  refine sw_met (by decide) (Nat.le_of_ble_eq_true rfl) ?_
  intro p e s m args below meth c ls hx hb hr hts hown hml hlocks hW hl
  have hown : s.vm.findClass RX2 = some m.cls := hown
  have hl : lv_has ls 5 [(0, .ref (sw_ad g (sw_st i1))), (1, .int a2), (2, .int a3)] := hl
  unfold wX2_suitableWithFrame at h
  refine lv_iconst (v := 0) hx hb dX2_suitableWithFrame_0 (by decide) ?_
  refine lv_istore_n (lv' := [(3, .int (0 : Int32)), (0, .ref (sw_ad g (sw_st i1))), (1, .int a2), (2, .int a3)]) hx hb dX2_suitableWithFrame_1 rfl hl (Nat.le_of_ble_eq_true rfl) rfl (fun ls hl => ?_)
  refine lv_iconst (v := 0) hx hb dX2_suitableWithFrame_2 (by decide) ?_
  refine lv_istore (lv' := [(4, .int (0 : Int32)), (3, .int (0 : Int32)), (0, .ref (sw_ad g (sw_st i1))), (1, .int a2), (2, .int a3)]) hx hb dX2_suitableWithFrame_3 hl (Nat.le_of_ble_eq_true rfl) rfl (fun ls hl => ?_)
  obtain ⟨n5, h⟩ := h
  refine sw_lp_ii (hd := 5) (Lf := fun x3_5 x4_5 => [(0, .ref (sw_ad g (sw_st i1))), (1, .int a2), (2, .int a3), (3, .int x3_5), (4, .int x4_5)]) h hW (lv_sub hl [2, 3, 4, 1, 0] rfl) (fun _ _ h => h) (fun n5 ih5 x3_5 x4_5 H locs ls h hW hl => ?_)
  rw [lX2_suitableWithFrame_5.eq_2] at h
  refine lv_iload hx hb dX2_suitableWithFrame_5 (lv_at hl 4 rfl) ?_
  refine lv_aload_n hx hb dX2_suitableWithFrame_7 rfl (lv_at hl 0 rfl) ?_
  refine sw_gi (j := 6) hx hb hts hown hW rfl qf_5 (sw_st_lt0 hi1) (sw_lay_so i1) rfl (Nat.le_of_ble_eq_true rfl) q_67 dX2_suitableWithFrame_8 ?_
  refine lv_icmp_ge (tgt := 44) hx hb dX2_suitableWithFrame_11 (by decide) (fun k1 => ?_) (fun k1 => ?_)
  · have h := h.1 k1
    refine lv_iload_n hx hb dX2_suitableWithFrame_44 rfl (lv_at hl 3 rfl) ?_
    exact sw_ri hx hb hr hlocks hW rfl ⟨h, rfl⟩ dX2_suitableWithFrame_45
  · have h := h.2 k1
    refine lv_aload_n hx hb dX2_suitableWithFrame_14 rfl (lv_at hl 0 rfl) ?_
    refine sw_gr (j := 7) (r := (sw_st i1 + 3)) hx hb hts hown hW rfl qf_5 (sw_st_lt0 hi1) (sw_lay_so i1) rfl (Nat.le_of_ble_eq_true rfl) q_72 dX2_suitableWithFrame_15 ?_
    refine lv_iload hx hb dX2_suitableWithFrame_18 (lv_at hl 4 rfl) ?_
    have b2 := h.1
    have h := h.2
    refine sw_ca (n := 6) hx hb hW (sw_st_lt hi1 (Nat.le_of_ble_eq_true rfl)) (sw_lay_s i1 3 (Nat.le_of_ble_eq_true rfl)) b2 dX2_suitableWithFrame_20 ?_
    refine lv_iload_n hx hb dX2_suitableWithFrame_21 rfl (lv_at hl 2 rfl) ?_
    refine lv_icmp_ne (tgt := 38) hx hb dX2_suitableWithFrame_22 (by decide) (fun k3 => ?_) (fun k3 => ?_)
    · have h := h.2 k3
      obtain ⟨v4, ev4⟩ : ∃ z : Int32, z = x4_5 + (1 : Int32) := ⟨_, rfl⟩
      have h := h v4 ev4
      refine lv_iinc (v := v4) (lv' := [(4, .int v4), (0, .ref (sw_ad g (sw_st i1))), (1, .int a2), (2, .int a3), (3, .int x3_5)]) hx hb dX2_suitableWithFrame_38 hl (k := 4) rfl (by rw [ev4]; rfl) (Nat.le_of_ble_eq_true rfl) rfl (fun ls hl => ?_)
      refine lv_goto (tgt := 5) hx hb dX2_suitableWithFrame_41 (by decide) ?_
      exact ih5 _ _ _ _ _ h hW (lv_sub hl [1, 2, 3, 4, 0] rfl)
    · have h := h.1 k3
      refine lv_aload_n hx hb dX2_suitableWithFrame_25 rfl (lv_at hl 0 rfl) ?_
      refine lv_iload_n hx hb dX2_suitableWithFrame_26 rfl (lv_at hl 1 rfl) ?_
      refine lv_iload hx hb dX2_suitableWithFrame_27 (lv_at hl 4 rfl) ?_
      refine sw_ki (rest := []) (sw_runS (As := [.ref (sw_ad g (sw_st i1)), .int a2, .int x4_5]) (rest := []) hx hb hml hown hts (kX2_suits l g i1 hi1 a2 x4_5 M _ h) cs_X2_suits q_452 rfl rfl ⟨(Nat.le_of_ble_eq_true rfl), (Nat.le_of_ble_eq_true rfl)⟩ hW rfl hl.1 rfl (Nat.le_of_ble_eq_true rfl) dX2_suitableWithFrame_29 ⟨(Nat.le_of_ble_eq_true rfl), (Nat.le_of_ble_eq_true rfl)⟩) hW (fun r5 M10 H locs h hW => ?_)
      obtain ⟨h, eM10⟩ := h
      rw [eM10] at hW
      refine lv_if_eq (tgt := 38) hx hb dX2_suitableWithFrame_32 (by decide) (fun k6 => ?_) (fun k6 => ?_)
      · have h := h.1 k6
        obtain ⟨v7, ev7⟩ : ∃ z : Int32, z = x4_5 + (1 : Int32) := ⟨_, rfl⟩
        have h := h v7 ev7
        refine lv_iinc (v := v7) (lv' := [(4, .int v7), (0, .ref (sw_ad g (sw_st i1))), (1, .int a2), (2, .int a3), (3, .int x3_5)]) hx hb dX2_suitableWithFrame_38 hl (k := 4) rfl (by rw [ev7]; rfl) (Nat.le_of_ble_eq_true rfl) rfl (fun ls hl => ?_)
        refine lv_goto (tgt := 5) hx hb dX2_suitableWithFrame_41 (by decide) ?_
        exact ih5 _ _ _ _ _ h hW (lv_sub hl [1, 2, 3, 4, 0] rfl)
      · have h := h.2 k6
        obtain ⟨v8, ev8⟩ : ∃ z : Int32, z = x3_5 + (1 : Int32) := ⟨_, rfl⟩
        have h := h v8 ev8
        refine lv_iinc (v := v8) (lv' := [(3, .int v8), (0, .ref (sw_ad g (sw_st i1))), (1, .int a2), (2, .int a3), (4, .int x4_5)]) hx hb dX2_suitableWithFrame_35 hl (k := 3) rfl (by rw [ev8]; rfl) (Nat.le_of_ble_eq_true rfl) rfl (fun ls hl => ?_)
        obtain ⟨v9, ev9⟩ : ∃ z : Int32, z = x4_5 + (1 : Int32) := ⟨_, rfl⟩
        have h := h v9 ev9
        refine lv_iinc (v := v9) (lv' := [(4, .int v9), (3, .int v8), (0, .ref (sw_ad g (sw_st i1))), (1, .int a2), (2, .int a3)]) hx hb dX2_suitableWithFrame_38 hl (k := 4) rfl (by rw [ev9]; rfl) (Nat.le_of_ble_eq_true rfl) rfl (fun ls hl => ?_)
        refine lv_goto (tgt := 5) hx hb dX2_suitableWithFrame_41 (by decide) ?_
        exact ih5 _ _ _ _ _ h hW (lv_sub hl [2, 3, 4, 1, 0] rfl)

def lX2_countByFrames_61 (M_2k : sM) (x4_35 : Int32) (x5_48 : Int32) (K61 : Int32 → Prop) : Nat → Int32 → Int32 → Prop
  | 0, _, _ => False
  | n61 + 1, x3_61, x6_61 => ((6 : Int32) ≤ x6_61 → (K61 x3_61)) ∧ (¬ (6 : Int32) ≤ x6_61 → (vp_in x4_35 6 ∧ (vp_in x5_48 6 ∧ (vp_in x6_61 6 ∧ (∀ v13 : Int32, v13 = (x3_61 + (((M_2k 13 (x4_35).toNatClampNeg) * (M_2k 13 (x5_48).toNatClampNeg)) * (M_2k 13 (x6_61).toNatClampNeg))) → (∀ v14 : Int32, v14 = x6_61 + (1 : Int32) → ((fun x3_61 x6_61 => lX2_countByFrames_61 M_2k x4_35 x5_48 K61 n61 x3_61 x6_61) v13 v14)))))))
def lX2_countByFrames_48 (M_2k : sM) (x4_35 : Int32) (K48 : Int32 → Prop) : Nat → Int32 → Int32 → Prop
  | 0, _, _ => False
  | n48 + 1, x3_48, x5_48 => ((6 : Int32) ≤ x5_48 → (K48 x3_48)) ∧ (¬ (6 : Int32) ≤ x5_48 → (∀ v6 : Int32, v6 = (x5_48 + (1 : Int32)) → (∃ n61, lX2_countByFrames_61 M_2k x4_35 x5_48 (fun x3_61k => ∀ v7 : Int32, v7 = x5_48 + (1 : Int32) → ((fun x3_48 x5_48 => lX2_countByFrames_48 M_2k x4_35 K48 n48 x3_48 x5_48) x3_61k v7)) n61 x3_48 v6)))
def lX2_countByFrames_35 (M_2k : sM) (K35 : Int32 → Prop) : Nat → Int32 → Int32 → Prop
  | 0, _, _ => False
  | n35 + 1, x3_35, x4_35 => ((6 : Int32) ≤ x4_35 → (K35 x3_35)) ∧ (¬ (6 : Int32) ≤ x4_35 → (∀ v2 : Int32, v2 = (x4_35 + (1 : Int32)) → (∃ n48, lX2_countByFrames_48 M_2k x4_35 (fun x3_48k => ∀ v3 : Int32, v3 = x4_35 + (1 : Int32) → ((fun x3_35 x4_35 => lX2_countByFrames_35 M_2k K35 n35 x3_35 x4_35) x3_48k v3)) n48 x3_35 v2)))
def lX2_countByFrames_2 (i1 : Nat) (a2 : Int32) (K2 : sM → Prop) : Nat → Int32 → sM → Prop
  | 0, _, _ => False
  | n2 + 1, x3_2, M_2 => ((6 : Int32) ≤ x3_2 → (K2 M_2)) ∧ (¬ (6 : Int32) ≤ x3_2 → (∀ v30 : Int32, v30 = ((((97 : Int32) + x3_2)).toUInt32 % 65536).toInt32 → (wX2_suitableWithFrame i1 a2 v30 M_2 (fun r31 => vp_in x3_2 6 ∧ (∀ M33 : sM, M33 = sw_ms M_2 13 (x3_2).toNatClampNeg r31 → (∀ v34 : Int32, v34 = x3_2 + (1 : Int32) → ((fun x3_2 M_2 => lX2_countByFrames_2 i1 a2 K2 n2 x3_2 M_2) v34 M33)))))))
theorem cv_X2_countByFrames : sw_cV yX2_countByFrames RX2 cX2_countByFrames 7 (some .int) 2 := ⟨q_696, q_697, q_6, q_698, by decide +kernel⟩
def wX2_countByFrames (i1 : Nat) (a2 : Int32) (M : sM) (Q : Int32 → sM → Prop) : Prop :=
  ∃ n2, lX2_countByFrames_2 i1 a2 (fun M_2k => ∃ n35, lX2_countByFrames_35 M_2k (fun x3_35k => Q x3_35k M_2k) n35 (0 : Int32) (0 : Int32)) n2 (0 : Int32) M
set_option maxRecDepth 20000 in
theorem kX2_countByFrames (l : Launch) (g : sG) (i1 : Nat) (hi1 : i1 < 11) (a2 : Int32) (M : sM) (Q : Int32 → sM → Prop) (h : wX2_countByFrames i1 a2 M Q) : Met l yX2_countByFrames (sw_ws yX2_countByFrames cX2_countByFrames 7 (some .int)) { frames := 3, cells := 0, slots := 0, locals := 68 } (va_Pc [.ref (sw_ad g 12), .ref (sw_ad g (sw_st i1)), .int a2] (sw_Pr g M)) (va_Qi Q (sw_Po g) (sw_A g)) 0 0 (sw_A g) := by
  refine sw_met (by decide) (Nat.le_of_ble_eq_true rfl) ?_
  intro p e s m args below meth c ls hx hb hr hts hown hml hlocks hW hl
  have hown : s.vm.findClass RX2 = some m.cls := hown
  have hl : lv_has ls 7 [(0, .ref (sw_ad g 12)), (1, .ref (sw_ad g (sw_st i1))), (2, .int a2)] := hl
  unfold wX2_countByFrames at h
  refine lv_iconst (v := 0) hx hb dX2_countByFrames_0 (by decide) ?_
  refine lv_istore_n (lv' := [(3, .int (0 : Int32)), (0, .ref (sw_ad g 12)), (1, .ref (sw_ad g (sw_st i1))), (2, .int a2)]) hx hb dX2_countByFrames_1 rfl hl (Nat.le_of_ble_eq_true rfl) rfl (fun ls hl => ?_)
  obtain ⟨n2, h⟩ := h
  refine sw_lp_iM (hd := 2) (Lf := fun x3_2 M_2 => [(0, .ref (sw_ad g 12)), (1, .ref (sw_ad g (sw_st i1))), (2, .int a2), (3, .int x3_2)]) h hW (lv_sub hl [1, 2, 3, 0] rfl) (fun _ _ h => h) (fun n2 ih2 x3_2 M_2 H locs ls h hW hl => ?_)
  rw [lX2_countByFrames_2.eq_2] at h
  refine lv_iload_n hx hb dX2_countByFrames_2 rfl (lv_at hl 3 rfl) ?_
  refine lv_bipush (v := 6) hx hb dX2_countByFrames_3 (by decide) ?_
  refine lv_icmp_ge (tgt := 30) hx hb dX2_countByFrames_5 (by decide) (fun k15 => ?_) (fun k15 => ?_)
  · have h := h.1 k15
    refine lv_iconst (v := 0) hx hb dX2_countByFrames_30 (by decide) ?_
    refine lv_istore_n (lv' := [(3, .int (0 : Int32)), (0, .ref (sw_ad g 12)), (1, .ref (sw_ad g (sw_st i1))), (2, .int a2)]) hx hb dX2_countByFrames_31 rfl hl (Nat.le_of_ble_eq_true rfl) rfl (fun ls hl => ?_)
    refine lv_iconst (v := 0) hx hb dX2_countByFrames_32 (by decide) ?_
    refine lv_istore (lv' := [(4, .int (0 : Int32)), (3, .int (0 : Int32)), (0, .ref (sw_ad g 12)), (1, .ref (sw_ad g (sw_st i1))), (2, .int a2)]) hx hb dX2_countByFrames_33 hl (Nat.le_of_ble_eq_true rfl) rfl (fun ls hl => ?_)
    obtain ⟨n35, h⟩ := h
    refine sw_lp_ii (hd := 35) (Lf := fun x3_35 x4_35 => [(0, .ref (sw_ad g 12)), (3, .int x3_35), (4, .int x4_35)]) h hW (lv_sub hl [2, 1, 0] rfl) (fun _ _ h => h) (fun n35 ih35 x3_35 x4_35 H locs ls h hW hl => ?_)
    rw [lX2_countByFrames_35.eq_2] at h
    refine lv_iload hx hb dX2_countByFrames_35 (lv_at hl 2 rfl) ?_
    refine lv_bipush (v := 6) hx hb dX2_countByFrames_37 (by decide) ?_
    refine lv_icmp_ge (tgt := 112) hx hb dX2_countByFrames_39 (by decide) (fun k16 => ?_) (fun k16 => ?_)
    · have h := h.1 k16
      refine lv_iload_n hx hb dX2_countByFrames_112 rfl (lv_at hl 1 rfl) ?_
      exact sw_ri hx hb hr hlocks hW rfl h dX2_countByFrames_113
    · have h := h.2 k16
      refine lv_iload hx hb dX2_countByFrames_42 (lv_at hl 2 rfl) ?_
      refine lv_iconst (v := 1) hx hb dX2_countByFrames_44 (by decide) ?_
      refine lv_iadd hx hb dX2_countByFrames_45 ?_
      refine lv_topi (fun v17 ev17 => ?_)
      have h := h v17 ev17
      refine lv_istore (lv' := [(5, .int v17), (0, .ref (sw_ad g 12)), (3, .int x3_35), (4, .int x4_35)]) hx hb dX2_countByFrames_46 hl (Nat.le_of_ble_eq_true rfl) rfl (fun ls hl => ?_)
      obtain ⟨n48, h⟩ := h
      refine sw_lp_ii (hd := 48) (Lf := fun x3_48 x5_48 => [(0, .ref (sw_ad g 12)), (3, .int x3_48), (4, .int x4_35), (5, .int x5_48)]) h hW (lv_sub hl [1, 2, 3, 0] rfl) (fun _ _ h => h) (fun n48 ih48 x3_48 x5_48 H locs ls h hW hl => ?_)
      rw [lX2_countByFrames_48.eq_2] at h
      refine lv_iload hx hb dX2_countByFrames_48 (lv_at hl 3 rfl) ?_
      refine lv_bipush (v := 6) hx hb dX2_countByFrames_50 (by decide) ?_
      refine lv_icmp_ge (tgt := 106) hx hb dX2_countByFrames_52 (by decide) (fun k19 => ?_) (fun k19 => ?_)
      · have h := h.1 k19
        obtain ⟨v20, ev20⟩ : ∃ z : Int32, z = x4_35 + (1 : Int32) := ⟨_, rfl⟩
        have h := h v20 ev20
        refine lv_iinc (v := v20) (lv' := [(4, .int v20), (0, .ref (sw_ad g 12)), (3, .int x3_48), (5, .int x5_48)]) hx hb dX2_countByFrames_106 hl (k := 2) rfl (by rw [ev20]; rfl) (Nat.le_of_ble_eq_true rfl) rfl (fun ls hl => ?_)
        refine lv_goto (tgt := 35) hx hb dX2_countByFrames_109 (by decide) ?_
        exact ih35 _ _ _ _ _ h hW (lv_sub hl [1, 2, 0] rfl)
      · have h := h.2 k19
        refine lv_iload hx hb dX2_countByFrames_55 (lv_at hl 3 rfl) ?_
        refine lv_iconst (v := 1) hx hb dX2_countByFrames_57 (by decide) ?_
        refine lv_iadd hx hb dX2_countByFrames_58 ?_
        refine lv_topi (fun v21 ev21 => ?_)
        have h := h v21 ev21
        refine lv_istore (lv' := [(6, .int v21), (0, .ref (sw_ad g 12)), (3, .int x3_48), (4, .int x4_35), (5, .int x5_48)]) hx hb dX2_countByFrames_59 hl (Nat.le_of_ble_eq_true rfl) rfl (fun ls hl => ?_)
        obtain ⟨n61, h⟩ := h
        refine sw_lp_ii (hd := 61) (Lf := fun x3_61 x6_61 => [(0, .ref (sw_ad g 12)), (3, .int x3_61), (4, .int x4_35), (5, .int x5_48), (6, .int x6_61)]) h hW (lv_sub hl [1, 2, 3, 4, 0] rfl) (fun _ _ h => h) (fun n61 ih61 x3_61 x6_61 H locs ls h hW hl => ?_)
        rw [lX2_countByFrames_61.eq_2] at h
        refine lv_iload hx hb dX2_countByFrames_61 (lv_at hl 4 rfl) ?_
        refine lv_bipush (v := 6) hx hb dX2_countByFrames_63 (by decide) ?_
        refine lv_icmp_ge (tgt := 100) hx hb dX2_countByFrames_65 (by decide) (fun k23 => ?_) (fun k23 => ?_)
        · have h := h.1 k23
          obtain ⟨v24, ev24⟩ : ∃ z : Int32, z = x5_48 + (1 : Int32) := ⟨_, rfl⟩
          have h := h v24 ev24
          refine lv_iinc (v := v24) (lv' := [(5, .int v24), (0, .ref (sw_ad g 12)), (3, .int x3_61), (4, .int x4_35), (6, .int x6_61)]) hx hb dX2_countByFrames_100 hl (k := 3) rfl (by rw [ev24]; rfl) (Nat.le_of_ble_eq_true rfl) rfl (fun ls hl => ?_)
          refine lv_goto (tgt := 48) hx hb dX2_countByFrames_103 (by decide) ?_
          exact ih48 _ _ _ _ _ h hW (lv_sub hl [1, 2, 3, 0] rfl)
        · have h := h.2 k23
          refine lv_iload_n hx hb dX2_countByFrames_68 rfl (lv_at hl 1 rfl) ?_
          refine lv_aload_n hx hb dX2_countByFrames_69 rfl (lv_at hl 0 rfl) ?_
          refine sw_gr (j := 0) (r := 13) hx hb hts hown hW rfl qf_2 (Or.inl (Nat.le_of_ble_eq_true rfl)) sl_12 rfl (Nat.le_of_ble_eq_true rfl) q_125 dX2_countByFrames_70 ?_
          refine lv_iload hx hb dX2_countByFrames_73 (lv_at hl 2 rfl) ?_
          have b25 := h.1
          have h := h.2
          refine sw_ia (n := 6) hx hb hW (Or.inl (Nat.le_of_ble_eq_true rfl)) sl_13 b25 dX2_countByFrames_75 ?_
          refine lv_aload_n hx hb dX2_countByFrames_76 rfl (lv_at hl 0 rfl) ?_
          refine sw_gr (j := 0) (r := 13) hx hb hts hown hW rfl qf_2 (Or.inl (Nat.le_of_ble_eq_true rfl)) sl_12 rfl (Nat.le_of_ble_eq_true rfl) q_125 dX2_countByFrames_77 ?_
          refine lv_iload hx hb dX2_countByFrames_80 (lv_at hl 3 rfl) ?_
          have b26 := h.1
          have h := h.2
          refine sw_ia (n := 6) hx hb hW (Or.inl (Nat.le_of_ble_eq_true rfl)) sl_13 b26 dX2_countByFrames_82 ?_
          refine lv_imul hx hb dX2_countByFrames_83 ?_
          refine lv_aload_n hx hb dX2_countByFrames_84 rfl (lv_at hl 0 rfl) ?_
          refine sw_gr (j := 0) (r := 13) hx hb hts hown hW rfl qf_2 (Or.inl (Nat.le_of_ble_eq_true rfl)) sl_12 rfl (Nat.le_of_ble_eq_true rfl) q_125 dX2_countByFrames_85 ?_
          refine lv_iload hx hb dX2_countByFrames_88 (lv_at hl 4 rfl) ?_
          have b27 := h.1
          have h := h.2
          refine sw_ia (n := 6) hx hb hW (Or.inl (Nat.le_of_ble_eq_true rfl)) sl_13 b27 dX2_countByFrames_90 ?_
          refine lv_imul hx hb dX2_countByFrames_91 ?_
          refine lv_iadd hx hb dX2_countByFrames_92 ?_
          refine lv_topi (fun v28 ev28 => ?_)
          have h := h v28 ev28
          refine lv_istore_n (lv' := [(3, .int v28), (0, .ref (sw_ad g 12)), (4, .int x4_35), (5, .int x5_48), (6, .int x6_61)]) hx hb dX2_countByFrames_93 rfl hl (Nat.le_of_ble_eq_true rfl) rfl (fun ls hl => ?_)
          obtain ⟨v29, ev29⟩ : ∃ z : Int32, z = x6_61 + (1 : Int32) := ⟨_, rfl⟩
          have h := h v29 ev29
          refine lv_iinc (v := v29) (lv' := [(6, .int v29), (3, .int v28), (0, .ref (sw_ad g 12)), (4, .int x4_35), (5, .int x5_48)]) hx hb dX2_countByFrames_94 hl (k := 4) rfl (by rw [ev29]; rfl) (Nat.le_of_ble_eq_true rfl) rfl (fun ls hl => ?_)
          refine lv_goto (tgt := 61) hx hb dX2_countByFrames_97 (by decide) ?_
          exact ih61 _ _ _ _ _ h hW (lv_sub hl [2, 1, 3, 4, 0] rfl)
  · have h := h.2 k15
    refine lv_aload_n hx hb dX2_countByFrames_8 rfl (lv_at hl 0 rfl) ?_
    refine sw_gr (j := 0) (r := 13) hx hb hts hown hW rfl qf_2 (Or.inl (Nat.le_of_ble_eq_true rfl)) sl_12 rfl (Nat.le_of_ble_eq_true rfl) q_125 dX2_countByFrames_9 ?_
    refine lv_iload_n hx hb dX2_countByFrames_12 rfl (lv_at hl 3 rfl) ?_
    refine lv_aload_n hx hb dX2_countByFrames_13 rfl (lv_at hl 1 rfl) ?_
    refine lv_iload_n hx hb dX2_countByFrames_14 rfl (lv_at hl 2 rfl) ?_
    refine lv_bipush (v := 97) hx hb dX2_countByFrames_15 (by decide) ?_
    refine lv_iload_n hx hb dX2_countByFrames_17 rfl (lv_at hl 3 rfl) ?_
    refine lv_iadd hx hb dX2_countByFrames_18 ?_
    refine lv_i2c hx hb dX2_countByFrames_19 rfl ?_
    refine lv_topi (fun v30 ev30 => ?_)
    have h := h v30 ev30
    refine sw_ki (rest := [.int x3_2, .ref (sw_ad g 13)]) (sw_runS (As := [.ref (sw_ad g (sw_st i1)), .int a2, .int v30]) (rest := [.int x3_2, .ref (sw_ad g 13)]) hx hb hml hown hts (kX2_suitableWithFrame l g i1 hi1 a2 v30 M_2 _ h) cs_X2_suitableWithFrame q_699 rfl rfl ⟨(Nat.le_of_ble_eq_true rfl), (Nat.le_of_ble_eq_true rfl)⟩ hW rfl hl.1 rfl (Nat.le_of_ble_eq_true rfl) dX2_countByFrames_20 ⟨(Nat.le_of_ble_eq_true rfl), (Nat.le_of_ble_eq_true rfl)⟩) hW (fun r31 M35 H locs h hW => ?_)
    obtain ⟨h, eM35⟩ := h
    rw [eM35] at hW
    have b32 := h.1
    have h := h.2
    refine sw_is (n := 6) hx hb hW (Or.inl (Nat.le_of_ble_eq_true rfl)) sl_13 b32 dX2_countByFrames_23 (fun H locs hW => ?_)
    obtain ⟨M33, eM33⟩ : ∃ z : sM, z = sw_ms M_2 13 (x3_2).toNatClampNeg r31 := ⟨_, rfl⟩
    rw [← eM33] at hW
    have h := h M33 eM33
    obtain ⟨v34, ev34⟩ : ∃ z : Int32, z = x3_2 + (1 : Int32) := ⟨_, rfl⟩
    have h := h v34 ev34
    refine lv_iinc (v := v34) (lv' := [(3, .int v34), (0, .ref (sw_ad g 12)), (1, .ref (sw_ad g (sw_st i1))), (2, .int a2)]) hx hb dX2_countByFrames_24 hl (k := 3) rfl (by rw [ev34]; rfl) (Nat.le_of_ble_eq_true rfl) rfl (fun ls hl => ?_)
    refine lv_goto (tgt := 2) hx hb dX2_countByFrames_27 (by decide) ?_
    exact ih2 _ _ _ _ _ h hW (lv_sub hl [1, 2, 3, 0] rfl)

def lX2_firstFor_26 (i1 : Nat) (a2 : Int32) (M : sM) (x3_2 : Int32) (x4_13 : Int32) (Q : Int32 → Prop) (K26 : Prop) : Nat → Int32 → Prop
  | 0, _ => False
  | n26 + 1, x5_26 => ((6 : Int32) ≤ x5_26 → (K26)) ∧ (¬ (6 : Int32) ≤ x5_26 → (wX2_isPanel i1 a2 x3_2 x4_13 x5_26 M (fun r10 => (r10 = 0 → (∀ v12 : Int32, v12 = x5_26 + (1 : Int32) → ((fun x5_26 => lX2_firstFor_26 i1 a2 M x3_2 x4_13 Q K26 n26 x5_26) v12))) ∧ (¬ r10 = 0 → (Q ((((1 : Int32) <<< (x3_2 &&& 31)) ||| ((1 : Int32) <<< (x4_13 &&& 31))) ||| ((1 : Int32) <<< (x5_26 &&& 31))))))))
def lX2_firstFor_13 (i1 : Nat) (a2 : Int32) (M : sM) (x3_2 : Int32) (Q : Int32 → Prop) (K13 : Prop) : Nat → Int32 → Prop
  | 0, _ => False
  | n13 + 1, x4_13 => ((6 : Int32) ≤ x4_13 → (K13)) ∧ (¬ (6 : Int32) ≤ x4_13 → (∀ v6 : Int32, v6 = (x4_13 + (1 : Int32)) → (∃ n26, lX2_firstFor_26 i1 a2 M x3_2 x4_13 Q (∀ v7 : Int32, v7 = x4_13 + (1 : Int32) → ((fun x4_13 => lX2_firstFor_13 i1 a2 M x3_2 Q K13 n13 x4_13) v7)) n26 v6)))
def lX2_firstFor_2 (i1 : Nat) (a2 : Int32) (M : sM) (Q : Int32 → Prop) (K2 : Prop) : Nat → Int32 → Prop
  | 0, _ => False
  | n2 + 1, x3_2 => ((6 : Int32) ≤ x3_2 → (K2)) ∧ (¬ (6 : Int32) ≤ x3_2 → (∀ v2 : Int32, v2 = (x3_2 + (1 : Int32)) → (∃ n13, lX2_firstFor_13 i1 a2 M x3_2 Q (∀ v3 : Int32, v3 = x3_2 + (1 : Int32) → ((fun x3_2 => lX2_firstFor_2 i1 a2 M Q K2 n2 x3_2) v3)) n13 v2)))
theorem cv_X2_firstFor : sw_cV yX2_firstFor RX2 cX2_firstFor 6 (some .int) 2 := ⟨q_446, q_447, q_6, q_448, by decide +kernel⟩
def wX2_firstFor (i1 : Nat) (a2 : Int32) (M : sM) (Q : Int32 → Prop) : Prop :=
  ∃ n2, lX2_firstFor_2 i1 a2 M Q (Q (0 : Int32)) n2 (0 : Int32)
set_option maxRecDepth 20000 in
theorem kX2_firstFor (l : Launch) (g : sG) (i1 : Nat) (hi1 : i1 < 11) (a2 : Int32) (M : sM) (Q : Int32 → Prop) (h : wX2_firstFor i1 a2 M Q) : Met l yX2_firstFor (sw_ws yX2_firstFor cX2_firstFor 6 (some .int)) { frames := 3, cells := 0, slots := 0, locals := 68 } (va_Pc [.ref (sw_ad g 12), .ref (sw_ad g (sw_st i1)), .int a2] (sw_Pr g M)) (va_Qi (fun r M1 => Q r ∧ M1 = M) (sw_Po g) (sw_A g)) 0 0 (sw_A g) := by
  refine sw_met (by decide) (Nat.le_of_ble_eq_true rfl) ?_
  intro p e s m args below meth c ls hx hb hr hts hown hml hlocks hW hl
  have hown : s.vm.findClass RX2 = some m.cls := hown
  have hl : lv_has ls 6 [(0, .ref (sw_ad g 12)), (1, .ref (sw_ad g (sw_st i1))), (2, .int a2)] := hl
  unfold wX2_firstFor at h
  refine lv_iconst (v := 0) hx hb dX2_firstFor_0 (by decide) ?_
  refine lv_istore_n (lv' := [(3, .int (0 : Int32)), (0, .ref (sw_ad g 12)), (1, .ref (sw_ad g (sw_st i1))), (2, .int a2)]) hx hb dX2_firstFor_1 rfl hl (Nat.le_of_ble_eq_true rfl) rfl (fun ls hl => ?_)
  obtain ⟨n2, h⟩ := h
  refine sw_lp_i (hd := 2) (Lf := fun x3_2 => [(1, .ref (sw_ad g (sw_st i1))), (2, .int a2), (3, .int x3_2)]) h hW (lv_sub hl [2, 3, 0] rfl) (fun _ h => h) (fun n2 ih2 x3_2 H locs ls h hW hl => ?_)
  rw [lX2_firstFor_2.eq_2] at h
  refine lv_iload_n hx hb dX2_firstFor_2 rfl (lv_at hl 2 rfl) ?_
  refine lv_bipush (v := 6) hx hb dX2_firstFor_3 (by decide) ?_
  refine lv_icmp_ge (tgt := 78) hx hb dX2_firstFor_5 (by decide) (fun k1 => ?_) (fun k1 => ?_)
  · have h := h.1 k1
    refine lv_iconst (v := 0) hx hb dX2_firstFor_78 (by decide) ?_
    exact sw_ri hx hb hr hlocks hW rfl ⟨h, rfl⟩ dX2_firstFor_79
  · have h := h.2 k1
    refine lv_iload_n hx hb dX2_firstFor_8 rfl (lv_at hl 2 rfl) ?_
    refine lv_iconst (v := 1) hx hb dX2_firstFor_9 (by decide) ?_
    refine lv_iadd hx hb dX2_firstFor_10 ?_
    refine lv_topi (fun v2 ev2 => ?_)
    have h := h v2 ev2
    refine lv_istore (lv' := [(4, .int v2), (1, .ref (sw_ad g (sw_st i1))), (2, .int a2), (3, .int x3_2)]) hx hb dX2_firstFor_11 hl (Nat.le_of_ble_eq_true rfl) rfl (fun ls hl => ?_)
    obtain ⟨n13, h⟩ := h
    refine sw_lp_i (hd := 13) (Lf := fun x4_13 => [(1, .ref (sw_ad g (sw_st i1))), (2, .int a2), (3, .int x3_2), (4, .int x4_13)]) h hW (lv_sub hl [1, 2, 3, 0] rfl) (fun _ h => h) (fun n13 ih13 x4_13 H locs ls h hW hl => ?_)
    rw [lX2_firstFor_13.eq_2] at h
    refine lv_iload hx hb dX2_firstFor_13 (lv_at hl 3 rfl) ?_
    refine lv_bipush (v := 6) hx hb dX2_firstFor_15 (by decide) ?_
    refine lv_icmp_ge (tgt := 72) hx hb dX2_firstFor_17 (by decide) (fun k4 => ?_) (fun k4 => ?_)
    · have h := h.1 k4
      obtain ⟨v5, ev5⟩ : ∃ z : Int32, z = x3_2 + (1 : Int32) := ⟨_, rfl⟩
      have h := h v5 ev5
      refine lv_iinc (v := v5) (lv' := [(3, .int v5), (1, .ref (sw_ad g (sw_st i1))), (2, .int a2), (4, .int x4_13)]) hx hb dX2_firstFor_72 hl (k := 2) rfl (by rw [ev5]; rfl) (Nat.le_of_ble_eq_true rfl) rfl (fun ls hl => ?_)
      refine lv_goto (tgt := 2) hx hb dX2_firstFor_75 (by decide) ?_
      exact ih2 _ _ _ _ h hW (lv_sub hl [1, 2, 0] rfl)
    · have h := h.2 k4
      refine lv_iload hx hb dX2_firstFor_20 (lv_at hl 3 rfl) ?_
      refine lv_iconst (v := 1) hx hb dX2_firstFor_22 (by decide) ?_
      refine lv_iadd hx hb dX2_firstFor_23 ?_
      refine lv_topi (fun v6 ev6 => ?_)
      have h := h v6 ev6
      refine lv_istore (lv' := [(5, .int v6), (1, .ref (sw_ad g (sw_st i1))), (2, .int a2), (3, .int x3_2), (4, .int x4_13)]) hx hb dX2_firstFor_24 hl (Nat.le_of_ble_eq_true rfl) rfl (fun ls hl => ?_)
      obtain ⟨n26, h⟩ := h
      refine sw_lp_i (hd := 26) (Lf := fun x5_26 => [(1, .ref (sw_ad g (sw_st i1))), (2, .int a2), (3, .int x3_2), (4, .int x4_13), (5, .int x5_26)]) h hW (lv_sub hl [1, 2, 3, 4, 0] rfl) (fun _ h => h) (fun n26 ih26 x5_26 H locs ls h hW hl => ?_)
      rw [lX2_firstFor_26.eq_2] at h
      refine lv_iload hx hb dX2_firstFor_26 (lv_at hl 4 rfl) ?_
      refine lv_bipush (v := 6) hx hb dX2_firstFor_28 (by decide) ?_
      refine lv_icmp_ge (tgt := 66) hx hb dX2_firstFor_30 (by decide) (fun k8 => ?_) (fun k8 => ?_)
      · have h := h.1 k8
        obtain ⟨v9, ev9⟩ : ∃ z : Int32, z = x4_13 + (1 : Int32) := ⟨_, rfl⟩
        have h := h v9 ev9
        refine lv_iinc (v := v9) (lv' := [(4, .int v9), (1, .ref (sw_ad g (sw_st i1))), (2, .int a2), (3, .int x3_2), (5, .int x5_26)]) hx hb dX2_firstFor_66 hl (k := 3) rfl (by rw [ev9]; rfl) (Nat.le_of_ble_eq_true rfl) rfl (fun ls hl => ?_)
        refine lv_goto (tgt := 13) hx hb dX2_firstFor_69 (by decide) ?_
        exact ih13 _ _ _ _ h hW (lv_sub hl [1, 2, 3, 0] rfl)
      · have h := h.2 k8
        refine lv_aload_n hx hb dX2_firstFor_33 rfl (lv_at hl 0 rfl) ?_
        refine lv_iload_n hx hb dX2_firstFor_34 rfl (lv_at hl 1 rfl) ?_
        refine lv_iload_n hx hb dX2_firstFor_35 rfl (lv_at hl 2 rfl) ?_
        refine lv_iload hx hb dX2_firstFor_36 (lv_at hl 3 rfl) ?_
        refine lv_iload hx hb dX2_firstFor_38 (lv_at hl 4 rfl) ?_
        refine sw_ki (rest := []) (sw_runS (As := [.ref (sw_ad g (sw_st i1)), .int a2, .int x3_2, .int x4_13, .int x5_26]) (rest := []) hx hb hml hown hts (kX2_isPanel l g i1 hi1 a2 x3_2 x4_13 x5_26 M _ h) cs_X2_isPanel q_449 rfl rfl ⟨(Nat.le_of_ble_eq_true rfl), (Nat.le_of_ble_eq_true rfl)⟩ hW rfl hl.1 rfl (Nat.le_of_ble_eq_true rfl) dX2_firstFor_40 ⟨(Nat.le_of_ble_eq_true rfl), (Nat.le_of_ble_eq_true rfl)⟩) hW (fun r10 M13 H locs h hW => ?_)
        obtain ⟨h, eM13⟩ := h
        rw [eM13] at hW
        refine lv_if_eq (tgt := 60) hx hb dX2_firstFor_43 (by decide) (fun k11 => ?_) (fun k11 => ?_)
        · have h := h.1 k11
          obtain ⟨v12, ev12⟩ : ∃ z : Int32, z = x5_26 + (1 : Int32) := ⟨_, rfl⟩
          have h := h v12 ev12
          refine lv_iinc (v := v12) (lv' := [(5, .int v12), (1, .ref (sw_ad g (sw_st i1))), (2, .int a2), (3, .int x3_2), (4, .int x4_13)]) hx hb dX2_firstFor_60 hl (k := 4) rfl (by rw [ev12]; rfl) (Nat.le_of_ble_eq_true rfl) rfl (fun ls hl => ?_)
          refine lv_goto (tgt := 26) hx hb dX2_firstFor_63 (by decide) ?_
          exact ih26 _ _ _ _ h hW (lv_sub hl [1, 2, 3, 4, 0] rfl)
        · have h := h.2 k11
          refine lv_iconst (v := 1) hx hb dX2_firstFor_46 (by decide) ?_
          refine lv_iload_n hx hb dX2_firstFor_47 rfl (lv_at hl 2 rfl) ?_
          refine lv_ishl hx hb dX2_firstFor_48 ?_
          refine lv_iconst (v := 1) hx hb dX2_firstFor_49 (by decide) ?_
          refine lv_iload hx hb dX2_firstFor_50 (lv_at hl 3 rfl) ?_
          refine lv_ishl hx hb dX2_firstFor_52 ?_
          refine lv_ior hx hb dX2_firstFor_53 ?_
          refine lv_iconst (v := 1) hx hb dX2_firstFor_54 (by decide) ?_
          refine lv_iload hx hb dX2_firstFor_55 (lv_at hl 4 rfl) ?_
          refine lv_ishl hx hb dX2_firstFor_57 ?_
          refine lv_ior hx hb dX2_firstFor_58 ?_
          exact sw_ri hx hb hr hlocks hW rfl ⟨h, rfl⟩ dX2_firstFor_59

def lX2_votes_5 (i1 : Nat) (a2 : Int32) (a3 : Int32) (M : sM) (K5 : Int32 → Prop) : Nat → Int32 → Int32 → Prop
  | 0, _, _ => False
  | n5 + 1, x3_5, x4_5 => ((M (sw_st i1) 6) ≤ x4_5 → (K5 x3_5)) ∧ (¬ (M (sw_st i1) 6) ≤ x4_5 → (wX6_contains a2 x4_5 (fun r2 => (r2 = 0 → (∀ v4 : Int32, v4 = x4_5 + (1 : Int32) → ((fun x3_5 x4_5 => lX2_votes_5 i1 a2 a3 M K5 n5 x3_5 x4_5) x3_5 v4))) ∧ (¬ r2 = 0 → (vp_in x4_5 6 ∧ (((M (sw_st i1 + 6) (x4_5).toNatClampNeg) < a3 → (∀ v7 : Int32, v7 = x4_5 + (1 : Int32) → ((fun x3_5 x4_5 => lX2_votes_5 i1 a2 a3 M K5 n5 x3_5 x4_5) x3_5 v7))) ∧ (¬ (M (sw_st i1 + 6) (x4_5).toNatClampNeg) < a3 → (∀ v8 : Int32, v8 = x3_5 + (1 : Int32) → (∀ v9 : Int32, v9 = x4_5 + (1 : Int32) → ((fun x3_5 x4_5 => lX2_votes_5 i1 a2 a3 M K5 n5 x3_5 x4_5) v8 v9))))))))))
theorem cs_X2_votes : sw_cS yX2_votes cX2_votes 5 (some .int) 3 := ⟨q_459, q_6, q_460, by decide +kernel⟩
def wX2_votes (i1 : Nat) (a2 : Int32) (a3 : Int32) (M : sM) (Q : Int32 → Prop) : Prop :=
  ∃ n5, lX2_votes_5 i1 a2 a3 M (fun x3_5k => Q x3_5k) n5 (0 : Int32) (0 : Int32)
set_option maxRecDepth 20000 in
theorem kX2_votes (l : Launch) (g : sG) (i1 : Nat) (hi1 : i1 < 11) (a2 : Int32) (a3 : Int32) (M : sM) (Q : Int32 → Prop) (h : wX2_votes i1 a2 a3 M Q) : Met l yX2_votes (sw_ws yX2_votes cX2_votes 5 (some .int)) { frames := 1, cells := 0, slots := 0, locals := 21 } (va_Pc [.ref (sw_ad g (sw_st i1)), .int a2, .int a3] (sw_Pr g M)) (va_Qi (fun r M1 => Q r ∧ M1 = M) (sw_Po g) (sw_A g)) 0 0 (sw_A g) := by
  refine sw_met (by decide) (Nat.le_of_ble_eq_true rfl) ?_
  intro p e s m args below meth c ls hx hb hr hts hown hml hlocks hW hl
  have hown : s.vm.findClass RX2 = some m.cls := hown
  have hl : lv_has ls 5 [(0, .ref (sw_ad g (sw_st i1))), (1, .int a2), (2, .int a3)] := hl
  unfold wX2_votes at h
  refine lv_iconst (v := 0) hx hb dX2_votes_0 (by decide) ?_
  refine lv_istore_n (lv' := [(3, .int (0 : Int32)), (0, .ref (sw_ad g (sw_st i1))), (1, .int a2), (2, .int a3)]) hx hb dX2_votes_1 rfl hl (Nat.le_of_ble_eq_true rfl) rfl (fun ls hl => ?_)
  refine lv_iconst (v := 0) hx hb dX2_votes_2 (by decide) ?_
  refine lv_istore (lv' := [(4, .int (0 : Int32)), (3, .int (0 : Int32)), (0, .ref (sw_ad g (sw_st i1))), (1, .int a2), (2, .int a3)]) hx hb dX2_votes_3 hl (Nat.le_of_ble_eq_true rfl) rfl (fun ls hl => ?_)
  obtain ⟨n5, h⟩ := h
  refine sw_lp_ii (hd := 5) (Lf := fun x3_5 x4_5 => [(0, .ref (sw_ad g (sw_st i1))), (1, .int a2), (2, .int a3), (3, .int x3_5), (4, .int x4_5)]) h hW (lv_sub hl [2, 3, 4, 1, 0] rfl) (fun _ _ h => h) (fun n5 ih5 x3_5 x4_5 H locs ls h hW hl => ?_)
  rw [lX2_votes_5.eq_2] at h
  refine lv_iload hx hb dX2_votes_5 (lv_at hl 4 rfl) ?_
  refine lv_aload_n hx hb dX2_votes_7 rfl (lv_at hl 0 rfl) ?_
  refine sw_gi (j := 6) hx hb hts hown hW rfl qf_5 (sw_st_lt0 hi1) (sw_lay_so i1) rfl (Nat.le_of_ble_eq_true rfl) q_67 dX2_votes_8 ?_
  refine lv_icmp_ge (tgt := 43) hx hb dX2_votes_11 (by decide) (fun k1 => ?_) (fun k1 => ?_)
  · have h := h.1 k1
    refine lv_iload_n hx hb dX2_votes_43 rfl (lv_at hl 3 rfl) ?_
    exact sw_ri hx hb hr hlocks hW rfl ⟨h, rfl⟩ dX2_votes_44
  · have h := h.2 k1
    refine lv_iload_n hx hb dX2_votes_14 rfl (lv_at hl 1 rfl) ?_
    refine lv_iload hx hb dX2_votes_15 (lv_at hl 4 rfl) ?_
    refine sw_ki (rest := []) (sw_runN (As := [.int a2, .int x4_5]) (rest := []) hx hb hml hown hts (kX6_contains l g a2 x4_5 M _ h) cs_X6_contains qn_X2_40 rfl rfl ⟨(Nat.le_of_ble_eq_true rfl), (Nat.le_of_ble_eq_true rfl)⟩ hW rfl hl.1 rfl (Nat.le_of_ble_eq_true rfl) dX2_votes_17 ⟨(Nat.le_of_ble_eq_true rfl), (Nat.le_of_ble_eq_true rfl)⟩) hW (fun r2 M10 H locs h hW => ?_)
    obtain ⟨h, eM10⟩ := h
    rw [eM10] at hW
    refine lv_if_eq (tgt := 37) hx hb dX2_votes_20 (by decide) (fun k3 => ?_) (fun k3 => ?_)
    · have h := h.1 k3
      obtain ⟨v4, ev4⟩ : ∃ z : Int32, z = x4_5 + (1 : Int32) := ⟨_, rfl⟩
      have h := h v4 ev4
      refine lv_iinc (v := v4) (lv' := [(4, .int v4), (0, .ref (sw_ad g (sw_st i1))), (1, .int a2), (2, .int a3), (3, .int x3_5)]) hx hb dX2_votes_37 hl (k := 4) rfl (by rw [ev4]; rfl) (Nat.le_of_ble_eq_true rfl) rfl (fun ls hl => ?_)
      refine lv_goto (tgt := 5) hx hb dX2_votes_40 (by decide) ?_
      exact ih5 _ _ _ _ _ h hW (lv_sub hl [1, 2, 3, 4, 0] rfl)
    · have h := h.2 k3
      refine lv_aload_n hx hb dX2_votes_23 rfl (lv_at hl 0 rfl) ?_
      refine sw_gr (j := 10) (r := (sw_st i1 + 6)) hx hb hts hown hW rfl qf_5 (sw_st_lt0 hi1) (sw_lay_so i1) rfl (Nat.le_of_ble_eq_true rfl) q_80 dX2_votes_24 ?_
      refine lv_iload hx hb dX2_votes_27 (lv_at hl 4 rfl) ?_
      have b5 := h.1
      have h := h.2
      refine sw_ia (n := 6) hx hb hW (sw_st_lt hi1 (Nat.le_of_ble_eq_true rfl)) (sw_lay_s i1 6 (Nat.le_of_ble_eq_true rfl)) b5 dX2_votes_29 ?_
      refine lv_iload_n hx hb dX2_votes_30 rfl (lv_at hl 2 rfl) ?_
      refine lv_icmp_lt (tgt := 37) hx hb dX2_votes_31 (by decide) (fun k6 => ?_) (fun k6 => ?_)
      · have h := h.1 k6
        obtain ⟨v7, ev7⟩ : ∃ z : Int32, z = x4_5 + (1 : Int32) := ⟨_, rfl⟩
        have h := h v7 ev7
        refine lv_iinc (v := v7) (lv' := [(4, .int v7), (0, .ref (sw_ad g (sw_st i1))), (1, .int a2), (2, .int a3), (3, .int x3_5)]) hx hb dX2_votes_37 hl (k := 4) rfl (by rw [ev7]; rfl) (Nat.le_of_ble_eq_true rfl) rfl (fun ls hl => ?_)
        refine lv_goto (tgt := 5) hx hb dX2_votes_40 (by decide) ?_
        exact ih5 _ _ _ _ _ h hW (lv_sub hl [1, 2, 3, 4, 0] rfl)
      · have h := h.2 k6
        obtain ⟨v8, ev8⟩ : ∃ z : Int32, z = x3_5 + (1 : Int32) := ⟨_, rfl⟩
        have h := h v8 ev8
        refine lv_iinc (v := v8) (lv' := [(3, .int v8), (0, .ref (sw_ad g (sw_st i1))), (1, .int a2), (2, .int a3), (4, .int x4_5)]) hx hb dX2_votes_34 hl (k := 3) rfl (by rw [ev8]; rfl) (Nat.le_of_ble_eq_true rfl) rfl (fun ls hl => ?_)
        obtain ⟨v9, ev9⟩ : ∃ z : Int32, z = x4_5 + (1 : Int32) := ⟨_, rfl⟩
        have h := h v9 ev9
        refine lv_iinc (v := v9) (lv' := [(4, .int v9), (3, .int v8), (0, .ref (sw_ad g (sw_st i1))), (1, .int a2), (2, .int a3)]) hx hb dX2_votes_37 hl (k := 4) rfl (by rw [ev9]; rfl) (Nat.le_of_ble_eq_true rfl) rfl (fun ls hl => ?_)
        refine lv_goto (tgt := 5) hx hb dX2_votes_40 (by decide) ?_
        exact ih5 _ _ _ _ _ h hW (lv_sub hl [2, 3, 4, 1, 0] rfl)

theorem cv_X2_tryAppeal : sw_cV yX2_tryAppeal RX2 cX2_tryAppeal 6 (some .int) 2 := ⟨q_429, q_430, q_6, q_431, by decide +kernel⟩
def wX2_tryAppeal (i1 : Nat) (a2 : Int32) (M : sM) (Q : Int32 → sM → Prop) : Prop :=
  wX5_hasDoor i1 a2 M (fun r1 => (r1 = 0 → (Q (-1 : Int32) M)) ∧ (¬ r1 = 0 → (wX5_median i1 a2 M (fun r3 => (r3 = (-1 : Int32) → (Q (-3 : Int32) M)) ∧ (¬ r3 = (-1 : Int32) → (((M (sw_st i1) 14) ≤ r3 → (Q (-3 : Int32) M)) ∧ (¬ (M (sw_st i1) 14) ≤ r3 → (wX6_contains (M (sw_st i1) 0) a2 (fun r6 => (r6 = 0 → (wX2_firstFor i1 a2 M (fun r8 => (r8 = 0 → (Q (-4 : Int32) M)) ∧ (¬ r8 = 0 → (wX2_votes i1 r8 ((M (sw_st i1) 14) - r3) M (fun r10 => ∀ M11 : sM, M11 = sw_ms M (sw_st i1) 0 ((M (sw_st i1) 0) ||| ((1 : Int32) <<< (a2 &&& 31))) → ((r10 < (2 : Int32) → (Q r10 M11)) ∧ (¬ r10 < (2 : Int32) → (∀ M13 : sM, M13 = sw_ms M11 (sw_st i1) 1 ((M11 (sw_st i1) 1) ||| ((1 : Int32) <<< (a2 &&& 31))) → (Q r10 M13)))))))))) ∧ (¬ r6 = 0 → (Q (-3 : Int32) M)))))))))))
set_option maxRecDepth 20000 in
theorem kX2_tryAppeal (l : Launch) (g : sG) (i1 : Nat) (hi1 : i1 < 11) (a2 : Int32) (M : sM) (Q : Int32 → sM → Prop) (h : wX2_tryAppeal i1 a2 M Q) : Met l yX2_tryAppeal (sw_ws yX2_tryAppeal cX2_tryAppeal 6 (some .int)) { frames := 4, cells := 0, slots := 0, locals := 93 } (va_Pc [.ref (sw_ad g 12), .ref (sw_ad g (sw_st i1)), .int a2] (sw_Pr g M)) (va_Qi Q (sw_Po g) (sw_A g)) 0 0 (sw_A g) := by
  refine sw_met (by decide) (Nat.le_of_ble_eq_true rfl) ?_
  intro p e s m args below meth c ls hx hb hr hts hown hml hlocks hW hl
  have hown : s.vm.findClass RX2 = some m.cls := hown
  have hl : lv_has ls 6 [(0, .ref (sw_ad g 12)), (1, .ref (sw_ad g (sw_st i1))), (2, .int a2)] := hl
  unfold wX2_tryAppeal at h
  refine lv_aload_n hx hb dX2_tryAppeal_0 rfl (lv_at hl 1 rfl) ?_
  refine lv_iload_n hx hb dX2_tryAppeal_1 rfl (lv_at hl 2 rfl) ?_
  refine sw_ki (rest := []) (sw_runV (As := [.int a2]) (rest := []) hx hb hml hown hts (kX5_hasDoor l g i1 hi1 a2 M _ h) cv_X5_hasDoor q_432 rfl rfl ⟨(Nat.le_of_ble_eq_true rfl), (Nat.le_of_ble_eq_true rfl)⟩ hW (sw_st_lt0 hi1) (sw_lay_so i1) rfl rfl hl.1 rfl (Nat.le_of_ble_eq_true rfl) dX2_tryAppeal_2 ⟨(Nat.le_of_ble_eq_true rfl), (Nat.le_of_ble_eq_true rfl)⟩) hW (fun r1 M18 H locs h hW => ?_)
  obtain ⟨h, eM18⟩ := h
  rw [eM18] at hW
  refine lv_if_ne (tgt := 10) hx hb dX2_tryAppeal_5 (by decide) (fun k2 => ?_) (fun k2 => ?_)
  · have h := h.2 k2
    refine lv_aload_n hx hb dX2_tryAppeal_10 rfl (lv_at hl 1 rfl) ?_
    refine lv_iload_n hx hb dX2_tryAppeal_11 rfl (lv_at hl 2 rfl) ?_
    refine sw_ki (rest := []) (sw_runV (As := [.int a2]) (rest := []) hx hb hml hown hts (kX5_median l g i1 hi1 a2 M _ h) cv_X5_median q_433 rfl rfl ⟨(Nat.le_of_ble_eq_true rfl), (Nat.le_of_ble_eq_true rfl)⟩ hW (sw_st_lt0 hi1) (sw_lay_so i1) rfl rfl hl.1 rfl (Nat.le_of_ble_eq_true rfl) dX2_tryAppeal_12 ⟨(Nat.le_of_ble_eq_true rfl), (Nat.le_of_ble_eq_true rfl)⟩) hW (fun r3 M17 H locs h hW => ?_)
    obtain ⟨h, eM17⟩ := h
    rw [eM17] at hW
    refine lv_istore_n (lv' := [(3, .int r3), (0, .ref (sw_ad g 12)), (1, .ref (sw_ad g (sw_st i1))), (2, .int a2)]) hx hb dX2_tryAppeal_15 rfl hl (Nat.le_of_ble_eq_true rfl) rfl (fun ls hl => ?_)
    refine lv_iload_n hx hb dX2_tryAppeal_16 rfl (lv_at hl 0 rfl) ?_
    refine lv_iconst (v := -1) hx hb dX2_tryAppeal_17 (by decide) ?_
    refine lv_icmp_eq (tgt := 40) hx hb dX2_tryAppeal_18 (by decide) (fun k4 => ?_) (fun k4 => ?_)
    · have h := h.1 k4
      refine lv_bipush (v := -3) hx hb dX2_tryAppeal_40 (by decide) ?_
      exact sw_ri hx hb hr hlocks hW rfl h dX2_tryAppeal_42
    · have h := h.2 k4
      refine lv_iload_n hx hb dX2_tryAppeal_21 rfl (lv_at hl 0 rfl) ?_
      refine lv_aload_n hx hb dX2_tryAppeal_22 rfl (lv_at hl 2 rfl) ?_
      refine sw_gi (j := 14) hx hb hts hown hW rfl qf_5 (sw_st_lt0 hi1) (sw_lay_so i1) rfl (Nat.le_of_ble_eq_true rfl) q_87 dX2_tryAppeal_23 ?_
      refine lv_icmp_ge (tgt := 40) hx hb dX2_tryAppeal_26 (by decide) (fun k5 => ?_) (fun k5 => ?_)
      · have h := h.1 k5
        refine lv_bipush (v := -3) hx hb dX2_tryAppeal_40 (by decide) ?_
        exact sw_ri hx hb hr hlocks hW rfl h dX2_tryAppeal_42
      · have h := h.2 k5
        refine lv_aload_n hx hb dX2_tryAppeal_29 rfl (lv_at hl 2 rfl) ?_
        refine sw_gi (j := 0) hx hb hts hown hW rfl qf_5 (sw_st_lt0 hi1) (sw_lay_so i1) rfl (Nat.le_of_ble_eq_true rfl) q_50 dX2_tryAppeal_30 ?_
        refine lv_iload_n hx hb dX2_tryAppeal_33 rfl (lv_at hl 3 rfl) ?_
        refine sw_ki (rest := []) (sw_runN (As := [.int (M (sw_st i1) 0), .int a2]) (rest := []) hx hb hml hown hts (kX6_contains l g (M (sw_st i1) 0) a2 M _ h) cs_X6_contains qn_X2_40 rfl rfl ⟨(Nat.le_of_ble_eq_true rfl), (Nat.le_of_ble_eq_true rfl)⟩ hW rfl hl.1 rfl (Nat.le_of_ble_eq_true rfl) dX2_tryAppeal_34 ⟨(Nat.le_of_ble_eq_true rfl), (Nat.le_of_ble_eq_true rfl)⟩) hW (fun r6 M16 H locs h hW => ?_)
        obtain ⟨h, eM16⟩ := h
        rw [eM16] at hW
        refine lv_if_eq (tgt := 43) hx hb dX2_tryAppeal_37 (by decide) (fun k7 => ?_) (fun k7 => ?_)
        · have h := h.1 k7
          refine lv_aload_n hx hb dX2_tryAppeal_43 rfl (lv_at hl 1 rfl) ?_
          refine lv_aload_n hx hb dX2_tryAppeal_44 rfl (lv_at hl 2 rfl) ?_
          refine lv_iload_n hx hb dX2_tryAppeal_45 rfl (lv_at hl 3 rfl) ?_
          refine sw_ki (rest := []) (sw_runV (As := [.ref (sw_ad g (sw_st i1)), .int a2]) (rest := []) hx hb hml hown hts (kX2_firstFor l g i1 hi1 a2 M _ h) cv_X2_firstFor q_445 rfl rfl ⟨(Nat.le_of_ble_eq_true rfl), (Nat.le_of_ble_eq_true rfl)⟩ hW (Or.inl (Nat.le_of_ble_eq_true rfl)) sl_12 rfl rfl hl.1 rfl (Nat.le_of_ble_eq_true rfl) dX2_tryAppeal_46 ⟨(Nat.le_of_ble_eq_true rfl), (Nat.le_of_ble_eq_true rfl)⟩) hW (fun r8 M15 H locs h hW => ?_)
          obtain ⟨h, eM15⟩ := h
          rw [eM15] at hW
          refine lv_istore (lv' := [(4, .int r8), (3, .int r3), (0, .ref (sw_ad g 12)), (1, .ref (sw_ad g (sw_st i1))), (2, .int a2)]) hx hb dX2_tryAppeal_49 hl (Nat.le_of_ble_eq_true rfl) rfl (fun ls hl => ?_)
          refine lv_iload hx hb dX2_tryAppeal_51 (lv_at hl 0 rfl) ?_
          refine lv_if_ne (tgt := 59) hx hb dX2_tryAppeal_53 (by decide) (fun k9 => ?_) (fun k9 => ?_)
          · have h := h.2 k9
            refine lv_aload_n hx hb dX2_tryAppeal_59 rfl (lv_at hl 3 rfl) ?_
            refine lv_iload hx hb dX2_tryAppeal_60 (lv_at hl 0 rfl) ?_
            refine lv_aload_n hx hb dX2_tryAppeal_62 rfl (lv_at hl 3 rfl) ?_
            refine sw_gi (j := 14) hx hb hts hown hW rfl qf_5 (sw_st_lt0 hi1) (sw_lay_so i1) rfl (Nat.le_of_ble_eq_true rfl) q_87 dX2_tryAppeal_63 ?_
            refine lv_iload_n hx hb dX2_tryAppeal_66 rfl (lv_at hl 1 rfl) ?_
            refine lv_isub hx hb dX2_tryAppeal_67 ?_
            refine sw_ki (rest := []) (sw_runS (As := [.ref (sw_ad g (sw_st i1)), .int r8, .int ((M (sw_st i1) 14) - r3)]) (rest := []) hx hb hml hown hts (kX2_votes l g i1 hi1 r8 ((M (sw_st i1) 14) - r3) M _ h) cs_X2_votes q_458 rfl rfl ⟨(Nat.le_of_ble_eq_true rfl), (Nat.le_of_ble_eq_true rfl)⟩ hW rfl hl.1 rfl (Nat.le_of_ble_eq_true rfl) dX2_tryAppeal_68 ⟨(Nat.le_of_ble_eq_true rfl), (Nat.le_of_ble_eq_true rfl)⟩) hW (fun r10 M14 H locs h hW => ?_)
            obtain ⟨h, eM14⟩ := h
            rw [eM14] at hW
            refine lv_istore (lv' := [(5, .int r10), (4, .int r8), (3, .int r3), (0, .ref (sw_ad g 12)), (1, .ref (sw_ad g (sw_st i1))), (2, .int a2)]) hx hb dX2_tryAppeal_71 hl (Nat.le_of_ble_eq_true rfl) rfl (fun ls hl => ?_)
            refine lv_aload_n hx hb dX2_tryAppeal_73 rfl (lv_at hl 4 rfl) ?_
            refine lv_dup hx hb dX2_tryAppeal_74 rfl ?_
            refine sw_gi (j := 0) hx hb hts hown hW rfl qf_5 (sw_st_lt0 hi1) (sw_lay_so i1) rfl (Nat.le_of_ble_eq_true rfl) q_50 dX2_tryAppeal_75 ?_
            refine lv_iconst (v := 1) hx hb dX2_tryAppeal_78 (by decide) ?_
            refine lv_iload_n hx hb dX2_tryAppeal_79 rfl (lv_at hl 5 rfl) ?_
            refine lv_ishl hx hb dX2_tryAppeal_80 ?_
            refine lv_ior hx hb dX2_tryAppeal_81 ?_
            refine sw_pi (j := 0) hx hb hts hown hW rfl qf_5 tyX5 tyX5_ok nmX5 (sw_st_lt0 hi1) (sw_lay_so i1) rfl (Nat.le_of_ble_eq_true rfl) q_50 rfl rfl rfl dX2_tryAppeal_82 (fun H locs hW => ?_)
            obtain ⟨M11, eM11⟩ : ∃ z : sM, z = sw_ms M (sw_st i1) 0 ((M (sw_st i1) 0) ||| ((1 : Int32) <<< (a2 &&& 31))) := ⟨_, rfl⟩
            rw [← eM11] at hW
            have h := h M11 eM11
            refine lv_iload hx hb dX2_tryAppeal_85 (lv_at hl 0 rfl) ?_
            refine lv_iconst (v := 2) hx hb dX2_tryAppeal_87 (by decide) ?_
            refine lv_icmp_lt (tgt := 103) hx hb dX2_tryAppeal_88 (by decide) (fun k12 => ?_) (fun k12 => ?_)
            · have h := h.1 k12
              refine lv_iload hx hb dX2_tryAppeal_103 (lv_at hl 0 rfl) ?_
              exact sw_ri hx hb hr hlocks hW rfl h dX2_tryAppeal_105
            · have h := h.2 k12
              refine lv_aload_n hx hb dX2_tryAppeal_91 rfl (lv_at hl 4 rfl) ?_
              refine lv_dup hx hb dX2_tryAppeal_92 rfl ?_
              refine sw_gi (j := 1) hx hb hts hown hW rfl qf_5 (sw_st_lt0 hi1) (sw_lay_so i1) rfl (Nat.le_of_ble_eq_true rfl) q_52 dX2_tryAppeal_93 ?_
              refine lv_iconst (v := 1) hx hb dX2_tryAppeal_96 (by decide) ?_
              refine lv_iload_n hx hb dX2_tryAppeal_97 rfl (lv_at hl 5 rfl) ?_
              refine lv_ishl hx hb dX2_tryAppeal_98 ?_
              refine lv_ior hx hb dX2_tryAppeal_99 ?_
              refine sw_pi (j := 1) hx hb hts hown hW rfl qf_5 tyX5 tyX5_ok nmX5 (sw_st_lt0 hi1) (sw_lay_so i1) rfl (Nat.le_of_ble_eq_true rfl) q_52 rfl rfl rfl dX2_tryAppeal_100 (fun H locs hW => ?_)
              obtain ⟨M13, eM13⟩ : ∃ z : sM, z = sw_ms M11 (sw_st i1) 1 ((M11 (sw_st i1) 1) ||| ((1 : Int32) <<< (a2 &&& 31))) := ⟨_, rfl⟩
              rw [← eM13] at hW
              have h := h M13 eM13
              refine lv_iload hx hb dX2_tryAppeal_103 (lv_at hl 0 rfl) ?_
              exact sw_ri hx hb hr hlocks hW rfl h dX2_tryAppeal_105
          · have h := h.1 k9
            refine lv_bipush (v := -4) hx hb dX2_tryAppeal_56 (by decide) ?_
            exact sw_ri hx hb hr hlocks hW rfl h dX2_tryAppeal_58
        · have h := h.2 k7
          refine lv_bipush (v := -3) hx hb dX2_tryAppeal_40 (by decide) ?_
          exact sw_ri hx hb hr hlocks hW rfl h dX2_tryAppeal_42
  · have h := h.1 k2
    refine lv_iconst (v := -1) hx hb dX2_tryAppeal_8 (by decide) ?_
    exact sw_ri hx hb hr hlocks hW rfl h dX2_tryAppeal_9
