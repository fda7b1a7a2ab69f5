/-! The library's text methods over the law's own objects. -/
theorem sw_shl0 (x : Int32) : x <<< ((0 : Int32) &&& 31) = x := by apply Int32.toBitVec_inj.mp; simp
theorem nI_sub {a b : Nat} (h : b ≤ a) : nI a - nI b = nI (a - b) := by
  obtain ⟨c, rfl⟩ := Nat.exists_eq_add_of_le h
  rw [← nI_add, Nat.add_sub_cancel_left, Int32.add_comm, Int32.add_sub_cancel]
theorem va_nar0 {x : Nat} (h : x < 128) : vp_nar .byte (nI x) = nI x := by
  have h2 : ∀ n : Nat, n < 128 → vp_nar .byte (nI n) = nI n := by decide +kernel
  exact h2 x h
theorem nI_ncan {x : Nat} (h : x < 128) : ¬ nI x > (255 : Int32) := by
  have h2 : ∀ n : Nat, n < 128 → ¬ nI n > (255 : Int32) := by decide +kernel
  exact h2 x h
theorem nI_nhuge {x : Nat} (h : x ≤ 2000) : ¬ nI x > (2147483639 : Int32) := by
  show ¬ (nI 2147483639) < nI x
  exact nI_nlt (by omega) (by omega)
theorem cu_J5_isLatin1_aae02 : je_cU yJ5_isLatin1_aae02 yJ5_isLatin1_aae02 cJ5_isLatin1_aae02 1 (some .boolean) 0 := ⟨qs_isl, q_832, q_23, q_834, rfl, by decide +kernel⟩
theorem ka_isl (l : Launch) (g : sG) (z : zG) (q b n : Nat) (E0 : va_W) : Met l yJ5_isLatin1_aae02 (sw_ws yJ5_isLatin1_aae02 cJ5_isLatin1_aae02 1 (some .boolean)) { frames := 0, cells := 0, slots := 0, locals := 0 } (va_Pc [.ref q] (zPe g ((q, zSo g b n) :: E0) z)) (va_Qi (fun r _ => r = 1) (zQe g (fun _ : Unit => (q, zSo g b n) :: E0) z) (sw_A g)) 0 0 (sw_A g) := by
  refine je_met (by decide) (Nat.le_of_ble_eq_true rfl) ?_
  intro p e s m args below meth c ls hx hb hr hts hown hml hlocks hnm hW hl
  have hown : s.vm.findClass RJ5 = some m.cls := hown
  have hl : lv_has ls 1 [(0, .ref q)] := hl
  have hF := hW.2.2.2
  refine va_gets hx hb hF.2.2.2.2.2.1.1 hW.2.2.1 hown (sw_w hts q_782) (fun _ h => h) dJ5_isLatin1_aae02_0 ?_
  refine lv_if_eq (tgt := 17) hx hb dJ5_isLatin1_aae02_3 (by decide) (fun k => absurd k (by decide)) (fun _ => ?_)
  refine lv_aload_n hx hb dJ5_isLatin1_aae02_6 rfl (lv_at hl 0 rfl) ?_
  refine je_get hx hb hts qf_B hown hW 0 rfl rfl 1 (by decide) q_791 rfl rfl dJ5_isLatin1_aae02_7 ?_
  refine lv_if_ne (tgt := 17) hx hb dJ5_isLatin1_aae02_10 (by decide) (fun k => absurd rfl k) (fun _ => ?_)
  refine lv_iconst (v := 1) hx hb dJ5_isLatin1_aae02_13 (by decide) ?_
  refine lv_goto (tgt := 18) hx hb dJ5_isLatin1_aae02_14 (by decide) ?_
  exact je_ri () hx hb hr hlocks hW (by decide) rfl dJ5_isLatin1_aae02_18
theorem cx_J5_length_8abf5 : je_cSU yJ5_length_8abf5 cJ5_length_8abf5 1 (some .int) 0 := ⟨qs_len, qu_B, q_959, q_23, q_964, by decide +kernel⟩
theorem ka_len (l : Launch) (g : sG) (z : zG) (q b n : Nat) (E0 : va_W) : Met l yJ5_length_8abf5 (sw_ws yJ5_length_8abf5 cJ5_length_8abf5 1 (some .int)) { frames := 0, cells := 0, slots := 0, locals := 0 } (va_Pc [.ref q] (zPe g ((q, zSo g b n) :: E0) z)) (va_Qi (fun r _ => r = nI n) (zQe g (fun _ : Unit => (q, zSo g b n) :: E0) z) (sw_A g)) 0 0 (sw_A g) := by
  refine je_met (by decide) (Nat.le_of_ble_eq_true rfl) ?_
  intro p e s m args below meth c ls hx hb hr hts hown hml hlocks hnm hW hl
  have hown : s.vm.findClass RJ5 = some m.cls := hown
  have hl : lv_has ls 1 [(0, .ref q)] := hl
  have hF := hW.2.2.2
  refine lv_aload_n hx hb dJ5_length_8abf5_0 rfl (lv_at hl 0 rfl) ?_
  refine je_get hx hb hts qf_B hown hW 0 rfl rfl 3 (by decide) q_793 rfl rfl dJ5_length_8abf5_1 ?_
  exact je_ri () hx hb hr hlocks hW rfl rfl dJ5_length_8abf5_4
theorem ka_len4 (l : Launch) (g : sG) (z : zG) (q b n : Nat) (E0 : va_W) : Met l yJ4_length_8abf5 (sw_ws yJ4_length_8abf5 cJ4_length_8abf5 1 (some .int)) { frames := 1, cells := 0, slots := 0, locals := 20 } (va_Pc [.ref q] (zPe g ((q, zSo g b n) :: E0) z)) (va_Qi (fun r _ => r = nI n) (zQe g (fun _ : Unit => (q, zSo g b n) :: E0) z) (sw_A g)) 0 0 (sw_A g) := by
  refine je_met (by decide) (Nat.le_of_ble_eq_true rfl) ?_
  intro p e s m args below meth c ls hx hb hr hts hown hml hlocks hnm hW hl
  have hown : s.vm.findClass RJ4 = some m.cls := hown
  have hl : lv_has ls 1 [(0, .ref q)] := hl
  have hF := hW.2.2.2
  refine lv_aload_n hx hb dJ4_length_8abf5_0 rfl (lv_at hl 0 rfl) ?_
  refine je_ki (rest := []) (je_runSU (i := 0) (As := []) (rest := []) hx hb hml hown hts (ka_len l g z q b n E0) cx_J5_length_8abf5 q_963 rfl rfl ⟨(Nat.le_of_ble_eq_true rfl), (Nat.le_of_ble_eq_true rfl)⟩ hW rfl rfl hl.1 rfl (Nat.le_of_ble_eq_true rfl) dJ4_length_8abf5_1 ⟨(Nat.le_of_ble_eq_true rfl), (Nat.le_of_ble_eq_true rfl)⟩) hW (fun r u H locs h9 hW => ?_)
  subst h9
  exact je_ri () hx hb hr hlocks hW rfl rfl dJ4_length_8abf5_4
theorem cu_J5_getValue_6d5f1 : je_cU yJ5_getValue_6d5f1 yJ5_getValue_6d5f1 cJ5_getValue_6d5f1 1 (some (.array .byte)) 0 := ⟨qs_getv, q_955, q_23, q_957, rfl, by decide +kernel⟩
theorem ka_getv (l : Launch) (g : sG) (z : zG) (q b n : Nat) (E0 : va_W) : Met l yJ5_getValue_6d5f1 (sw_ws yJ5_getValue_6d5f1 cJ5_getValue_6d5f1 1 (some (.array .byte))) { frames := 0, cells := 0, slots := 0, locals := 0 } (va_Pc [.ref q] (zPe g ((q, zSo g b n) :: E0) z)) (je_Qr g (fun _ : Unit => (q, zSo g b n) :: E0) (fun _ => b) z (fun _ => True)) 0 0 (sw_A g) := by
  refine je_met (by decide) (Nat.le_of_ble_eq_true rfl) ?_
  intro p e s m args below meth c ls hx hb hr hts hown hml hlocks hnm hW hl
  have hown : s.vm.findClass RJ5 = some m.cls := hown
  have hl : lv_has ls 1 [(0, .ref q)] := hl
  have hF := hW.2.2.2
  refine lv_aload_n hx hb dJ5_getValue_6d5f1_0 rfl (lv_at hl 0 rfl) ?_
  refine je_get hx hb hts qf_B hown hW 0 rfl rfl 0 (by decide) q_790 rfl rfl dJ5_getValue_6d5f1_1 ?_
  exact je_ra () hx hb hr (Or.inr ⟨_, rfl⟩) hlocks hW trivial rfl dJ5_getValue_6d5f1_4
theorem ct_J1_canEncode_fc78d : sw_cS yJ1_canEncode_fc78d cJ1_canEncode_fc78d 1 (some .boolean) 1 := ⟨q_905, q_30, q_906, by decide +kernel⟩
theorem ka_can (l : Launch) (g : sG) (z : zG) (x : Nat) (hx0 : x < 128) (E0 : va_W) : Met l yJ1_canEncode_fc78d (sw_ws yJ1_canEncode_fc78d cJ1_canEncode_fc78d 1 (some .boolean)) { frames := 0, cells := 0, slots := 0, locals := 0 } (va_Pc [.int (nI x)] (zPe g E0 z)) (va_Qi (fun r _ => r = 1) (zQe g (fun _ : Unit => E0) z) (sw_A g)) 0 0 (sw_A g) := by
  refine je_met (by decide) (Nat.le_of_ble_eq_true rfl) ?_
  intro p e s m args below meth c ls hx hb hr hts hown hml hlocks hnm hW hl
  have hown : s.vm.findClass RJ1 = some m.cls := hown
  have hl : lv_has ls 1 [(0, .int (nI x))] := hl
  have hF := hW.2.2.2
  refine lv_iload_n hx hb dJ1_canEncode_fc78d_0 rfl (lv_at hl 0 rfl) ?_
  refine lv_sipush (v := 255) hx hb dJ1_canEncode_fc78d_1 (by decide) ?_
  refine lv_icmp_gt (tgt := 11) hx hb dJ1_canEncode_fc78d_4 (by decide) (fun k => absurd k (nI_ncan hx0)) (fun _ => ?_)
  refine lv_iconst (v := 1) hx hb dJ1_canEncode_fc78d_7 (by decide) ?_
  refine lv_goto (tgt := 12) hx hb dJ1_canEncode_fc78d_8 (by decide) ?_
  exact je_ri () hx hb hr hlocks hW (by decide) rfl dJ1_canEncode_fc78d_12
theorem ct_J8_newLength_cabcc : sw_cS yJ8_newLength_cabcc cJ8_newLength_cabcc 4 (some .int) 3 := ⟨q_811, q_26, q_812, by decide +kernel⟩
theorem ka_newlen (l : Launch) (g : sG) (z : zG) (x1 x2 x3 : Nat) (ha : x1 ≤ 1000) (hb0 : x2 ≤ 1000) (hc0 : x3 ≤ 1000) (hab : 0 < x1 + max x2 x3) (E0 : va_W) : Met l yJ8_newLength_cabcc (sw_ws yJ8_newLength_cabcc cJ8_newLength_cabcc 4 (some .int)) { frames := 1, cells := 0, slots := 0, locals := 40 } (va_Pc [.int (nI x1), .int (nI x2), .int (nI x3)] (zPe g E0 z)) (va_Qi (fun r _ => r = nI (x1 + max x2 x3)) (zQe g (fun _ : Unit => E0) z) (sw_A g)) 0 0 (sw_A g) := by
  refine je_met (by decide) (Nat.le_of_ble_eq_true rfl) ?_
  intro p e s m args below meth c ls hx hb hr hts hown hml hlocks hnm hW hl
  have hown : s.vm.findClass RJ8 = some m.cls := hown
  have hl : lv_has ls 4 [(0, .int (nI x1)), (1, .int (nI x2)), (2, .int (nI x3))] := hl
  have hF := hW.2.2.2
  refine lv_iload_n hx hb dJ8_newLength_cabcc_0 rfl (lv_at hl 0 rfl) ?_
  refine lv_iload_n hx hb dJ8_newLength_cabcc_1 rfl (lv_at hl 1 rfl) ?_
  refine lv_iload_n hx hb dJ8_newLength_cabcc_2 rfl (lv_at hl 2 rfl) ?_
  refine va_mmax hx hb (hml.trans hl.1.symm) hown (sw_w hts q_813) (sw_w hts q_443) (sw_w hts q_17) (sw_w hts q_444) (Nat.le_of_ble_eq_true rfl) (Nat.le_of_ble_eq_true rfl) (Nat.le_of_ble_eq_true rfl) (Nat.le_of_ble_eq_true rfl) dJ8_newLength_cabcc_3 ?_
  rw [show (if nI x2 < nI x3 then nI x3 else nI x2) = nI (max x2 x3) by
    by_cases h : x2 < x3
    · rw [if_pos (nI_lt h (by omega)), Nat.max_eq_right (by omega)]
    · rw [if_neg (nI_nlt (by omega) (by omega)), Nat.max_eq_left (by omega)]]
  refine lv_iadd hx hb dJ8_newLength_cabcc_6 ?_
  rw [show ((nI x1) + (nI (max x2 x3)) : Int32) = nI (x1 + max x2 x3) from nI_add _ _]
  refine lv_istore_n (lv' := [(3, .int (nI (x1 + max x2 x3))), (0, .int (nI x1)), (1, .int (nI x2)), (2, .int (nI x3))]) hx hb dJ8_newLength_cabcc_7 rfl hl (Nat.le_of_ble_eq_true rfl) rfl (fun ls hl => ?_)
  refine lv_iconst (v := 0) hx hb dJ8_newLength_cabcc_8 (by decide) ?_
  refine lv_iload_n hx hb dJ8_newLength_cabcc_9 rfl (lv_at hl 0 rfl) ?_
  refine lv_icmp_ge (tgt := 21) hx hb dJ8_newLength_cabcc_10 (by decide) (fun k => absurd k (show ¬ (0 : Int32) ≥ nI (x1 + max x2 x3) from nI_nle hab (by omega))) (fun _ => ?_)
  refine lv_iload_n hx hb dJ8_newLength_cabcc_13 rfl (lv_at hl 0 rfl) ?_
  refine lv_ldc hx hb hown (sw_w hts q_814) dJ8_newLength_cabcc_14 ?_
  refine lv_icmp_gt (tgt := 21) hx hb dJ8_newLength_cabcc_16 (by decide) (fun k => absurd k (show ¬ (nI (x1 + max x2 x3) > (2147483639 : Int32)) from nI_nhuge (by omega))) (fun _ => ?_)
  refine lv_iload_n hx hb dJ8_newLength_cabcc_19 rfl (lv_at hl 0 rfl) ?_
  exact je_ri () hx hb hr hlocks hW rfl rfl dJ8_newLength_cabcc_20
