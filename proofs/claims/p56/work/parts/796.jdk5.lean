/-! Strings: length, bytes, append. -/
theorem cw_J0_getBytes_840e7 : sw_cV yJ0_getBytes_840e7 RJ0 cJ0_getBytes_840e7 4 none 3 := ⟨q_892, q_893, q_19, q_894, by decide +kernel⟩
theorem cu_J5_inflateIfNeededFor_a7421 : je_cU yJ5_inflateIfNeededFor_a7421 yJ5_inflateIfNeededFor_a7421 cJ5_inflateIfNeededFor_a7421 2 none 1 := ⟨qs_inflif, q_870, q_23, q_871, rfl, by decide +kernel⟩
theorem cu_J5_putStringAt_47b60 : je_cU yJ5_putStringAt_47b60 yJ5_putStringAt_47b60 cJ5_putStringAt_47b60 3 none 2 := ⟨qs_put, q_867, q_23, q_868, rfl, by decide +kernel⟩
theorem cx_J5_append_cf1ce : je_cSU yJ5_append_cf1ce cJ5_append_cf1ce 3 (some (.object "java/lang/AbstractStringBuilder")) 1 := ⟨qs_appS, qu_B, q_799, q_23, q_800, by decide +kernel⟩
theorem kb_coderC (l : Launch) (g : sG) (z : zG) (i : Nat) (hi : i < 18) (E : va_W) : Met l yJ0_coder_7d493 (sw_ws yJ0_coder_7d493 cJ0_coder_7d493 1 (some .byte)) { frames := 0, cells := 0, slots := 0, locals := 0 } (va_Pc [.ref (sw_sk g i)] (zPe g E z)) (va_Qi (fun r _ => r = 0) (zQe g (fun _ : Unit => E) z) (sw_A g)) 0 0 (sw_A g) := by
  refine je_met (by decide) (Nat.le_of_ble_eq_true rfl) ?_
  intro p e s m args below meth c ls hx hb hr hts hown hml hlocks hnm hW hl
  have hown : s.vm.findClass RJ0 = some m.cls := hown
  have hl : lv_has ls 1 [(0, .ref (sw_sk g i))] := hl
  have hF := hW.2.2.2
  refine va_gets hx hb hF.2.2.2.2.2.1.1 hW.2.2.1 hown (sw_w hts q_865) (fun _ h => h) dJ0_coder_7d493_0 ?_
  refine lv_if_eq (tgt := 13) hx hb dJ0_coder_7d493_3 (by decide) (fun k => absurd k (by decide)) (fun _ => ?_)
  refine lv_aload_n hx hb dJ0_coder_7d493_6 rfl (lv_at hl 0 rfl) ?_
  refine vk_getf hx hb (hF.2.2.2.2.2.2.1 i hi).2.1 hW.2.2.1 hown (sw_w hts q_999) (fun _ h => h) dJ0_coder_7d493_7 ?_
  refine lv_goto (tgt := 14) hx hb dJ0_coder_7d493_10 (by decide) ?_
  exact je_ri () hx hb hr hlocks hW (by decide) rfl dJ0_coder_7d493_14
theorem kb_lenC (l : Launch) (g : sG) (z : zG) (i : Nat) (hi : i < 18) (E : va_W) : Met l yJ0_length_8abf5 (sw_ws yJ0_length_8abf5 cJ0_length_8abf5 1 (some .int)) { frames := 1, cells := 0, slots := 0, locals := 20 } (va_Pc [.ref (sw_sk g i)] (zPe g E z)) (va_Qi (fun r _ => r = nI (zsb i).length) (zQe g (fun _ : Unit => E) z) (sw_A g)) 0 0 (sw_A g) := by
  refine je_met (by decide) (Nat.le_of_ble_eq_true rfl) ?_
  intro p e s m args below meth c ls hx hb hr hts hown hml hlocks hnm hW hl
  have hown : s.vm.findClass RJ0 = some m.cls := hown
  have hl : lv_has ls 1 [(0, .ref (sw_sk g i))] := hl
  have hF := hW.2.2.2
  refine lv_aload_n hx hb dJ0_length_8abf5_0 rfl (lv_at hl 0 rfl) ?_
  refine vk_getf hx hb (hF.2.2.2.2.2.2.1 i hi).2.2.1 hW.2.2.1 hown (sw_w hts q_998) (fun _ h => h) dJ0_length_8abf5_1 ?_
  refine va_tlen (v := nI (zsb i).length) hx hb (hF.2.2.2.2.2.2.1 i hi).2.2.2.1 hW.2.2.1 (by rw [zsb_sblen hi]; rfl) dJ0_length_8abf5_4 ?_
  refine lv_aload_n hx hb dJ0_length_8abf5_5 rfl (lv_at hl 0 rfl) ?_
  refine je_ki (rest := [.int (nI (zsb i).length)]) (je_runVs (t := i) (As := []) (rest := [.int (nI (zsb i).length)]) hx hb hml hown hts (kb_coderC l g z i hi E) cv_J0_coder_7d493 q_861 rfl rfl ⟨(Nat.le_of_ble_eq_true rfl), (Nat.le_of_ble_eq_true rfl)⟩ hW hi rfl hl.1 rfl (Nat.le_of_ble_eq_true rfl) dJ0_length_8abf5_6 ⟨(Nat.le_of_ble_eq_true rfl), (Nat.le_of_ble_eq_true rfl)⟩) hW (fun r u H locs h9 hW => ?_)
  subst h9
  refine lv_ishr hx hb dJ0_length_8abf5_9 ?_
  rw [sw_shr0]
  exact je_ri () hx hb hr hlocks hW rfl rfl dJ0_length_8abf5_10
theorem kb_getbC (l : Launch) (g : sG) (z : zG) (q b n cap : Nat) (t : List Nat) (i : Nat) (hi : i < 18) (hc1 : cap ≤ 128) (hn1 : t.length + (zsb i).length ≤ cap) (E0 : va_W) : Met l yJ0_getBytes_840e7 (sw_ws yJ0_getBytes_840e7 cJ0_getBytes_840e7 4 none) { frames := 1, cells := 0, slots := 0, locals := 60 } (va_Pc [.ref (sw_sk g i), .ref b, .int (nI t.length), .int (0 : Int32)] (zPe g ((q, zSo g b n) :: (b, zBb g cap t) :: E0) z)) (va_Qv (fun _ => True) (zQe g (fun _ : Unit => zT2 g q b n cap (t ++ (zsb i)) E0) z) (sw_A g)) 0 0 (sw_A g) := by
  refine je_met (by decide) (Nat.le_of_ble_eq_true rfl) ?_
  intro p e s m args below meth c ls hx hb hr hts hown hml hlocks hnm hW hl
  have hown : s.vm.findClass RJ0 = some m.cls := hown
  have hl : lv_has ls 4 [(0, .ref (sw_sk g i)), (1, .ref b), (2, .int (nI t.length)), (3, .int (0 : Int32))] := hl
  have hF := hW.2.2.2
  refine lv_aload_n hx hb dJ0_getBytes_840e7_0 rfl (lv_at hl 0 rfl) ?_
  refine je_ki (rest := []) (je_runVs (t := i) (As := []) (rest := []) hx hb hml hown hts (kb_coderC l g z i hi (zT2 g q b n cap t E0)) cv_J0_coder_7d493 q_861 rfl rfl ⟨(Nat.le_of_ble_eq_true rfl), (Nat.le_of_ble_eq_true rfl)⟩ hW hi rfl hl.1 rfl (Nat.le_of_ble_eq_true rfl) dJ0_getBytes_840e7_1 ⟨(Nat.le_of_ble_eq_true rfl), (Nat.le_of_ble_eq_true rfl)⟩) hW (fun r u H locs h9 hW => ?_)
  subst h9
  have hW : zl_Wd g ((q, zSo g b n) :: (b, zBb g cap t) :: E0) z s H locs := hW
  refine lv_iload_n hx hb dJ0_getBytes_840e7_4 rfl (lv_at hl 3 rfl) ?_
  refine lv_icmp_ne (tgt := 28) hx hb dJ0_getBytes_840e7_5 (by decide) (fun k => absurd rfl k) (fun _ => ?_)
  refine lv_aload_n hx hb dJ0_getBytes_840e7_8 rfl (lv_at hl 0 rfl) ?_
  refine vk_getf hx hb (hF.2.2.2.2.2.2.1 i hi).2.2.1 hW.2.2.1 hown (sw_w hts q_998) (fun _ h => h) dJ0_getBytes_840e7_9 ?_
  refine lv_iconst (v := 0) hx hb dJ0_getBytes_840e7_12 (by decide) ?_
  refine lv_aload_n hx hb dJ0_getBytes_840e7_13 rfl (lv_at hl 1 rfl) ?_
  refine lv_iload_n hx hb dJ0_getBytes_840e7_14 rfl (lv_at hl 2 rfl) ?_
  refine lv_iload_n hx hb dJ0_getBytes_840e7_15 rfl (lv_at hl 3 rfl) ?_
  refine lv_ishl hx hb dJ0_getBytes_840e7_16 ?_
  rw [sw_shl0]
  refine lv_aload_n hx hb dJ0_getBytes_840e7_17 rfl (lv_at hl 0 rfl) ?_
  refine vk_getf hx hb (hF.2.2.2.2.2.2.1 i hi).2.2.1 hW.2.2.1 hown (sw_w hts q_998) (fun _ h => h) dJ0_getBytes_840e7_18 ?_
  refine va_tlen (v := nI (zsb i).length) hx hb (hF.2.2.2.2.2.2.1 i hi).2.2.2.1 hW.2.2.1 (by rw [zsb_sblen hi]; rfl) dJ0_getBytes_840e7_21 ?_
  refine je_copyt (dp := t.length) (rest := []) hx hb hml hl.1 hown hts q_895 q_830 q_829 q_28 hW hi 1 rfl (by omega) (by omega) (Nat.le_of_ble_eq_true rfl) (Nat.le_of_ble_eq_true rfl) dJ0_getBytes_840e7_22 (fun H locs hW => ?_)
  replace hW := je_arr (i := 1) (f' := fun j => nI ((t ++ (zsb i)).getD j 0)) (fun j _ => zcpy (fun j _ => zsb_at hi j) j) rfl hW
  have hW : zl_Wd g (zT2 g q b n cap (t ++ (zsb i)) E0) z s H locs := hW
  refine lv_goto (tgt := 43) hx hb dJ0_getBytes_840e7_25 (by decide) ?_
  exact je_rv () hx hb hr hlocks hW trivial dJ0_getBytes_840e7_43
theorem kb_infC (l : Launch) (g : sG) (z : zG) (q b n : Nat) (i : Nat) (hi : i < 18) (E0 : va_W) : Met l yJ5_inflateIfNeededFor_a7421 (sw_ws yJ5_inflateIfNeededFor_a7421 cJ5_inflateIfNeededFor_a7421 2 none) { frames := 1, cells := 0, slots := 0, locals := 20 } (va_Pc [.ref q, .ref (sw_sk g i)] (zPe g ((q, zSo g b n) :: E0) z)) (va_Qv (fun _ => True) (zQe g (fun _ : Unit => (q, zSo g b n) :: E0) z) (sw_A g)) 0 0 (sw_A g) := by
  refine je_met (by decide) (Nat.le_of_ble_eq_true rfl) ?_
  intro p e s m args below meth c ls hx hb hr hts hown hml hlocks hnm hW hl
  have hown : s.vm.findClass RJ5 = some m.cls := hown
  have hl : lv_has ls 2 [(0, .ref q), (1, .ref (sw_sk g i))] := hl
  have hF := hW.2.2.2
  refine va_gets hx hb hF.2.2.2.2.2.1.1 hW.2.2.1 hown (sw_w hts q_782) (fun _ h => h) dJ5_inflateIfNeededFor_a7421_0 ?_
  refine lv_if_eq (tgt := 21) hx hb dJ5_inflateIfNeededFor_a7421_3 (by decide) (fun k => absurd k (by decide)) (fun _ => ?_)
  refine lv_aload_n hx hb dJ5_inflateIfNeededFor_a7421_6 rfl (lv_at hl 0 rfl) ?_
  refine je_get hx hb hts qf_B hown hW 0 rfl rfl 1 (by decide) q_791 rfl rfl dJ5_inflateIfNeededFor_a7421_7 ?_
  refine lv_aload_n hx hb dJ5_inflateIfNeededFor_a7421_10 rfl (lv_at hl 1 rfl) ?_
  refine je_ki (rest := [.int (0 : Int32)]) (je_runVs (t := i) (As := []) (rest := [.int (0 : Int32)]) hx hb hml hown hts (kb_coderC l g z i hi ((q, zSo g b n) :: E0)) cv_J0_coder_7d493 q_872 rfl rfl ⟨(Nat.le_of_ble_eq_true rfl), (Nat.le_of_ble_eq_true rfl)⟩ hW hi rfl hl.1 rfl (Nat.le_of_ble_eq_true rfl) dJ5_inflateIfNeededFor_a7421_11 ⟨(Nat.le_of_ble_eq_true rfl), (Nat.le_of_ble_eq_true rfl)⟩) hW (fun r u H locs h9 hW => ?_)
  subst h9
  have hW : zl_Wd g ((q, zSo g b n) :: E0) z s H locs := hW
  refine lv_icmp_eq (tgt := 21) hx hb dJ5_inflateIfNeededFor_a7421_14 (by decide) (fun _ => ?_) (fun k => absurd rfl k)
  exact je_rv () hx hb hr hlocks hW trivial dJ5_inflateIfNeededFor_a7421_21
theorem kb_putC (l : Launch) (g : sG) (z : zG) (q b n cap : Nat) (t : List Nat) (i : Nat) (hi : i < 18) (hc1 : cap ≤ 128) (hn1 : t.length + (zsb i).length ≤ cap) (E0 : va_W) : Met l yJ5_putStringAt_47b60 (sw_ws yJ5_putStringAt_47b60 cJ5_putStringAt_47b60 3 none) { frames := 2, cells := 0, slots := 0, locals := 100 } (va_Pc [.ref q, .int (nI t.length), .ref (sw_sk g i)] (zPe g ((q, zSo g b n) :: (b, zBb g cap t) :: E0) z)) (va_Qv (fun _ => True) (zQe g (fun _ : Unit => zT2 g q b n cap (t ++ (zsb i)) E0) z) (sw_A g)) 0 0 (sw_A g) := by
  refine je_met (by decide) (Nat.le_of_ble_eq_true rfl) ?_
  intro p e s m args below meth c ls hx hb hr hts hown hml hlocks hnm hW hl
  have hown : s.vm.findClass RJ5 = some m.cls := hown
  have hl : lv_has ls 3 [(0, .ref q), (1, .int (nI t.length)), (2, .ref (sw_sk g i))] := hl
  have hF := hW.2.2.2
  refine lv_aload_n hx hb dJ5_putStringAt_47b60_0 rfl (lv_at hl 0 rfl) ?_
  refine lv_aload_n hx hb dJ5_putStringAt_47b60_1 rfl (lv_at hl 2 rfl) ?_
  refine je_kv (rest := []) (je_runU (i := 0) (As := [.ref (sw_sk g i)]) (rest := []) hx hb hml hown hts (kb_infC l g z q b n i hi ((b, zBb g cap t) :: E0)) cu_J5_inflateIfNeededFor_a7421 (je_sel hts hW rfl qp_inflif q_870 qs_inflif) q_869 rfl rfl ⟨(Nat.le_of_ble_eq_true rfl), (Nat.le_of_ble_eq_true rfl)⟩ hW rfl rfl hl.1 rfl (Nat.le_of_ble_eq_true rfl) dJ5_putStringAt_47b60_2 ⟨(Nat.le_of_ble_eq_true rfl), (Nat.le_of_ble_eq_true rfl)⟩) hW (fun u H locs h9 hW => ?_)
  have hW : zl_Wd g ((q, zSo g b n) :: (b, zBb g cap t) :: E0) z s H locs := hW
  refine lv_aload_n hx hb dJ5_putStringAt_47b60_5 rfl (lv_at hl 2 rfl) ?_
  refine lv_aload_n hx hb dJ5_putStringAt_47b60_6 rfl (lv_at hl 0 rfl) ?_
  refine je_get hx hb hts qf_B hown hW 0 rfl rfl 0 (by decide) q_790 rfl rfl dJ5_putStringAt_47b60_7 ?_
  refine lv_iload_n hx hb dJ5_putStringAt_47b60_10 rfl (lv_at hl 1 rfl) ?_
  refine lv_aload_n hx hb dJ5_putStringAt_47b60_11 rfl (lv_at hl 0 rfl) ?_
  refine je_get hx hb hts qf_B hown hW 0 rfl rfl 1 (by decide) q_791 rfl rfl dJ5_putStringAt_47b60_12 ?_
  refine je_kv (rest := []) (je_runVs (t := i) (As := [.ref b, .int (nI t.length), .int (0 : Int32)]) (rest := []) hx hb hml hown hts (kb_getbC l g z q b n cap t i hi hc1 hn1 E0) cw_J0_getBytes_840e7 q_891 rfl rfl ⟨(Nat.le_of_ble_eq_true rfl), (Nat.le_of_ble_eq_true rfl)⟩ hW hi rfl hl.1 rfl (Nat.le_of_ble_eq_true rfl) dJ5_putStringAt_47b60_15 ⟨(Nat.le_of_ble_eq_true rfl), (Nat.le_of_ble_eq_true rfl)⟩) hW (fun u H locs h9 hW => ?_)
  exact je_rv () hx hb hr hlocks hW trivial dJ5_putStringAt_47b60_18
theorem kb_appC (l : Launch) (g : sG) (z : zG) (q b cap : Nat) (t : List Nat) (i : Nat) (hi : i < 18) (hc1 : cap ≤ 128) (hn1 : t.length + (zsb i).length ≤ 64) (ht : zlat t) (htl : t.length ≤ cap) (E0 : va_W) : Met l yJ5_append_cf1ce (sw_ws yJ5_append_cf1ce cJ5_append_cf1ce 3 (some (.object "java/lang/AbstractStringBuilder"))) { frames := 4, cells := 1, slots := 128, locals := 160 } (va_Pc [.ref q, .ref (sw_sk g i)] (zPe g ((q, zSo g b t.length) :: (b, zBb g cap t) :: E0) z)) (je_Qr g (fun u : Nat × Nat => zT2 g q u.1 (t ++ (zsb i)).length u.2 (t ++ (zsb i)) E0) (fun _ => q) z (fun u => zbd (t ++ (zsb i)) u.2)) 1 128 (sw_A g) := by
  refine je_met (by decide) (Nat.le_of_ble_eq_true rfl) ?_
  intro p e s m args below meth c ls hx hb hr hts hown hml hlocks hnm hW hl
  have hown : s.vm.findClass RJ5 = some m.cls := hown
  have hl : lv_has ls 3 [(0, .ref q), (1, .ref (sw_sk g i))] := hl
  have hF := hW.2.2.2
  refine lv_aload_n hx hb dJ5_append_cf1ce_0 rfl (lv_at hl 1 rfl) ?_
  refine lv_ifnonnull (tgt := 9) hx hb dJ5_append_cf1ce_1 (by decide) ?_
  refine lv_aload_n hx hb dJ5_append_cf1ce_9 rfl (lv_at hl 1 rfl) ?_
  refine je_ki (rest := []) (je_runVs (t := i) (As := []) (rest := []) hx hb hml hown hts (kb_lenC l g z i hi (zT2 g q b t.length cap t E0)) cv_J0_length_8abf5 q_857 rfl rfl ⟨(Nat.le_of_ble_eq_true rfl), (Nat.le_of_ble_eq_true rfl)⟩ hW hi rfl hl.1 rfl (Nat.le_of_ble_eq_true rfl) dJ5_append_cf1ce_10 ⟨(Nat.le_of_ble_eq_true rfl), (Nat.le_of_ble_eq_true rfl)⟩) hW (fun r u H locs h9 hW => ?_)
  subst h9
  have hW : zl_Wd g ((q, zSo g b t.length) :: (b, zBb g cap t) :: E0) z s H locs := hW
  refine lv_istore_n (lv' := [(2, .int (nI (zsb i).length)), (0, .ref q), (1, .ref (sw_sk g i))]) hx hb dJ5_append_cf1ce_13 rfl hl (Nat.le_of_ble_eq_true rfl) rfl (fun ls hl => ?_)
  refine lv_aload_n hx hb dJ5_append_cf1ce_14 rfl (lv_at hl 1 rfl) ?_
  refine lv_aload_n hx hb dJ5_append_cf1ce_15 rfl (lv_at hl 1 rfl) ?_
  refine je_get hx hb hts qf_B hown hW 0 rfl rfl 3 (by decide) q_793 rfl rfl dJ5_append_cf1ce_16 ?_
  refine lv_iload_n hx hb dJ5_append_cf1ce_19 rfl (lv_at hl 0 rfl) ?_
  refine lv_iadd hx hb dJ5_append_cf1ce_20 ?_
  rw [show ((nI t.length) + (nI (zsb i).length) : Int32) = nI (t.length + (zsb i).length) from nI_add _ _]
  refine je_kv (rest := []) (je_runU (i := 0) (As := [.int (nI (t.length + (zsb i).length))]) (rest := []) hx hb hml hown hts (ka_ensure l g z q b t.length cap (t.length + (zsb i).length) t hc1 hn1 ht htl E0) cu_J5_ensureCapacityInternal_d00df (je_sel_ensure hts hW) q_804 rfl rfl ⟨(Nat.le_of_ble_eq_true rfl), (Nat.le_of_ble_eq_true rfl)⟩ hW rfl rfl hl.1 rfl (Nat.le_of_ble_eq_true rfl) dJ5_append_cf1ce_21 ⟨(Nat.le_of_ble_eq_true rfl), (Nat.le_of_ble_eq_true rfl)⟩) hW (fun u H locs h9 hW => ?_)
  obtain ⟨b1, c1⟩ := u
  obtain ⟨h3, h4, h5⟩ := h9
  replace h3 : t.length + (zsb i).length ≤ c1 := h3
  replace h4 : c1 ≤ 128 := h4
  replace h5 : t.length ≤ c1 := h5
  have hW : zl_Wd g ((q, zSo g b1 t.length) :: (b1, zBb g c1 t) :: E0) z s H locs := hW
  refine lv_aload_n hx hb dJ5_append_cf1ce_24 rfl (lv_at hl 1 rfl) ?_
  refine lv_aload_n hx hb dJ5_append_cf1ce_25 rfl (lv_at hl 1 rfl) ?_
  refine je_get hx hb hts qf_B hown hW 0 rfl rfl 3 (by decide) q_793 rfl rfl dJ5_append_cf1ce_26 ?_
  refine lv_aload_n hx hb dJ5_append_cf1ce_29 rfl (lv_at hl 2 rfl) ?_
  refine je_kv (rest := []) (je_runU (i := 0) (As := [.int (nI t.length), .ref (sw_sk g i)]) (rest := []) hx hb hml hown hts (kb_putC l g z q b1 t.length c1 t i hi h4 h3 E0) cu_J5_putStringAt_47b60 (je_sel hts hW rfl qp_put q_867 qs_put) q_866 rfl rfl ⟨(Nat.le_of_ble_eq_true rfl), (Nat.le_of_ble_eq_true rfl)⟩ hW rfl rfl hl.1 rfl (Nat.le_of_ble_eq_true rfl) dJ5_append_cf1ce_30 ⟨(Nat.le_of_ble_eq_true rfl), (Nat.le_of_ble_eq_true rfl)⟩) hW (fun u H locs h9 hW => ?_)
  have hW : zl_Wd g ((q, zSo g b1 t.length) :: (b1, zBb g c1 (t ++ (zsb i))) :: E0) z s H locs := hW
  refine lv_aload_n hx hb dJ5_append_cf1ce_33 rfl (lv_at hl 1 rfl) ?_
  refine lv_dup hx hb dJ5_append_cf1ce_34 rfl ?_
  refine je_get hx hb hts qf_B hown hW 0 rfl rfl 3 (by decide) q_793 rfl rfl dJ5_append_cf1ce_35 ?_
  refine lv_iload_n hx hb dJ5_append_cf1ce_38 rfl (lv_at hl 0 rfl) ?_
  refine lv_iadd hx hb dJ5_append_cf1ce_39 ?_
  rw [show ((nI t.length) + (nI (zsb i).length) : Int32) = nI (t.length + (zsb i).length) from nI_add _ _]
  refine je_putG hx hb hts qf_B tyJ4 tyJ4_ok nmJ4 hown hW 0 rfl rfl 3 (by decide) q_793 rfl (Or.inl rfl) rfl rfl (Nat.le_of_ble_eq_true rfl) dJ5_append_cf1ce_40 (fun H locs hW => ?_)
  have hW : zl_Wd g ((q, zSo g b1 (t.length + (zsb i).length)) :: (b1, zBb g c1 (t ++ (zsb i))) :: E0) z s H locs := hW
  rw [← List.length_append] at hW
  refine lv_aload_n hx hb dJ5_append_cf1ce_43 rfl (lv_at hl 1 rfl) ?_
  refine W.widen (k := 1) (n := 128) (by omega) (by omega) ?_
  exact je_ra (b1, c1) hx hb hr (Or.inl ⟨_, rfl⟩) hlocks hW ⟨h4, by rw [List.length_append]; exact h3⟩ rfl dJ5_append_cf1ce_44
theorem kb_coderD (l : Launch) (g : sG) (z : zG) (i1 i2 v w : Nat) (x : List Nat) (E : va_W) (hv : E[i1]? = some (v, zTo g w)) : Met l yJ0_coder_7d493 (sw_ws yJ0_coder_7d493 cJ0_coder_7d493 1 (some .byte)) { frames := 0, cells := 0, slots := 0, locals := 0 } (va_Pc [.ref v] (zPe g E z)) (va_Qi (fun r _ => r = 0) (zQe g (fun _ : Unit => E) z) (sw_A g)) 0 0 (sw_A g) := by
  refine je_met (by decide) (Nat.le_of_ble_eq_true rfl) ?_
  intro p e s m args below meth c ls hx hb hr hts hown hml hlocks hnm hW hl
  have hown : s.vm.findClass RJ0 = some m.cls := hown
  have hl : lv_has ls 1 [(0, .ref v)] := hl
  have hF := hW.2.2.2
  refine va_gets hx hb hF.2.2.2.2.2.1.1 hW.2.2.1 hown (sw_w hts q_865) (fun _ h => h) dJ0_coder_7d493_0 ?_
  refine lv_if_eq (tgt := 13) hx hb dJ0_coder_7d493_3 (by decide) (fun k => absurd k (by decide)) (fun _ => ?_)
  refine lv_aload_n hx hb dJ0_coder_7d493_6 rfl (lv_at hl 0 rfl) ?_
  refine je_get hx hb hts qf_J hown hW i1 (show (E)[i1]? = some (v, zTo g w) from hv) rfl 1 (by decide) q_999 rfl rfl dJ0_coder_7d493_7 ?_
  refine lv_goto (tgt := 14) hx hb dJ0_coder_7d493_10 (by decide) ?_
  exact je_ri () hx hb hr hlocks hW (by decide) rfl dJ0_coder_7d493_14
theorem kb_lenD (l : Launch) (g : sG) (z : zG) (i1 i2 v w : Nat) (x : List Nat) (E : va_W) (hv : E[i1]? = some (v, zTo g w)) (hw : E[i2]? = some (w, zTb g x)) : Met l yJ0_length_8abf5 (sw_ws yJ0_length_8abf5 cJ0_length_8abf5 1 (some .int)) { frames := 1, cells := 0, slots := 0, locals := 20 } (va_Pc [.ref v] (zPe g E z)) (va_Qi (fun r _ => r = nI x.length) (zQe g (fun _ : Unit => E) z) (sw_A g)) 0 0 (sw_A g) := by
  refine je_met (by decide) (Nat.le_of_ble_eq_true rfl) ?_
  intro p e s m args below meth c ls hx hb hr hts hown hml hlocks hnm hW hl
  have hown : s.vm.findClass RJ0 = some m.cls := hown
  have hl : lv_has ls 1 [(0, .ref v)] := hl
  have hF := hW.2.2.2
  refine lv_aload_n hx hb dJ0_length_8abf5_0 rfl (lv_at hl 0 rfl) ?_
  refine je_get hx hb hts qf_J hown hW i1 (show (E)[i1]? = some (v, zTo g w) from hv) rfl 0 (by decide) q_998 rfl rfl dJ0_length_8abf5_1 ?_
  refine je_alen hx hb hW i2 (show (E)[i2]? = some (w, zBb g x.length x) from hw) dJ0_length_8abf5_4 ?_
  refine lv_aload_n hx hb dJ0_length_8abf5_5 rfl (lv_at hl 0 rfl) ?_
  refine je_ki (rest := [.int (nI x.length)]) (je_runV (i := i1) (As := []) (rest := [.int (nI x.length)]) hx hb hml hown hts (kb_coderD l g z i1 i2 v w x E (show (E)[i1]? = some (v, zTo g w) from hv)) cv_J0_coder_7d493 q_861 rfl rfl ⟨(Nat.le_of_ble_eq_true rfl), (Nat.le_of_ble_eq_true rfl)⟩ hW (show (E)[i1]? = some (v, zTo g w) from hv) rfl rfl hl.1 rfl (Nat.le_of_ble_eq_true rfl) dJ0_length_8abf5_6 ⟨(Nat.le_of_ble_eq_true rfl), (Nat.le_of_ble_eq_true rfl)⟩) hW (fun r u H locs h9 hW => ?_)
  subst h9
  refine lv_ishr hx hb dJ0_length_8abf5_9 ?_
  rw [sw_shr0]
  exact je_ri () hx hb hr hlocks hW rfl rfl dJ0_length_8abf5_10
theorem kb_getbD (l : Launch) (g : sG) (z : zG) (q b n cap : Nat) (t : List Nat) (i1 i2 v w : Nat) (x : List Nat) (hc1 : cap ≤ 128) (hn1 : t.length + x.length ≤ cap) (hxx : zlat x) (E0 : va_W) (hv : E0[i1]? = some (v, zTo g w)) (hw : E0[i2]? = some (w, zTb g x)) : Met l yJ0_getBytes_840e7 (sw_ws yJ0_getBytes_840e7 cJ0_getBytes_840e7 4 none) { frames := 1, cells := 0, slots := 0, locals := 60 } (va_Pc [.ref v, .ref b, .int (nI t.length), .int (0 : Int32)] (zPe g ((q, zSo g b n) :: (b, zBb g cap t) :: E0) z)) (va_Qv (fun _ => True) (zQe g (fun _ : Unit => zT2 g q b n cap (t ++ x) E0) z) (sw_A g)) 0 0 (sw_A g) := by
  refine je_met (by decide) (Nat.le_of_ble_eq_true rfl) ?_
  intro p e s m args below meth c ls hx hb hr hts hown hml hlocks hnm hW hl
  have hown : s.vm.findClass RJ0 = some m.cls := hown
  have hl : lv_has ls 4 [(0, .ref v), (1, .ref b), (2, .int (nI t.length)), (3, .int (0 : Int32))] := hl
  have hF := hW.2.2.2
  refine lv_aload_n hx hb dJ0_getBytes_840e7_0 rfl (lv_at hl 0 rfl) ?_
  refine je_ki (rest := []) (je_runV (i := (i1 + 2)) (As := []) (rest := []) hx hb hml hown hts (kb_coderD l g z (i1 + 2) i2 v w x (zT2 g q b n cap t E0) (show ((zT2 g q b n cap t E0))[(i1 + 2)]? = some (v, zTo g w) from hv)) cv_J0_coder_7d493 q_861 rfl rfl ⟨(Nat.le_of_ble_eq_true rfl), (Nat.le_of_ble_eq_true rfl)⟩ hW (show ((q, zSo g b n) :: (b, zBb g cap t) :: E0)[(i1 + 2)]? = some (v, zTo g w) from hv) rfl rfl hl.1 rfl (Nat.le_of_ble_eq_true rfl) dJ0_getBytes_840e7_1 ⟨(Nat.le_of_ble_eq_true rfl), (Nat.le_of_ble_eq_true rfl)⟩) hW (fun r u H locs h9 hW => ?_)
  subst h9
  have hW : zl_Wd g ((q, zSo g b n) :: (b, zBb g cap t) :: E0) z s H locs := hW
  refine lv_iload_n hx hb dJ0_getBytes_840e7_4 rfl (lv_at hl 3 rfl) ?_
  refine lv_icmp_ne (tgt := 28) hx hb dJ0_getBytes_840e7_5 (by decide) (fun k => absurd rfl k) (fun _ => ?_)
  refine lv_aload_n hx hb dJ0_getBytes_840e7_8 rfl (lv_at hl 0 rfl) ?_
  refine je_get hx hb hts qf_J hown hW (i1 + 2) (show ((q, zSo g b n) :: (b, zBb g cap t) :: E0)[(i1 + 2)]? = some (v, zTo g w) from hv) rfl 0 (by decide) q_998 rfl rfl dJ0_getBytes_840e7_9 ?_
  refine lv_iconst (v := 0) hx hb dJ0_getBytes_840e7_12 (by decide) ?_
  refine lv_aload_n hx hb dJ0_getBytes_840e7_13 rfl (lv_at hl 1 rfl) ?_
  refine lv_iload_n hx hb dJ0_getBytes_840e7_14 rfl (lv_at hl 2 rfl) ?_
  refine lv_iload_n hx hb dJ0_getBytes_840e7_15 rfl (lv_at hl 3 rfl) ?_
  refine lv_ishl hx hb dJ0_getBytes_840e7_16 ?_
  rw [sw_shl0]
  refine lv_aload_n hx hb dJ0_getBytes_840e7_17 rfl (lv_at hl 0 rfl) ?_
  refine je_get hx hb hts qf_J hown hW (i1 + 2) (show ((q, zSo g b n) :: (b, zBb g cap t) :: E0)[(i1 + 2)]? = some (v, zTo g w) from hv) rfl 0 (by decide) q_998 rfl rfl dJ0_getBytes_840e7_18 ?_
  refine je_alen hx hb hW (i2 + 2) (show ((q, zSo g b n) :: (b, zBb g cap t) :: E0)[(i2 + 2)]? = some (w, zBb g x.length x) from hw) dJ0_getBytes_840e7_21 ?_
  refine je_copy (sp := 0) (dp := t.length) (k := x.length) (rest := []) hx hb hml hl.1 hown hts q_895 q_830 q_829 q_28 hW (i2 + 2) 1 (show ((q, zSo g b n) :: (b, zBb g cap t) :: E0)[i2 + 2]? = some (w, zTb g x) from hw) rfl (by omega) (by omega) (fun j hj => zfit (hxx.at _)) (Nat.le_of_ble_eq_true rfl) (Nat.le_of_ble_eq_true rfl) dJ0_getBytes_840e7_22 (fun H locs hW => ?_)
  replace hW := je_arr (i := 1) (f' := fun j => nI ((t ++ x).getD j 0)) (fun j _ => zcpy (fun j _ => rfl) j) rfl hW
  have hW : zl_Wd g (zT2 g q b n cap (t ++ x) E0) z s H locs := hW
  refine lv_goto (tgt := 43) hx hb dJ0_getBytes_840e7_25 (by decide) ?_
  exact je_rv () hx hb hr hlocks hW trivial dJ0_getBytes_840e7_43
theorem kb_infD (l : Launch) (g : sG) (z : zG) (q b n : Nat) (i1 i2 v w : Nat) (x : List Nat) (E0 : va_W) (hv : E0[i1]? = some (v, zTo g w)) : Met l yJ5_inflateIfNeededFor_a7421 (sw_ws yJ5_inflateIfNeededFor_a7421 cJ5_inflateIfNeededFor_a7421 2 none) { frames := 1, cells := 0, slots := 0, locals := 20 } (va_Pc [.ref q, .ref v] (zPe g ((q, zSo g b n) :: E0) z)) (va_Qv (fun _ => True) (zQe g (fun _ : Unit => (q, zSo g b n) :: E0) z) (sw_A g)) 0 0 (sw_A g) := by
  refine je_met (by decide) (Nat.le_of_ble_eq_true rfl) ?_
  intro p e s m args below meth c ls hx hb hr hts hown hml hlocks hnm hW hl
  have hown : s.vm.findClass RJ5 = some m.cls := hown
  have hl : lv_has ls 2 [(0, .ref q), (1, .ref v)] := hl
  have hF := hW.2.2.2
  refine va_gets hx hb hF.2.2.2.2.2.1.1 hW.2.2.1 hown (sw_w hts q_782) (fun _ h => h) dJ5_inflateIfNeededFor_a7421_0 ?_
  refine lv_if_eq (tgt := 21) hx hb dJ5_inflateIfNeededFor_a7421_3 (by decide) (fun k => absurd k (by decide)) (fun _ => ?_)
  refine lv_aload_n hx hb dJ5_inflateIfNeededFor_a7421_6 rfl (lv_at hl 0 rfl) ?_
  refine je_get hx hb hts qf_B hown hW 0 rfl rfl 1 (by decide) q_791 rfl rfl dJ5_inflateIfNeededFor_a7421_7 ?_
  refine lv_aload_n hx hb dJ5_inflateIfNeededFor_a7421_10 rfl (lv_at hl 1 rfl) ?_
  refine je_ki (rest := [.int (0 : Int32)]) (je_runV (i := (i1 + 1)) (As := []) (rest := [.int (0 : Int32)]) hx hb hml hown hts (kb_coderD l g z (i1 + 1) i2 v w x ((q, zSo g b n) :: E0) (show (((q, zSo g b n) :: E0))[(i1 + 1)]? = some (v, zTo g w) from hv)) cv_J0_coder_7d493 q_872 rfl rfl ⟨(Nat.le_of_ble_eq_true rfl), (Nat.le_of_ble_eq_true rfl)⟩ hW (show ((q, zSo g b n) :: E0)[(i1 + 1)]? = some (v, zTo g w) from hv) rfl rfl hl.1 rfl (Nat.le_of_ble_eq_true rfl) dJ5_inflateIfNeededFor_a7421_11 ⟨(Nat.le_of_ble_eq_true rfl), (Nat.le_of_ble_eq_true rfl)⟩) hW (fun r u H locs h9 hW => ?_)
  subst h9
  have hW : zl_Wd g ((q, zSo g b n) :: E0) z s H locs := hW
  refine lv_icmp_eq (tgt := 21) hx hb dJ5_inflateIfNeededFor_a7421_14 (by decide) (fun _ => ?_) (fun k => absurd rfl k)
  exact je_rv () hx hb hr hlocks hW trivial dJ5_inflateIfNeededFor_a7421_21
theorem kb_putD (l : Launch) (g : sG) (z : zG) (q b n cap : Nat) (t : List Nat) (i1 i2 v w : Nat) (x : List Nat) (hc1 : cap ≤ 128) (hn1 : t.length + x.length ≤ cap) (hxx : zlat x) (E0 : va_W) (hv : E0[i1]? = some (v, zTo g w)) (hw : E0[i2]? = some (w, zTb g x)) : Met l yJ5_putStringAt_47b60 (sw_ws yJ5_putStringAt_47b60 cJ5_putStringAt_47b60 3 none) { frames := 2, cells := 0, slots := 0, locals := 100 } (va_Pc [.ref q, .int (nI t.length), .ref v] (zPe g ((q, zSo g b n) :: (b, zBb g cap t) :: E0) z)) (va_Qv (fun _ => True) (zQe g (fun _ : Unit => zT2 g q b n cap (t ++ x) E0) z) (sw_A g)) 0 0 (sw_A g) := by
  refine je_met (by decide) (Nat.le_of_ble_eq_true rfl) ?_
  intro p e s m args below meth c ls hx hb hr hts hown hml hlocks hnm hW hl
  have hown : s.vm.findClass RJ5 = some m.cls := hown
  have hl : lv_has ls 3 [(0, .ref q), (1, .int (nI t.length)), (2, .ref v)] := hl
  have hF := hW.2.2.2
  refine lv_aload_n hx hb dJ5_putStringAt_47b60_0 rfl (lv_at hl 0 rfl) ?_
  refine lv_aload_n hx hb dJ5_putStringAt_47b60_1 rfl (lv_at hl 2 rfl) ?_
  refine je_kv (rest := []) (je_runU (i := 0) (As := [.ref v]) (rest := []) hx hb hml hown hts (kb_infD l g z q b n (i1 + 1) i2 v w x ((b, zBb g cap t) :: E0) (show (((b, zBb g cap t) :: E0))[i1 + 1]? = some (v, zTo g w) from hv)) cu_J5_inflateIfNeededFor_a7421 (je_sel hts hW rfl qp_inflif q_870 qs_inflif) q_869 rfl rfl ⟨(Nat.le_of_ble_eq_true rfl), (Nat.le_of_ble_eq_true rfl)⟩ hW rfl rfl hl.1 rfl (Nat.le_of_ble_eq_true rfl) dJ5_putStringAt_47b60_2 ⟨(Nat.le_of_ble_eq_true rfl), (Nat.le_of_ble_eq_true rfl)⟩) hW (fun u H locs h9 hW => ?_)
  have hW : zl_Wd g ((q, zSo g b n) :: (b, zBb g cap t) :: E0) z s H locs := hW
  refine lv_aload_n hx hb dJ5_putStringAt_47b60_5 rfl (lv_at hl 2 rfl) ?_
  refine lv_aload_n hx hb dJ5_putStringAt_47b60_6 rfl (lv_at hl 0 rfl) ?_
  refine je_get hx hb hts qf_B hown hW 0 rfl rfl 0 (by decide) q_790 rfl rfl dJ5_putStringAt_47b60_7 ?_
  refine lv_iload_n hx hb dJ5_putStringAt_47b60_10 rfl (lv_at hl 1 rfl) ?_
  refine lv_aload_n hx hb dJ5_putStringAt_47b60_11 rfl (lv_at hl 0 rfl) ?_
  refine je_get hx hb hts qf_B hown hW 0 rfl rfl 1 (by decide) q_791 rfl rfl dJ5_putStringAt_47b60_12 ?_
  refine je_kv (rest := []) (je_runV (i := (i1 + 2)) (As := [.ref b, .int (nI t.length), .int (0 : Int32)]) (rest := []) hx hb hml hown hts (kb_getbD l g z q b n cap t i1 i2 v w x hc1 hn1 hxx E0 hv hw) cw_J0_getBytes_840e7 q_891 rfl rfl ⟨(Nat.le_of_ble_eq_true rfl), (Nat.le_of_ble_eq_true rfl)⟩ hW (show ((q, zSo g b n) :: (b, zBb g cap t) :: E0)[(i1 + 2)]? = some (v, zTo g w) from hv) rfl rfl hl.1 rfl (Nat.le_of_ble_eq_true rfl) dJ5_putStringAt_47b60_15 ⟨(Nat.le_of_ble_eq_true rfl), (Nat.le_of_ble_eq_true rfl)⟩) hW (fun u H locs h9 hW => ?_)
  exact je_rv () hx hb hr hlocks hW trivial dJ5_putStringAt_47b60_18
theorem kb_appD (l : Launch) (g : sG) (z : zG) (q b cap : Nat) (t : List Nat) (i1 i2 v w : Nat) (x : List Nat) (hc1 : cap ≤ 128) (hn1 : t.length + x.length ≤ 64) (ht : zlat t) (htl : t.length ≤ cap) (hxx : zlat x) (E0 : va_W) (hv : E0[i1]? = some (v, zTo g w)) (hw : E0[i2]? = some (w, zTb g x)) : Met l yJ5_append_cf1ce (sw_ws yJ5_append_cf1ce cJ5_append_cf1ce 3 (some (.object "java/lang/AbstractStringBuilder"))) { frames := 4, cells := 1, slots := 128, locals := 160 } (va_Pc [.ref q, .ref v] (zPe g ((q, zSo g b t.length) :: (b, zBb g cap t) :: E0) z)) (je_Qr g (fun u : Nat × Nat => zT2 g q u.1 (t ++ x).length u.2 (t ++ x) E0) (fun _ => q) z (fun u => zbd (t ++ x) u.2)) 1 128 (sw_A g) := by
  refine je_met (by decide) (Nat.le_of_ble_eq_true rfl) ?_
  intro p e s m args below meth c ls hx hb hr hts hown hml hlocks hnm hW hl
  have hown : s.vm.findClass RJ5 = some m.cls := hown
  have hl : lv_has ls 3 [(0, .ref q), (1, .ref v)] := hl
  have hF := hW.2.2.2
  refine lv_aload_n hx hb dJ5_append_cf1ce_0 rfl (lv_at hl 1 rfl) ?_
  refine lv_ifnonnull (tgt := 9) hx hb dJ5_append_cf1ce_1 (by decide) ?_
  refine lv_aload_n hx hb dJ5_append_cf1ce_9 rfl (lv_at hl 1 rfl) ?_
  refine je_ki (rest := []) (je_runV (i := (i1 + 2)) (As := []) (rest := []) hx hb hml hown hts (kb_lenD l g z (i1 + 2) (i2 + 2) v w x (zT2 g q b t.length cap t E0) (show ((zT2 g q b t.length cap t E0))[(i1 + 2)]? = some (v, zTo g w) from hv) (show ((zT2 g q b t.length cap t E0))[(i2 + 2)]? = some (w, zTb g x) from hw)) cv_J0_length_8abf5 q_857 rfl rfl ⟨(Nat.le_of_ble_eq_true rfl), (Nat.le_of_ble_eq_true rfl)⟩ hW (show ((q, zSo g b t.length) :: (b, zBb g cap t) :: E0)[(i1 + 2)]? = some (v, zTo g w) from hv) rfl rfl hl.1 rfl (Nat.le_of_ble_eq_true rfl) dJ5_append_cf1ce_10 ⟨(Nat.le_of_ble_eq_true rfl), (Nat.le_of_ble_eq_true rfl)⟩) hW (fun r u H locs h9 hW => ?_)
  subst h9
  have hW : zl_Wd g ((q, zSo g b t.length) :: (b, zBb g cap t) :: E0) z s H locs := hW
  refine lv_istore_n (lv' := [(2, .int (nI x.length)), (0, .ref q), (1, .ref v)]) hx hb dJ5_append_cf1ce_13 rfl hl (Nat.le_of_ble_eq_true rfl) rfl (fun ls hl => ?_)
  refine lv_aload_n hx hb dJ5_append_cf1ce_14 rfl (lv_at hl 1 rfl) ?_
  refine lv_aload_n hx hb dJ5_append_cf1ce_15 rfl (lv_at hl 1 rfl) ?_
  refine je_get hx hb hts qf_B hown hW 0 rfl rfl 3 (by decide) q_793 rfl rfl dJ5_append_cf1ce_16 ?_
  refine lv_iload_n hx hb dJ5_append_cf1ce_19 rfl (lv_at hl 0 rfl) ?_
  refine lv_iadd hx hb dJ5_append_cf1ce_20 ?_
  rw [show ((nI t.length) + (nI x.length) : Int32) = nI (t.length + x.length) from nI_add _ _]
  refine je_kv (rest := []) (je_runU (i := 0) (As := [.int (nI (t.length + x.length))]) (rest := []) hx hb hml hown hts (ka_ensure l g z q b t.length cap (t.length + x.length) t hc1 hn1 ht htl E0) cu_J5_ensureCapacityInternal_d00df (je_sel_ensure hts hW) q_804 rfl rfl ⟨(Nat.le_of_ble_eq_true rfl), (Nat.le_of_ble_eq_true rfl)⟩ hW rfl rfl hl.1 rfl (Nat.le_of_ble_eq_true rfl) dJ5_append_cf1ce_21 ⟨(Nat.le_of_ble_eq_true rfl), (Nat.le_of_ble_eq_true rfl)⟩) hW (fun u H locs h9 hW => ?_)
  obtain ⟨b1, c1⟩ := u
  obtain ⟨h3, h4, h5⟩ := h9
  replace h3 : t.length + x.length ≤ c1 := h3
  replace h4 : c1 ≤ 128 := h4
  replace h5 : t.length ≤ c1 := h5
  have hW : zl_Wd g ((q, zSo g b1 t.length) :: (b1, zBb g c1 t) :: E0) z s H locs := hW
  refine lv_aload_n hx hb dJ5_append_cf1ce_24 rfl (lv_at hl 1 rfl) ?_
  refine lv_aload_n hx hb dJ5_append_cf1ce_25 rfl (lv_at hl 1 rfl) ?_
  refine je_get hx hb hts qf_B hown hW 0 rfl rfl 3 (by decide) q_793 rfl rfl dJ5_append_cf1ce_26 ?_
  refine lv_aload_n hx hb dJ5_append_cf1ce_29 rfl (lv_at hl 2 rfl) ?_
  refine je_kv (rest := []) (je_runU (i := 0) (As := [.int (nI t.length), .ref v]) (rest := []) hx hb hml hown hts (kb_putD l g z q b1 t.length c1 t i1 i2 v w x h4 h3 hxx E0 hv hw) cu_J5_putStringAt_47b60 (je_sel hts hW rfl qp_put q_867 qs_put) q_866 rfl rfl ⟨(Nat.le_of_ble_eq_true rfl), (Nat.le_of_ble_eq_true rfl)⟩ hW rfl rfl hl.1 rfl (Nat.le_of_ble_eq_true rfl) dJ5_append_cf1ce_30 ⟨(Nat.le_of_ble_eq_true rfl), (Nat.le_of_ble_eq_true rfl)⟩) hW (fun u H locs h9 hW => ?_)
  have hW : zl_Wd g ((q, zSo g b1 t.length) :: (b1, zBb g c1 (t ++ x)) :: E0) z s H locs := hW
  refine lv_aload_n hx hb dJ5_append_cf1ce_33 rfl (lv_at hl 1 rfl) ?_
  refine lv_dup hx hb dJ5_append_cf1ce_34 rfl ?_
  refine je_get hx hb hts qf_B hown hW 0 rfl rfl 3 (by decide) q_793 rfl rfl dJ5_append_cf1ce_35 ?_
  refine lv_iload_n hx hb dJ5_append_cf1ce_38 rfl (lv_at hl 0 rfl) ?_
  refine lv_iadd hx hb dJ5_append_cf1ce_39 ?_
  rw [show ((nI t.length) + (nI x.length) : Int32) = nI (t.length + x.length) from nI_add _ _]
  refine je_putG hx hb hts qf_B tyJ4 tyJ4_ok nmJ4 hown hW 0 rfl rfl 3 (by decide) q_793 rfl (Or.inl rfl) rfl rfl (Nat.le_of_ble_eq_true rfl) dJ5_append_cf1ce_40 (fun H locs hW => ?_)
  have hW : zl_Wd g ((q, zSo g b1 (t.length + x.length)) :: (b1, zBb g c1 (t ++ x)) :: E0) z s H locs := hW
  rw [← List.length_append] at hW
  refine lv_aload_n hx hb dJ5_append_cf1ce_43 rfl (lv_at hl 1 rfl) ?_
  refine W.widen (k := 1) (n := 128) (by omega) (by omega) ?_
  exact je_ra (b1, c1) hx hb hr (Or.inl ⟨_, rfl⟩) hlocks hW ⟨h4, by rw [List.length_append]; exact h3⟩ rfl dJ5_append_cf1ce_44
