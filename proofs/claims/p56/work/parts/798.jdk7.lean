/-! A builder becomes a string. -/
theorem ct_J7_checkLength_df160 : sw_cS yJ7_checkLength_df160 cJ7_checkLength_df160 2 none 2 := ⟨q_973, q_27, q_974, by decide +kernel⟩
theorem ct_J7_copyOfRangeByte_39247 : sw_cS yJ7_copyOfRangeByte_39247 cJ7_copyOfRangeByte_39247 5 (some (.array .byte)) 3 := ⟨q_970, q_27, q_971, by decide +kernel⟩
theorem ct_J7_copyOfRange_39247 : sw_cS yJ7_copyOfRange_39247 cJ7_copyOfRange_39247 3 (some (.array .byte)) 3 := ⟨q_967, q_27, q_968, by decide +kernel⟩
set_option maxHeartbeats 200000 in
theorem ke_chk (l : Launch) (g : sG) (z : zG) (n : Nat) (hn : n ≤ 64) (E0 : va_W) : Met l yJ7_checkLength_df160 (sw_ws yJ7_checkLength_df160 cJ7_checkLength_df160 2 none) { frames := 0, cells := 0, slots := 0, locals := 0 } (va_Pc [.int (0 : Int32), .int (nI n)] (zPe g E0 z)) (va_Qv (fun _ => True) (zQe g (fun _ : Unit => E0) z) (sw_A g)) 0 0 (sw_A g) := by
  refine je_met (by decide) (Nat.le_of_ble_eq_true rfl) ?_
  intro p e s m args below meth c ls hx hb hr hts hown hml hlocks hnm hW hl
  have hown : s.vm.findClass RJ7 = some m.cls := hown
  have hl : lv_has ls 2 [(0, .int (0 : Int32)), (1, .int (nI n))] := hl
  have hF := hW.2.2.2
  refine lv_iload_n hx hb dJ7_checkLength_df160_0 rfl (lv_at hl 1 rfl) ?_
  refine lv_iload_n hx hb dJ7_checkLength_df160_1 rfl (lv_at hl 0 rfl) ?_
  refine lv_icmp_ge (tgt := 37) hx hb dJ7_checkLength_df160_2 (by decide) (fun _ => ?_) (fun k => absurd (nI_pos' (by omega)) k)
  exact je_rv () hx hb hr hlocks hW trivial dJ7_checkLength_df160_37
set_option maxHeartbeats 200000 in
theorem ke_crb (l : Launch) (g : sG) (z : zG) (i b cap : Nat) (t : List Nat) (E : va_W) (hE : E[i]? = some (b, zBb g cap t)) (hok : ztx t) (hbd : zbd t cap) : Met l yJ7_copyOfRangeByte_39247 (sw_ws yJ7_copyOfRangeByte_39247 cJ7_copyOfRangeByte_39247 5 (some (.array .byte))) { frames := 1, cells := 1, slots := 64, locals := 60 } (va_Pc [.ref b, .int (0 : Int32), .int (nI t.length)] (zPe g E z)) (je_Qr g (fun q9 : Nat => E ++ [(q9, zTb g t)]) (fun q9 => q9) z (fun _ => True)) 1 64 (sw_A g) := by
  refine je_met (by decide) (Nat.le_of_ble_eq_true rfl) ?_
  intro p e s m args below meth c ls hx hb hr hts hown hml hlocks hnm hW hl
  have hown : s.vm.findClass RJ7 = some m.cls := hown
  have hl : lv_has ls 5 [(0, .ref b), (1, .int (0 : Int32)), (2, .int (nI t.length))] := hl
  have hF := hW.2.2.2
  have h64 := hok.1
  obtain ⟨hc1, htl⟩ := hbd
  refine lv_iload_n hx hb dJ7_copyOfRangeByte_39247_0 rfl (lv_at hl 1 rfl) ?_
  refine lv_iload_n hx hb dJ7_copyOfRangeByte_39247_1 rfl (lv_at hl 2 rfl) ?_
  refine je_kv (rest := []) (je_runS (As := [.int (0 : Int32), .int (nI t.length)]) (rest := []) hx hb hml hown hts (ke_chk l g z t.length h64 E) ct_J7_checkLength_df160 q_972 rfl rfl ⟨(Nat.le_of_ble_eq_true rfl), (Nat.le_of_ble_eq_true rfl)⟩ hW rfl hl.1 rfl (Nat.le_of_ble_eq_true rfl) dJ7_copyOfRangeByte_39247_2 ⟨(Nat.le_of_ble_eq_true rfl), (Nat.le_of_ble_eq_true rfl)⟩) hW (fun u H locs h9 hW => ?_)
  have hW : zl_Wd g E z s H locs := hW
  refine lv_iload_n hx hb dJ7_copyOfRangeByte_39247_5 rfl (lv_at hl 2 rfl) ?_
  refine lv_iload_n hx hb dJ7_copyOfRangeByte_39247_6 rfl (lv_at hl 1 rfl) ?_
  refine lv_isub hx hb dJ7_copyOfRangeByte_39247_7 ?_
  rw [show ((nI t.length) - (0 : Int32) : Int32) = nI t.length from (by simp)]
  refine lv_istore_n (lv' := [(3, .int (nI t.length)), (0, .ref b), (1, .int (0 : Int32)), (2, .int (nI t.length))]) hx hb dJ7_copyOfRangeByte_39247_8 rfl hl (Nat.le_of_ble_eq_true rfl) rfl (fun ls hl => ?_)
  refine lv_iload_n hx hb dJ7_copyOfRangeByte_39247_9 rfl (lv_at hl 0 rfl) ?_
  refine zl_newa (g := g) hx hb hts (atype := .byte) qa_byte 6 rfl rfl hW (N := t.length) (a0 := (t.length, .inl (fun _ => 0))) (fun _ => rfl) (nI_pos (by omega)) (nI_clamp (by omega)) (by show t.length * 1 ≤ _; omega) (by show 0 + 0 + 1 ≤ 1; omega) (by show 0 + 0 + t.length ≤ 64; omega) dJ7_copyOfRangeByte_39247_10 (fun q9 H hW => ?_)
  refine lv_astore (lv' := [(4, .ref q9), (3, .int (nI t.length)), (0, .ref b), (1, .int (0 : Int32)), (2, .int (nI t.length))]) hx hb dJ7_copyOfRangeByte_39247_12 hl (Nat.le_of_ble_eq_true rfl) rfl (fun ls hl => ?_)
  have hE1 := je_app (q := q9) (x := .inl (sw_ac g 6, t.length, .inl (fun _ => (0 : Int32)))) hE
  refine lv_aload_n hx hb dJ7_copyOfRangeByte_39247_14 rfl (lv_at hl 2 rfl) ?_
  refine lv_iload_n hx hb dJ7_copyOfRangeByte_39247_15 rfl (lv_at hl 3 rfl) ?_
  refine lv_aload hx hb dJ7_copyOfRangeByte_39247_16 (lv_at hl 0 rfl) ?_
  refine lv_iconst (v := 0) hx hb dJ7_copyOfRangeByte_39247_18 (by decide) ?_
  refine lv_aload_n hx hb dJ7_copyOfRangeByte_39247_19 rfl (lv_at hl 2 rfl) ?_
  refine je_alen hx hb hW i hE1 dJ7_copyOfRangeByte_39247_20 ?_
  refine lv_iload_n hx hb dJ7_copyOfRangeByte_39247_21 rfl (lv_at hl 3 rfl) ?_
  refine lv_isub hx hb dJ7_copyOfRangeByte_39247_22 ?_
  rw [show ((nI cap) - (0 : Int32) : Int32) = nI cap from (by simp)]
  refine lv_iload_n hx hb dJ7_copyOfRangeByte_39247_23 rfl (lv_at hl 1 rfl) ?_
  refine va_mmin hx hb (hml.trans hl.1.symm) hown (sw_w hts q_827) (sw_w hts q_261) (sw_w hts q_17) (sw_w hts q_262) (Nat.le_of_ble_eq_true rfl) (Nat.le_of_ble_eq_true rfl) (by show 0 + 0 + 1 ≤ 1; omega) (by show 0 + 0 + t.length ≤ 64; omega) dJ7_copyOfRangeByte_39247_24 ?_
  rw [show (if nI t.length < nI cap then nI t.length else nI cap) = nI t.length by
    by_cases h : t.length < cap
    · rw [if_pos (nI_lt h (by omega))]
    · rw [if_neg (nI_nlt (by omega) (by omega)), show cap = t.length by omega]]
  refine je_copy (sp := 0) (dp := 0) (k := t.length) (rest := []) hx hb hml hl.1 hown hts q_828 q_830 q_829 q_28 hW i E.length hE1 je_last (by omega) (by omega) (fun j hj => zfit (hok.2.at _)) (Nat.le_of_ble_eq_true rfl) (Nat.le_of_ble_eq_true rfl) dJ7_copyOfRangeByte_39247_27 (fun H locs hW => ?_)
  rw [je_setl] at hW
  have hcp : ∀ j, j < t.length → va_cpy (fun j => nI (t.getD j 0)) (fun _ => (0 : Int32)) 0 0 t.length j = nI (t.getD j 0) := fun j hj => by
    unfold va_cpy
    rw [if_pos ⟨Nat.zero_le _, by omega⟩, Nat.sub_zero, Nat.zero_add]
  replace hW := je_arr (i := E.length) (f' := fun j => nI (t.getD j 0)) hcp je_last hW
  rw [je_setl] at hW
  have hW : zl_Wd g (E ++ [(q9, zTb g t)]) z s H locs := hW
  refine lv_aload hx hb dJ7_copyOfRangeByte_39247_30 (lv_at hl 0 rfl) ?_
  refine W.widen (k := 1) (n := 64) (by omega) (by omega) ?_
  exact je_ra q9 hx hb hr (Or.inr ⟨_, rfl⟩) hlocks hW trivial rfl dJ7_copyOfRangeByte_39247_32
set_option maxHeartbeats 200000 in
theorem ke_cr (l : Launch) (g : sG) (z : zG) (i b cap : Nat) (t : List Nat) (E : va_W) (hE : E[i]? = some (b, zBb g cap t)) (hok : ztx t) (hbd : zbd t cap) : Met l yJ7_copyOfRange_39247 (sw_ws yJ7_copyOfRange_39247 cJ7_copyOfRange_39247 3 (some (.array .byte))) { frames := 2, cells := 1, slots := 64, locals := 100 } (va_Pc [.ref b, .int (0 : Int32), .int (nI t.length)] (zPe g E z)) (je_Qr g (fun q9 : Nat => E ++ [(q9, zTb g t)]) (fun q9 => q9) z (fun _ => True)) 1 64 (sw_A g) := by
  refine je_met (by decide) (Nat.le_of_ble_eq_true rfl) ?_
  intro p e s m args below meth c ls hx hb hr hts hown hml hlocks hnm hW hl
  have hown : s.vm.findClass RJ7 = some m.cls := hown
  have hl : lv_has ls 3 [(0, .ref b), (1, .int (0 : Int32)), (2, .int (nI t.length))] := hl
  have hF := hW.2.2.2
  have h64 := hok.1
  have hc1 := hbd.1
  have htl := hbd.2
  refine lv_iload_n hx hb dJ7_copyOfRange_39247_0 rfl (lv_at hl 1 rfl) ?_
  refine lv_if_ne (tgt := 10) hx hb dJ7_copyOfRange_39247_1 (by decide) (fun k => absurd rfl k) (fun _ => ?_)
  refine lv_iload_n hx hb dJ7_copyOfRange_39247_4 rfl (lv_at hl 2 rfl) ?_
  refine lv_aload_n hx hb dJ7_copyOfRange_39247_5 rfl (lv_at hl 0 rfl) ?_
  refine je_alen hx hb hW i hE dJ7_copyOfRange_39247_6 ?_
  by_cases hcap : t.length = cap
  · refine lv_icmp_eq (tgt := 17) hx hb dJ7_copyOfRange_39247_7 (by decide) (fun _ => ?_) (fun k => absurd (by rw [hcap]) k)
    refine lv_aload_n hx hb dJ7_copyOfRange_39247_17 rfl (lv_at hl 0 rfl) ?_
    have hnm9 := (hW.2.2.2.1.2 6 _ rfl).2
    have hE9 : E[i]? = some (b, .inl (sw_ac g 6, t.length, .inl (fun j => nI (t.getD j 0)))) := by rw [hE, ← hcap]; rfl
    refine je_clone (rest := []) hx hb hml hl.1 hown hts q_822 q_823 q_824 q_825 hW i hE9 hnm9 (fun j => zfit (hok.2.at j)) (Nat.le_of_ble_eq_true rfl) (Nat.le_of_ble_eq_true rfl) (Nat.le_of_ble_eq_true rfl) (by show 0 + t.length ≤ 64; omega) dJ7_copyOfRange_39247_18 (fun q9 H hW => ?_)
    refine va_castA hx hb hown (sw_w hts q_826) hW.1.E E.length je_last hnm9 dJ7_copyOfRange_39247_21 ?_
    refine W.widen (k := 1) (n := 64) (by omega) (by omega) ?_
    exact je_ra q9 hx hb hr (Or.inr ⟨_, rfl⟩) hlocks hW trivial rfl dJ7_copyOfRange_39247_24
  · refine lv_icmp_eq (tgt := 17) hx hb dJ7_copyOfRange_39247_7 (by decide) (fun k => absurd k (by rw [nI_eq (by omega) (by omega)]; exact hcap)) (fun _ => ?_)
    refine lv_aload_n hx hb dJ7_copyOfRange_39247_10 rfl (lv_at hl 0 rfl) ?_
    refine lv_iload_n hx hb dJ7_copyOfRange_39247_11 rfl (lv_at hl 1 rfl) ?_
    refine lv_iload_n hx hb dJ7_copyOfRange_39247_12 rfl (lv_at hl 2 rfl) ?_
    refine je_kr (rest := []) (je_runS (As := [.ref b, .int (0 : Int32), .int (nI t.length)]) (rest := []) hx hb hml hown hts (ke_crb l g z i b cap t E hE hok hbd) ct_J7_copyOfRangeByte_39247 q_969 rfl rfl ⟨(Nat.le_of_ble_eq_true rfl), (Nat.le_of_ble_eq_true rfl)⟩ hW rfl hl.1 rfl (Nat.le_of_ble_eq_true rfl) dJ7_copyOfRange_39247_13 ⟨(Nat.le_of_ble_eq_true rfl), (Nat.le_of_ble_eq_true rfl)⟩) hW (fun q9 H locs h9 hW => ?_)
    exact je_ra q9 hx hb hr (Or.inr ⟨_, rfl⟩) hlocks hW trivial rfl dJ7_copyOfRange_39247_16
theorem co_len : je_cO yJ5_length_8abf5 yJ4_length_8abf5 cJ4_length_8abf5 1 (some .int) 0 := ⟨qs_len, q_959, q_960, q_961, q_24, q_962, ⟨_, _, _, q_964⟩, by decide +kernel⟩
set_option maxHeartbeats 200000 in
theorem kc_str5 (l : Launch) (g : sG) (z : zG) (q b cap v : Nat) (t : List Nat) (hok : ztx t) (hbd : zbd t cap) (E0 : va_W) : Met l yJ0_init_db425 (sw_ws yJ0_init_db425 cJ0_init_db425 5 none) { frames := 3, cells := 1, slots := 64, locals := 140 } (va_Pc [.ref v, .ref q, .null] (zPe g ((q, zSo g b t.length) :: (b, zBb g cap t) :: (v, .inr (7, [.null, .int 0, .int 0, .int 0])) :: E0) z)) (va_Qv (fun _ => True) (zQe g (fun q9 : Nat => zT2 g q b t.length cap t ((v, zTo g q9) :: (E0 ++ [(q9, zTb g t)]))) z) (sw_A g)) 1 64 (sw_A g) := by
  refine je_met (by decide) (Nat.le_of_ble_eq_true rfl) ?_
  intro p e s m args below meth c ls hx hb hr hts hown hml hlocks hnm hW hl
  have hown : s.vm.findClass RJ0 = some m.cls := hown
  have hl : lv_has ls 5 [(0, .ref v), (1, .ref q), (2, .null)] := hl
  have hF := hW.2.2.2
  refine lv_aload_n hx hb dJ0_init_db425_0 rfl (lv_at hl 0 rfl) ?_
  refine W.objInit hx hb hown (sw_w hts q_953) (sw_w hts q_40) (sw_w hts q_41) rfl (by rw [hml]; exact hl.1) rfl dJ0_init_db425_1 (Nat.le_of_ble_eq_true rfl) (Nat.le_of_ble_eq_true rfl) ?_
  show W _ _ _ _ _ _ _ _ _ _ _ _ _ _ _ (F0 m 4 ls [])
  refine lv_aload_n hx hb dJ0_init_db425_4 rfl (lv_at hl 1 rfl) ?_
  refine je_kr (rest := []) (je_runU (i := 0) (As := []) (rest := []) hx hb hml hown hts (ka_getv l g z q b t.length ((b, zBb g cap t) :: (v, .inr (7, [.null, .int 0, .int 0, .int 0])) :: E0)) cu_J5_getValue_6d5f1 (sw_w hts q_956) q_954 rfl rfl ⟨(Nat.le_of_ble_eq_true rfl), (Nat.le_of_ble_eq_true rfl)⟩ hW rfl rfl hl.1 rfl (Nat.le_of_ble_eq_true rfl) dJ0_init_db425_5 ⟨(Nat.le_of_ble_eq_true rfl), (Nat.le_of_ble_eq_true rfl)⟩) hW (fun u H locs h9 hW => ?_)
  have hW : zl_Wd g ((q, zSo g b t.length) :: (b, zBb g cap t) :: (v, .inr (7, [.null, .int 0, .int 0, .int 0])) :: E0) z s H locs := hW
  refine lv_astore_n (lv' := [(3, .ref b), (0, .ref v), (1, .ref q), (2, .null)]) hx hb dJ0_init_db425_8 rfl hl (Nat.le_of_ble_eq_true rfl) rfl (fun ls hl => ?_)
  refine lv_aload_n hx hb dJ0_init_db425_9 rfl (lv_at hl 2 rfl) ?_
  refine je_ki (rest := []) (je_runO (i := 0) (As := []) (rest := []) hx hb hml hown hts (ka_len4 l g z q b t.length ((b, zBb g cap t) :: (v, .inr (7, [.null, .int 0, .int 0, .int 0])) :: E0)) co_len q_958 rfl rfl ⟨(Nat.le_of_ble_eq_true rfl), (Nat.le_of_ble_eq_true rfl)⟩ hW rfl rfl hl.1 rfl (Nat.le_of_ble_eq_true rfl) dJ0_init_db425_10 ⟨(Nat.le_of_ble_eq_true rfl), (Nat.le_of_ble_eq_true rfl)⟩) hW (fun r u H locs h9 hW => ?_)
  subst h9
  have hW : zl_Wd g ((q, zSo g b t.length) :: (b, zBb g cap t) :: (v, .inr (7, [.null, .int 0, .int 0, .int 0])) :: E0) z s H locs := hW
  refine lv_istore (lv' := [(4, .int (nI t.length)), (3, .ref b), (0, .ref v), (1, .ref q), (2, .null)]) hx hb dJ0_init_db425_13 hl (Nat.le_of_ble_eq_true rfl) rfl (fun ls hl => ?_)
  refine lv_aload_n hx hb dJ0_init_db425_15 rfl (lv_at hl 3 rfl) ?_
  refine je_ki (rest := []) (je_runU (i := 0) (As := []) (rest := []) hx hb hml hown hts (ka_isl l g z q b t.length ((b, zBb g cap t) :: (v, .inr (7, [.null, .int 0, .int 0, .int 0])) :: E0)) cu_J5_isLatin1_aae02 (sw_w hts q_833) q_965 rfl rfl ⟨(Nat.le_of_ble_eq_true rfl), (Nat.le_of_ble_eq_true rfl)⟩ hW rfl rfl hl.1 rfl (Nat.le_of_ble_eq_true rfl) dJ0_init_db425_16 ⟨(Nat.le_of_ble_eq_true rfl), (Nat.le_of_ble_eq_true rfl)⟩) hW (fun r u H locs h9 hW => ?_)
  subst h9
  have hW : zl_Wd g ((q, zSo g b t.length) :: (b, zBb g cap t) :: (v, .inr (7, [.null, .int 0, .int 0, .int 0])) :: E0) z s H locs := hW
  refine lv_if_eq (tgt := 41) hx hb dJ0_init_db425_19 (by decide) (fun k => absurd k (by decide)) (fun _ => ?_)
  refine lv_aload_n hx hb dJ0_init_db425_22 rfl (lv_at hl 2 rfl) ?_
  refine lv_iconst (v := 0) hx hb dJ0_init_db425_23 (by decide) ?_
  refine je_putG hx hb hts qf_J tyJ0 tyJ0_ok nmJ0 hown hW 2 rfl rfl 1 (by decide) q_999 rfl (Or.inr ⟨rfl, hnm, rfl⟩) rfl rfl (Nat.le_of_ble_eq_true rfl) dJ0_init_db425_24 (fun H locs hW => ?_)
  have hW : zl_Wd g ((q, zSo g b t.length) :: (b, zBb g cap t) :: (v, .inr (7, [.null, .int 0, .int 0, .int 0])) :: E0) z s H locs := hW
  refine lv_aload_n hx hb dJ0_init_db425_27 rfl (lv_at hl 2 rfl) ?_
  refine lv_aload_n hx hb dJ0_init_db425_28 rfl (lv_at hl 1 rfl) ?_
  refine lv_iconst (v := 0) hx hb dJ0_init_db425_29 (by decide) ?_
  refine lv_iload hx hb dJ0_init_db425_30 (lv_at hl 0 rfl) ?_
  refine je_kr (rest := [.ref v]) (je_runS (As := [.ref b, .int (0 : Int32), .int (nI t.length)]) (rest := [.ref v]) hx hb hml hown hts (ke_cr l g z 1 b cap t (zT2 g q b t.length cap t ((v, .inr (7, [.null, .int 0, .int 0, .int 0])) :: E0)) rfl hok hbd) ct_J7_copyOfRange_39247 q_966 rfl rfl ⟨(Nat.le_of_ble_eq_true rfl), (Nat.le_of_ble_eq_true rfl)⟩ hW rfl hl.1 rfl (Nat.le_of_ble_eq_true rfl) dJ0_init_db425_32 ⟨(Nat.le_of_ble_eq_true rfl), (Nat.le_of_ble_eq_true rfl)⟩) hW (fun q9 H locs h9 hW => ?_)
  have hW : zl_Wd g ((q, zSo g b t.length) :: (b, zBb g cap t) :: (v, .inr (7, [.null, .int 0, .int 0, .int 0])) :: (E0 ++ [(q9, zTb g t)])) z s H locs := hW
  refine je_putG hx hb hts qf_J tyJ0 tyJ0_ok nmJ0 hown hW 2 rfl rfl 0 (by decide) q_998 rfl (Or.inr ⟨rfl, hnm, rfl⟩) rfl rfl (Nat.le_of_ble_eq_true rfl) dJ0_init_db425_35 (fun H locs hW => ?_)
  have hW : zl_Wd g ((q, zSo g b t.length) :: (b, zBb g cap t) :: (v, zTo g q9) :: (E0 ++ [(q9, zTb g t)])) z s H locs := hW
  refine lv_goto (tgt := 97) hx hb dJ0_init_db425_38 (by decide) ?_
  refine W.widen (k := 1) (n := 64) (by omega) (by omega) ?_
  exact je_rv q9 hx hb hr hlocks hW trivial dJ0_init_db425_97
set_option maxHeartbeats 200000 in
theorem kc_str (l : Launch) (g : sG) (z : zG) (q b cap v : Nat) (t : List Nat) (hok : ztx t) (hbd : zbd t cap) (E0 : va_W) : Met l yJ0_init_81219 (sw_ws yJ0_init_81219 cJ0_init_81219 2 none) { frames := 4, cells := 1, slots := 64, locals := 180 } (va_Pc [.ref v, .ref q] (zPe g ((q, zSo g b t.length) :: (b, zBb g cap t) :: (v, .inr (7, [.null, .int 0, .int 0, .int 0])) :: E0) z)) (va_Qv (fun _ => True) (zQe g (fun q9 : Nat => zT2 g q b t.length cap t ((v, zTo g q9) :: (E0 ++ [(q9, zTb g t)]))) z) (sw_A g)) 1 64 (sw_A g) := by
  refine je_met (by decide) (Nat.le_of_ble_eq_true rfl) ?_
  intro p e s m args below meth c ls hx hb hr hts hown hml hlocks hnm hW hl
  have hown : s.vm.findClass RJ0 = some m.cls := hown
  have hl : lv_has ls 2 [(0, .ref v), (1, .ref q)] := hl
  have hF := hW.2.2.2
  refine lv_aload_n hx hb dJ0_init_81219_0 rfl (lv_at hl 0 rfl) ?_
  refine lv_aload_n hx hb dJ0_init_81219_1 rfl (lv_at hl 1 rfl) ?_
  refine lv_null hx hb dJ0_init_81219_2 ?_
  refine je_kv (rest := []) (je_runI (As := [.ref q, .null]) (rest := []) hx hb hml hown hts (kc_str5 l g z q b cap v t hok hbd E0) ci_J0_init_db425 q_950 rfl rfl ⟨(Nat.le_of_ble_eq_true rfl), (Nat.le_of_ble_eq_true rfl)⟩ hW rfl hl.1 rfl (Nat.le_of_ble_eq_true rfl) dJ0_init_81219_3 ⟨(Nat.le_of_ble_eq_true rfl), (Nat.le_of_ble_eq_true rfl)⟩) hW (fun q9 H locs h9 hW => ?_)
  exact je_rv q9 hx hb hr hlocks hW trivial dJ0_init_81219_6
set_option maxHeartbeats 200000 in
theorem kd_str (l : Launch) (g : sG) (z : zG) (q b cap : Nat) (t : List Nat) (hok : ztx t) (hbd : zbd t cap) (E0 : va_W) : Met l yJ4_toString_0e30d (sw_ws yJ4_toString_0e30d cJ4_toString_0e30d 1 (some (.object "java/lang/String"))) { frames := 5, cells := 2, slots := 68, locals := 220 } (va_Pc [.ref q] (zPe g ((q, zSo g b t.length) :: (b, zBb g cap t) :: E0) z)) (je_Qr g (fun u : Nat × Nat => (u.1, zTo g u.2) :: (u.2, zTb g t) :: E0) (fun u => u.1) z (fun _ => True)) 2 68 (sw_A g) := by
  refine je_met (by decide) (Nat.le_of_ble_eq_true rfl) ?_
  intro p e s m args below meth c ls hx hb hr hts hown hml hlocks hnm hW hl
  have hown : s.vm.findClass RJ4 = some m.cls := hown
  have hl : lv_has ls 1 [(0, .ref q)] := hl
  have hF := hW.2.2.2
  refine je_new (ci := 7) hx hb hts hown qf_J tyJ0 tyJ0_ok rfl q_946 q_292 q_19 hW (fs := [.null, .int 0, .int 0, .int 0]) (by intro j hj; have h9 : j = 0 ∨ j = 1 ∨ j = 2 ∨ j = 3 := (by omega); rcases h9 with rfl | rfl | rfl | rfl <;> rfl) (Nat.le_of_ble_eq_true rfl) (Nat.le_of_ble_eq_true rfl) dJ4_toString_0e30d_0 (fun v H hW => ?_)
  replace hW := je_mv2 hW
  refine lv_dup hx hb dJ4_toString_0e30d_3 rfl ?_
  refine lv_aload_n hx hb dJ4_toString_0e30d_4 rfl (lv_at hl 0 rfl) ?_
  refine je_kv (rest := [.ref v]) (je_runI (As := [.ref q]) (rest := [.ref v]) hx hb hml hown hts (kc_str l g z q b cap v t hok hbd E0) ci_J0_init_81219 q_947 rfl rfl ⟨(Nat.le_of_ble_eq_true rfl), (Nat.le_of_ble_eq_true rfl)⟩ hW rfl hl.1 rfl (Nat.le_of_ble_eq_true rfl) dJ4_toString_0e30d_5 ⟨(Nat.le_of_ble_eq_true rfl), (Nat.le_of_ble_eq_true rfl)⟩) hW (fun q9 H locs h9 hW => ?_)
  replace hW := je_fin hW
  refine W.widen (k := 2) (n := 68) (by omega) (by omega) ?_
  exact je_ra (v, q9) hx hb hr (Or.inl ⟨_, rfl⟩) hlocks hW trivial rfl dJ4_toString_0e30d_8
