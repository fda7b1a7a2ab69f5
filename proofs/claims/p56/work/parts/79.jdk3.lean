/-! A builder takes a character, or a number. -/
def zbd (t : List Nat) (cap : Nat) : Prop := cap ≤ 128 ∧ t.length ≤ cap
def ztx (t : List Nat) : Prop := t.length ≤ 64 ∧ zlat t
theorem zlat.snoc {t : List Nat} {x : Nat} (h : zlat t) (hx : x < 128) : zlat (t ++ [x]) := fun c hc => by
  rcases List.mem_append.mp hc with h1 | h1
  · exact h c h1
  · rw [List.mem_singleton.mp h1]; exact hx
theorem zapp1 {t : List Nat} {x : Nat} (j : Nat) : upd (fun j => nI (t.getD j 0)) t.length (nI x) j = nI ((t ++ [x]).getD j 0) := by
  unfold upd
  rw [zget_app]
  by_cases h : j = t.length
  · subst h; rw [if_pos rfl, if_neg (Nat.lt_irrefl _), Nat.sub_self]; rfl
  · rw [if_neg h]
    by_cases h2 : j < t.length
    · rw [if_pos h2]
    · rw [if_neg h2]
      show nI (t.getD j 0) = _
      rw [zgetD0 (t := t) (by omega), zgetD0 (t := [x]) (by show 1 ≤ _; omega)]
def zdec (v : Nat) : List Nat := if v < 10 then [48 + v] else [48 + v / 10, 48 + v % 10]
theorem zdec_lat {v : Nat} (h : v < 100) : zlat (zdec v) := fun c hc => by
  unfold zdec at hc
  split at hc
  · rw [List.mem_singleton.mp hc]; omega
  · rcases List.mem_cons.mp hc with h1 | h1
    · rw [h1]; omega
    · rw [List.mem_singleton.mp h1]; omega
theorem zdec_1 {v : Nat} (h : v < 10) : zdec v = [48 + v] := if_pos h
theorem zdec_2 {v : Nat} (h : ¬ v < 10) : zdec v = [48 + v / 10, 48 + v % 10] := if_neg h
theorem zdec_len (v : Nat) : 1 ≤ (zdec v).length ∧ (zdec v).length ≤ 2 := by
  unfold zdec; split <;> exact ⟨Nat.le_of_ble_eq_true rfl, Nat.le_of_ble_eq_true rfl⟩
theorem zapp2 {t : List Nat} {x y : Nat} (j : Nat) : upd (upd (fun j => nI (t.getD j 0)) (t.length + 1) (nI y)) t.length (nI x) j = nI ((t ++ [x, y]).getD j 0) := by
  unfold upd
  rw [zget_app]
  by_cases h : j = t.length
  · subst h; rw [if_pos rfl, if_neg (Nat.lt_irrefl _), Nat.sub_self]; rfl
  · rw [if_neg h]
    by_cases h3 : j = t.length + 1
    · subst h3; rw [if_pos rfl, if_neg (by omega), Nat.add_sub_cancel_left]; rfl
    · rw [if_neg h3]
      by_cases h2 : j < t.length
      · rw [if_pos h2]
      · rw [if_neg h2]
        show nI (t.getD j 0) = _
        rw [zgetD0 (t := t) (by omega), zgetD0 (t := [x, y]) (by show 2 ≤ _; omega)]
theorem zs_ge (v : Nat) (h : v < 100) : ¬ nI v < 0 := nI_pos (by omega)
theorem zs_ge' (v : Nat) (h : v < 100) : nI v ≥ 0 := nI_pos' (by omega)
theorem zs_10 : ∀ v : Nat, v < 10 → ¬ -(nI v) ≤ (-10 : Int32) → True := fun _ _ _ => trivial
theorem zs_le10 : ∀ v : Nat, v < 100 → ¬ v < 10 → -(nI v) ≤ (-10 : Int32) := by decide +kernel
theorem zs_gt10 : ∀ v : Nat, v < 10 → ¬ -(nI v) ≤ (-10 : Int32) := by decide +kernel
theorem zs_gt100 : ∀ v : Nat, v < 100 → ¬ -(nI v) ≤ (10 : Int32) * (-10 : Int32) := by decide +kernel
theorem zs_g100 : ∀ v : Nat, v < 100 → -(nI v) > (-100 : Int32) := by decide +kernel
theorem zs_ge9 : ∀ v : Nat, v < 10 → -(nI v) ≥ (-9 : Int32) := by decide +kernel
theorem zs_lt9 : ∀ v : Nat, v < 100 → ¬ v < 10 → ¬ -(nI v) ≥ (-9 : Int32) := by decide +kernel
theorem nI_dec {a : Nat} (h : 0 < a) : nI a + (-1 : Int32) = nI (a - 1) := by
  obtain ⟨b, rfl⟩ := Nat.exists_eq_add_of_le' h
  rw [Nat.add_sub_cancel, ← nI_1, Int32.add_assoc]
  simp
theorem cx_J5_append_3fe6f : je_cSU yJ5_append_3fe6f cJ5_append_3fe6f 2 (some (.object "java/lang/AbstractStringBuilder")) 1 := ⟨qs_appC, qu_B, q_902, q_23, q_903, by decide +kernel⟩
theorem ka_appC (l : Launch) (g : sG) (z : zG) (q b cap x : Nat) (t : List Nat) (hx0 : x < 128) (hc1 : cap ≤ 128) (hn1 : t.length + 1 ≤ 64) (ht : zlat t) (htl : t.length ≤ cap) (E0 : va_W) : Met l yJ5_append_3fe6f (sw_ws yJ5_append_3fe6f cJ5_append_3fe6f 2 (some (.object "java/lang/AbstractStringBuilder"))) { frames := 4, cells := 1, slots := 128, locals := 160 } (va_Pc [.ref q, .int (nI x)] (zPe g ((q, zSo g b t.length) :: (b, zBb g cap t) :: E0) z)) (je_Qr g (fun u : Nat × Nat => zT2 g q u.1 (t ++ [x]).length u.2 (t ++ [x]) E0) (fun _ => q) z (fun u => zbd (t ++ [x]) u.2)) 1 128 (sw_A g) := by
  refine je_met (by decide) (Nat.le_of_ble_eq_true rfl) ?_
  intro p e s m args below meth c ls hx hb hr hts hown hml hlocks hnm hW hl
  have hown : s.vm.findClass RJ5 = some m.cls := hown
  have hl : lv_has ls 2 [(0, .ref q), (1, .int (nI x))] := hl
  have hF := hW.2.2.2
  refine lv_aload_n hx hb dJ5_append_3fe6f_0 rfl (lv_at hl 0 rfl) ?_
  refine lv_aload_n hx hb dJ5_append_3fe6f_1 rfl (lv_at hl 0 rfl) ?_
  refine je_get hx hb hts qf_B hown hW 0 rfl rfl 3 (by decide) q_793 rfl rfl dJ5_append_3fe6f_2 ?_
  refine lv_iconst (v := 1) hx hb dJ5_append_3fe6f_5 (by decide) ?_
  refine lv_iadd hx hb dJ5_append_3fe6f_6 ?_
  rw [show ((nI t.length) + (1 : Int32) : Int32) = nI (t.length + 1) from nI_1 _]
  refine je_kv (rest := []) (je_runU (i := 0) (As := [.int (nI (t.length + 1))]) (rest := []) hx hb hml hown hts (ka_ensure l g z q b t.length cap (t.length + 1) t hc1 hn1 ht htl E0) cu_J5_ensureCapacityInternal_d00df (je_sel_ensure hts hW) q_804 rfl rfl ⟨(Nat.le_of_ble_eq_true rfl), (Nat.le_of_ble_eq_true rfl)⟩ hW rfl rfl hl.1 rfl (Nat.le_of_ble_eq_true rfl) dJ5_append_3fe6f_7 ⟨(Nat.le_of_ble_eq_true rfl), (Nat.le_of_ble_eq_true rfl)⟩) hW (fun u H locs h9 hW => ?_)
  obtain ⟨b1, c1⟩ := u
  obtain ⟨h3, h4, h5⟩ := h9
  replace h3 : t.length + 1 ≤ c1 := h3
  replace h4 : c1 ≤ 128 := h4
  replace h5 : t.length ≤ c1 := h5
  have hW : zl_Wd g ((q, zSo g b1 t.length) :: (b1, zBb g c1 t) :: E0) z s H locs := hW
  refine lv_aload_n hx hb dJ5_append_3fe6f_10 rfl (lv_at hl 0 rfl) ?_
  refine je_ki (rest := []) (je_runU (i := 0) (As := []) (rest := []) hx hb hml hown hts (ka_isl l g z q b1 t.length ((b1, zBb g c1 t) :: E0)) cu_J5_isLatin1_aae02 (sw_w hts q_833) q_831 rfl rfl ⟨(Nat.le_of_ble_eq_true rfl), (Nat.le_of_ble_eq_true rfl)⟩ hW rfl rfl hl.1 rfl (Nat.le_of_ble_eq_true rfl) dJ5_append_3fe6f_11 ⟨(Nat.le_of_ble_eq_true rfl), (Nat.le_of_ble_eq_true rfl)⟩) hW (fun r u H locs h9 hW => ?_)
  subst h9
  have hW : zl_Wd g ((q, zSo g b1 t.length) :: (b1, zBb g c1 t) :: E0) z s H locs := hW
  refine lv_if_eq (tgt := 45) hx hb dJ5_append_3fe6f_14 (by decide) (fun k => absurd k (by decide)) (fun _ => ?_)
  refine lv_iload_n hx hb dJ5_append_3fe6f_17 rfl (lv_at hl 1 rfl) ?_
  refine je_ki (rest := []) (je_runS (As := [.int (nI x)]) (rest := []) hx hb hml hown hts (ka_can l g z x hx0 (zT2 g q b1 t.length c1 t E0)) ct_J1_canEncode_fc78d q_904 rfl rfl ⟨(Nat.le_of_ble_eq_true rfl), (Nat.le_of_ble_eq_true rfl)⟩ hW rfl hl.1 rfl (Nat.le_of_ble_eq_true rfl) dJ5_append_3fe6f_18 ⟨(Nat.le_of_ble_eq_true rfl), (Nat.le_of_ble_eq_true rfl)⟩) hW (fun r u H locs h9 hW => ?_)
  subst h9
  have hW : zl_Wd g ((q, zSo g b1 t.length) :: (b1, zBb g c1 t) :: E0) z s H locs := hW
  refine lv_if_eq (tgt := 45) hx hb dJ5_append_3fe6f_21 (by decide) (fun k => absurd k (by decide)) (fun _ => ?_)
  refine lv_aload_n hx hb dJ5_append_3fe6f_24 rfl (lv_at hl 0 rfl) ?_
  refine je_get hx hb hts qf_B hown hW 0 rfl rfl 0 (by decide) q_790 rfl rfl dJ5_append_3fe6f_25 ?_
  refine lv_aload_n hx hb dJ5_append_3fe6f_28 rfl (lv_at hl 0 rfl) ?_
  refine lv_dup hx hb dJ5_append_3fe6f_29 rfl ?_
  refine je_get hx hb hts qf_B hown hW 0 rfl rfl 3 (by decide) q_793 rfl rfl dJ5_append_3fe6f_30 ?_
  refine lv_dup_x1 hx hb dJ5_append_3fe6f_33 rfl rfl ?_
  refine lv_iconst (v := 1) hx hb dJ5_append_3fe6f_34 (by decide) ?_
  refine lv_iadd hx hb dJ5_append_3fe6f_35 ?_
  rw [show ((nI t.length) + (1 : Int32) : Int32) = nI (t.length + 1) from nI_1 _]
  refine je_putG hx hb hts qf_B tyJ4 tyJ4_ok nmJ4 hown hW 0 rfl rfl 3 (by decide) q_793 rfl (Or.inl rfl) rfl rfl (Nat.le_of_ble_eq_true rfl) dJ5_append_3fe6f_36 (fun H locs hW => ?_)
  have hW : zl_Wd g ((q, zSo g b1 (t.length + 1)) :: (b1, zBb g c1 t) :: E0) z s H locs := hW
  refine lv_iload_n hx hb dJ5_append_3fe6f_39 rfl (lv_at hl 1 rfl) ?_
  refine lv_i2b hx hb dJ5_append_3fe6f_40 (zi2b hx0) ?_
  refine je_bast hx hb hW 1 rfl (zin (by omega) (by omega)) dJ5_append_3fe6f_41 (fun H locs hW => ?_)
  rw [nI_clamp (by omega), va_nar0 hx0] at hW
  replace hW := je_arr (i := 1) (f' := fun j => nI ((t ++ [x]).getD j 0)) (fun j _ => zapp1 j) rfl hW
  have hW : zl_Wd g (zT2 g q b1 (t ++ [x]).length c1 (t ++ [x]) E0) z s H locs := by rw [List.length_append]; exact hW
  refine lv_goto (tgt := 75) hx hb dJ5_append_3fe6f_42 (by decide) ?_
  refine lv_aload_n hx hb dJ5_append_3fe6f_75 rfl (lv_at hl 0 rfl) ?_
  refine W.widen (k := 1) (n := 128) (by omega) (by omega) ?_
  exact je_ra (b1, c1) hx hb hr (Or.inl ⟨_, rfl⟩) hlocks hW ⟨h4, by rw [List.length_append]; exact h3⟩ rfl dJ5_append_3fe6f_76
theorem ct_J6_stringSize_0f7a4 : sw_cS yJ6_stringSize_0f7a4 cJ6_stringSize_0f7a4 4 (some .int) 1 := ⟨q_927, q_21, q_928, by decide +kernel⟩
theorem ka_ssz (l : Launch) (g : sG) (z : zG) (v : Nat) (hv : v < 100) (E0 : va_W) : Met l yJ6_stringSize_0f7a4 (sw_ws yJ6_stringSize_0f7a4 cJ6_stringSize_0f7a4 4 (some .int)) { frames := 0, cells := 0, slots := 0, locals := 0 } (va_Pc [.int (nI v)] (zPe g E0 z)) (va_Qi (fun r _ => r = nI (zdec v).length) (zQe g (fun _ : Unit => E0) z) (sw_A g)) 0 0 (sw_A g) := by
  refine je_met (by decide) (Nat.le_of_ble_eq_true rfl) ?_
  intro p e s m args below meth c ls hx hb hr hts hown hml hlocks hnm hW hl
  have hown : s.vm.findClass RJ6 = some m.cls := hown
  have hl : lv_has ls 4 [(0, .int (nI v))] := hl
  have hF := hW.2.2.2
  refine lv_iconst (v := 1) hx hb dJ6_stringSize_0f7a4_0 (by decide) ?_
  refine lv_istore_n (lv' := [(1, .int (1 : Int32)), (0, .int (nI v))]) hx hb dJ6_stringSize_0f7a4_1 rfl hl (Nat.le_of_ble_eq_true rfl) rfl (fun ls hl => ?_)
  refine lv_iload_n hx hb dJ6_stringSize_0f7a4_2 rfl (lv_at hl 1 rfl) ?_
  refine lv_if_lt (tgt := 11) hx hb dJ6_stringSize_0f7a4_3 (by decide) (fun k => absurd k (zs_ge v hv)) (fun _ => ?_)
  refine lv_iconst (v := 0) hx hb dJ6_stringSize_0f7a4_6 (by decide) ?_
  refine lv_istore_n (lv' := [(1, .int (0 : Int32)), (0, .int (nI v))]) hx hb dJ6_stringSize_0f7a4_7 rfl hl (Nat.le_of_ble_eq_true rfl) rfl (fun ls hl => ?_)
  refine lv_iload_n hx hb dJ6_stringSize_0f7a4_8 rfl (lv_at hl 1 rfl) ?_
  refine lv_ineg hx hb dJ6_stringSize_0f7a4_9 ?_
  refine lv_istore_n (lv' := [(0, .int (-(nI v))), (1, .int (0 : Int32))]) hx hb dJ6_stringSize_0f7a4_10 rfl hl (Nat.le_of_ble_eq_true rfl) rfl (fun ls hl => ?_)
  refine lv_bipush (v := -10) hx hb dJ6_stringSize_0f7a4_11 (by decide) ?_
  refine lv_istore_n (lv' := [(2, .int (-10 : Int32)), (0, .int (-(nI v))), (1, .int (0 : Int32))]) hx hb dJ6_stringSize_0f7a4_13 rfl hl (Nat.le_of_ble_eq_true rfl) rfl (fun ls hl => ?_)
  refine lv_iconst (v := 1) hx hb dJ6_stringSize_0f7a4_14 (by decide) ?_
  refine lv_istore_n (lv' := [(3, .int (1 : Int32)), (2, .int (-10 : Int32)), (0, .int (-(nI v))), (1, .int (0 : Int32))]) hx hb dJ6_stringSize_0f7a4_15 rfl hl (Nat.le_of_ble_eq_true rfl) rfl (fun ls hl => ?_)
  refine lv_iload_n hx hb dJ6_stringSize_0f7a4_16 rfl (lv_at hl 0 rfl) ?_
  refine lv_bipush (v := 10) hx hb dJ6_stringSize_0f7a4_17 (by decide) ?_
  refine lv_icmp_ge (tgt := 42) hx hb dJ6_stringSize_0f7a4_19 (by decide) (fun k => absurd k (by decide)) (fun _ => ?_)
  refine lv_iload_n hx hb dJ6_stringSize_0f7a4_22 rfl (lv_at hl 2 rfl) ?_
  refine lv_iload_n hx hb dJ6_stringSize_0f7a4_23 rfl (lv_at hl 1 rfl) ?_
  by_cases h10 : v < 10
  · refine lv_icmp_le (tgt := 31) hx hb dJ6_stringSize_0f7a4_24 (by decide) (fun k => absurd k (zs_gt10 v h10)) (fun _ => ?_)
    refine lv_iload_n hx hb dJ6_stringSize_0f7a4_27 rfl (lv_at hl 0 rfl) ?_
    refine lv_iload_n hx hb dJ6_stringSize_0f7a4_28 rfl (lv_at hl 3 rfl) ?_
    refine lv_iadd hx hb dJ6_stringSize_0f7a4_29 ?_
    exact je_ri () hx hb hr hlocks hW rfl (by rw [zdec_1 h10]; rfl) dJ6_stringSize_0f7a4_30
  · refine lv_icmp_le (tgt := 31) hx hb dJ6_stringSize_0f7a4_24 (by decide) (fun _ => ?_) (fun k => absurd (zs_le10 v hv h10) k)
    refine lv_bipush (v := 10) hx hb dJ6_stringSize_0f7a4_31 (by decide) ?_
    refine lv_iload_n hx hb dJ6_stringSize_0f7a4_33 rfl (lv_at hl 1 rfl) ?_
    refine lv_imul hx hb dJ6_stringSize_0f7a4_34 ?_
    refine lv_istore_n (lv' := [(2, .int ((10 : Int32) * (-10 : Int32))), (3, .int (1 : Int32)), (0, .int (-(nI v))), (1, .int (0 : Int32))]) hx hb dJ6_stringSize_0f7a4_35 rfl hl (Nat.le_of_ble_eq_true rfl) rfl (fun ls hl => ?_)
    refine lv_iinc (v := (1 : Int32) + (1 : Int32)) (lv' := [(3, .int ((1 : Int32) + (1 : Int32))), (2, .int ((10 : Int32) * (-10 : Int32))), (0, .int (-(nI v))), (1, .int (0 : Int32))]) hx hb dJ6_stringSize_0f7a4_36 hl (k := 1) rfl rfl (Nat.le_of_ble_eq_true rfl) rfl (fun ls hl => ?_)
    refine lv_goto (tgt := 16) hx hb dJ6_stringSize_0f7a4_39 (by decide) ?_
    refine lv_iload_n hx hb dJ6_stringSize_0f7a4_16 rfl (lv_at hl 0 rfl) ?_
    refine lv_bipush (v := 10) hx hb dJ6_stringSize_0f7a4_17 (by decide) ?_
    refine lv_icmp_ge (tgt := 42) hx hb dJ6_stringSize_0f7a4_19 (by decide) (fun k => absurd k (by decide)) (fun _ => ?_)
    refine lv_iload_n hx hb dJ6_stringSize_0f7a4_22 rfl (lv_at hl 2 rfl) ?_
    refine lv_iload_n hx hb dJ6_stringSize_0f7a4_23 rfl (lv_at hl 1 rfl) ?_
    refine lv_icmp_le (tgt := 31) hx hb dJ6_stringSize_0f7a4_24 (by decide) (fun k => absurd k (zs_gt100 v hv)) (fun _ => ?_)
    refine lv_iload_n hx hb dJ6_stringSize_0f7a4_27 rfl (lv_at hl 0 rfl) ?_
    refine lv_iload_n hx hb dJ6_stringSize_0f7a4_28 rfl (lv_at hl 3 rfl) ?_
    refine lv_iadd hx hb dJ6_stringSize_0f7a4_29 ?_
    exact je_ri () hx hb hr hlocks hW rfl (by rw [zdec_2 h10]; rfl) dJ6_stringSize_0f7a4_30
theorem ct_J6_getChars_ba4f3 : sw_cS yJ6_getChars_ba4f3 cJ6_getChars_ba4f3 7 (some .int) 3 := ⟨q_930, q_21, q_931, by decide +kernel⟩
theorem ka_getc (l : Launch) (g : sG) (z : zG) (q b n cap v : Nat) (t : List Nat) (hv : v < 100) (hc1 : cap ≤ 128) (hn1 : t.length + (zdec v).length ≤ cap) (E0 : va_W) : Met l yJ6_getChars_ba4f3 (sw_ws yJ6_getChars_ba4f3 cJ6_getChars_ba4f3 7 (some .int)) { frames := 0, cells := 0, slots := 0, locals := 0 } (va_Pc [.int (nI v), .int (nI (t.length + (zdec v).length)), .ref b] (zPe g ((q, zSo g b n) :: (b, zBb g cap t) :: E0) z)) (va_Qi (fun _ _ => True) (zQe g (fun _ : Unit => zT2 g q b n cap (t ++ zdec v) E0) z) (sw_A g)) 0 0 (sw_A g) := by
  refine je_met (by decide) (Nat.le_of_ble_eq_true rfl) ?_
  intro p e s m args below meth c ls hx hb hr hts hown hml hlocks hnm hW hl
  have hown : s.vm.findClass RJ6 = some m.cls := hown
  have hl : lv_has ls 7 [(0, .int (nI v)), (1, .int (nI (t.length + (zdec v).length))), (2, .ref b)] := hl
  have hF := hW.2.2.2
  obtain ⟨d1, hz1, hT1⟩ := hF.2.2.2.2.2.1.2.2.2.1
  obtain ⟨d2, hz2, hT2⟩ := hF.2.2.2.2.2.1.2.2.2.2
  have hk := zdec_len v
  refine lv_iload_n hx hb dJ6_getChars_ba4f3_0 rfl (lv_at hl 1 rfl) ?_
  refine lv_istore (lv' := [(5, .int (nI (t.length + (zdec v).length))), (0, .int (nI v)), (1, .int (nI (t.length + (zdec v).length))), (2, .ref b)]) hx hb dJ6_getChars_ba4f3_1 hl (Nat.le_of_ble_eq_true rfl) rfl (fun ls hl => ?_)
  refine lv_iload_n hx hb dJ6_getChars_ba4f3_3 rfl (lv_at hl 1 rfl) ?_
  refine lv_if_ge (tgt := 11) hx hb dJ6_getChars_ba4f3_4 (by decide) (fun _ => ?_) (fun k => absurd (zs_ge' v hv) k)
  refine lv_iconst (v := 0) hx hb dJ6_getChars_ba4f3_11 (by decide) ?_
  refine lv_istore (lv' := [(6, .int (0 : Int32)), (5, .int (nI (t.length + (zdec v).length))), (0, .int (nI v)), (1, .int (nI (t.length + (zdec v).length))), (2, .ref b)]) hx hb dJ6_getChars_ba4f3_12 hl (Nat.le_of_ble_eq_true rfl) rfl (fun ls hl => ?_)
  refine lv_iload hx hb dJ6_getChars_ba4f3_14 (lv_at hl 0 rfl) ?_
  refine lv_if_ne (tgt := 22) hx hb dJ6_getChars_ba4f3_16 (by decide) (fun k => absurd rfl k) (fun _ => ?_)
  refine lv_iload_n hx hb dJ6_getChars_ba4f3_19 rfl (lv_at hl 2 rfl) ?_
  refine lv_ineg hx hb dJ6_getChars_ba4f3_20 ?_
  refine lv_istore_n (lv' := [(0, .int (-(nI v))), (6, .int (0 : Int32)), (5, .int (nI (t.length + (zdec v).length))), (1, .int (nI (t.length + (zdec v).length))), (2, .ref b)]) hx hb dJ6_getChars_ba4f3_21 rfl hl (Nat.le_of_ble_eq_true rfl) rfl (fun ls hl => ?_)
  refine lv_iload_n hx hb dJ6_getChars_ba4f3_22 rfl (lv_at hl 0 rfl) ?_
  refine lv_bipush (v := -100) hx hb dJ6_getChars_ba4f3_23 (by decide) ?_
  refine lv_icmp_gt (tgt := 72) hx hb dJ6_getChars_ba4f3_25 (by decide) (fun _ => ?_) (fun k => absurd (zs_g100 v hv) k)
  by_cases h10 : v < 10
  · have hk1 : (zdec v).length = 1 := by rw [zdec_1 h10]; rfl
    refine lv_aload_n hx hb dJ6_getChars_ba4f3_72 rfl (lv_at hl 4 rfl) ?_
    refine lv_iinc (v := nI (t.length + (zdec v).length - 1)) (lv' := [(5, .int (nI (t.length + (zdec v).length - 1))), (0, .int (-(nI v))), (6, .int (0 : Int32)), (1, .int (nI (t.length + (zdec v).length))), (2, .ref b)]) hx hb dJ6_getChars_ba4f3_73 hl (k := 2) rfl (by rw [show nI (t.length + (zdec v).length - 1) = nI (t.length + (zdec v).length - 1) from rfl]; exact nI_dec (by omega)) (Nat.le_of_ble_eq_true rfl) rfl (fun ls hl => ?_)
    refine lv_iload hx hb dJ6_getChars_ba4f3_76 (lv_at hl 0 rfl) ?_
    refine va_gets hx hb hz1 hW.2.2.1 hown (sw_w hts q_932) (fun _ h => h) dJ6_getChars_ba4f3_78 ?_
    refine lv_iload_n hx hb dJ6_getChars_ba4f3_81 rfl (lv_at hl 1 rfl) ?_
    refine lv_ineg hx hb dJ6_getChars_ba4f3_82 ?_
    rw [show (-(-(nI v)) : Int32) = nI v from (by simp)]
    refine va_tb (v := .int (nI (48 + v % 10))) hx hb hT1 hW.2.2.1 (zin (by omega) (by omega)) (by rw [nI_clamp (by omega)]) dJ6_getChars_ba4f3_83 ?_
    refine je_bast hx hb hW 1 rfl (zin (by omega) (by omega)) dJ6_getChars_ba4f3_84 (fun H locs hW => ?_)
    rw [nI_clamp (by omega), va_nar0 (by omega)] at hW
    rw [show t.length + (zdec v).length - 1 = t.length by omega, show v % 10 = v by omega] at hW
    replace hW := je_arr (i := 1) (f' := fun j => nI ((t ++ [48 + v]).getD j 0)) (fun j _ => zapp1 j) rfl hW
    rw [← zdec_1 h10] at hW
    have hW : zl_Wd g (zT2 g q b n cap (t ++ zdec v) E0) z s H locs := hW
    refine lv_iload_n hx hb dJ6_getChars_ba4f3_85 rfl (lv_at hl 1 rfl) ?_
    refine lv_bipush (v := -9) hx hb dJ6_getChars_ba4f3_86 (by decide) ?_
    refine lv_icmp_ge (tgt := 104) hx hb dJ6_getChars_ba4f3_88 (by decide) (fun _ => ?_) (fun k => absurd (zs_ge9 v h10) k)
    refine lv_iload hx hb dJ6_getChars_ba4f3_104 (lv_at hl 2 rfl) ?_
    refine lv_if_eq (tgt := 118) hx hb dJ6_getChars_ba4f3_106 (by decide) (fun _ => ?_) (fun k => absurd (by decide) k)
    refine lv_iload hx hb dJ6_getChars_ba4f3_118 (lv_at hl 0 rfl) ?_
    exact je_ri () hx hb hr hlocks hW rfl trivial dJ6_getChars_ba4f3_120
  · have hk1 : (zdec v).length = 2 := by rw [zdec_2 h10]; rfl
    refine lv_aload_n hx hb dJ6_getChars_ba4f3_72 rfl (lv_at hl 4 rfl) ?_
    refine lv_iinc (v := nI (t.length + (zdec v).length - 1)) (lv' := [(5, .int (nI (t.length + (zdec v).length - 1))), (0, .int (-(nI v))), (6, .int (0 : Int32)), (1, .int (nI (t.length + (zdec v).length))), (2, .ref b)]) hx hb dJ6_getChars_ba4f3_73 hl (k := 2) rfl (by rw [show nI (t.length + (zdec v).length - 1) = nI (t.length + (zdec v).length - 1) from rfl]; exact nI_dec (by omega)) (Nat.le_of_ble_eq_true rfl) rfl (fun ls hl => ?_)
    refine lv_iload hx hb dJ6_getChars_ba4f3_76 (lv_at hl 0 rfl) ?_
    refine va_gets hx hb hz1 hW.2.2.1 hown (sw_w hts q_932) (fun _ h => h) dJ6_getChars_ba4f3_78 ?_
    refine lv_iload_n hx hb dJ6_getChars_ba4f3_81 rfl (lv_at hl 1 rfl) ?_
    refine lv_ineg hx hb dJ6_getChars_ba4f3_82 ?_
    rw [show (-(-(nI v)) : Int32) = nI v from (by simp)]
    refine va_tb (v := .int (nI (48 + v % 10))) hx hb hT1 hW.2.2.1 (zin (by omega) (by omega)) (by rw [nI_clamp (by omega)]) dJ6_getChars_ba4f3_83 ?_
    refine je_bast hx hb hW 1 rfl (zin (by omega) (by omega)) dJ6_getChars_ba4f3_84 (fun H locs hW => ?_)
    rw [nI_clamp (by omega), va_nar0 (by omega)] at hW
    refine lv_iload_n hx hb dJ6_getChars_ba4f3_85 rfl (lv_at hl 1 rfl) ?_
    refine lv_bipush (v := -9) hx hb dJ6_getChars_ba4f3_86 (by decide) ?_
    refine lv_icmp_ge (tgt := 104) hx hb dJ6_getChars_ba4f3_88 (by decide) (fun k => absurd k (zs_lt9 v hv h10)) (fun _ => ?_)
    refine lv_aload_n hx hb dJ6_getChars_ba4f3_91 rfl (lv_at hl 4 rfl) ?_
    refine lv_iinc (v := nI (t.length + (zdec v).length - 1 - 1)) (lv' := [(5, .int (nI (t.length + (zdec v).length - 1 - 1))), (0, .int (-(nI v))), (6, .int (0 : Int32)), (1, .int (nI (t.length + (zdec v).length))), (2, .ref b)]) hx hb dJ6_getChars_ba4f3_92 hl (k := 0) rfl (by rw [show nI (t.length + (zdec v).length - 1 - 1) = nI (t.length + (zdec v).length - 1 - 1) from rfl]; exact nI_dec (by omega)) (Nat.le_of_ble_eq_true rfl) rfl (fun ls hl => ?_)
    refine lv_iload hx hb dJ6_getChars_ba4f3_95 (lv_at hl 0 rfl) ?_
    refine va_gets hx hb hz2 hW.2.2.1 hown (sw_w hts q_933) (fun _ h => h) dJ6_getChars_ba4f3_97 ?_
    refine lv_iload_n hx hb dJ6_getChars_ba4f3_100 rfl (lv_at hl 1 rfl) ?_
    refine lv_ineg hx hb dJ6_getChars_ba4f3_101 ?_
    rw [show (-(-(nI v)) : Int32) = nI v from (by simp)]
    refine va_tb (v := .int (nI (48 + v / 10))) hx hb hT2 hW.2.2.1 (zin (by omega) (by omega)) (by rw [nI_clamp (by omega)]) dJ6_getChars_ba4f3_102 ?_
    refine je_bast hx hb hW 1 rfl (zin (by omega) (by omega)) dJ6_getChars_ba4f3_103 (fun H locs hW => ?_)
    rw [nI_clamp (by omega), va_nar0 (by omega)] at hW
    rw [show t.length + (zdec v).length - 1 - 1 = t.length by omega, show t.length + (zdec v).length - 1 = t.length + 1 by omega] at hW
    replace hW := je_arr (i := 1) (f' := fun j => nI ((t ++ [48 + v / 10, 48 + v % 10]).getD j 0)) (fun j _ => zapp2 j) rfl hW
    rw [← zdec_2 h10] at hW
    have hW : zl_Wd g (zT2 g q b n cap (t ++ zdec v) E0) z s H locs := hW
    refine lv_iload hx hb dJ6_getChars_ba4f3_104 (lv_at hl 2 rfl) ?_
    refine lv_if_eq (tgt := 118) hx hb dJ6_getChars_ba4f3_106 (by decide) (fun _ => ?_) (fun k => absurd (by decide) k)
    refine lv_iload hx hb dJ6_getChars_ba4f3_118 (lv_at hl 0 rfl) ?_
    exact je_ri () hx hb hr hlocks hW rfl trivial dJ6_getChars_ba4f3_120
theorem cx_J5_append_c97b9 : je_cSU yJ5_append_c97b9 cJ5_append_c97b9 4 (some (.object "java/lang/AbstractStringBuilder")) 1 := ⟨qs_appI, qu_B, q_924, q_23, q_925, by decide +kernel⟩
theorem ka_appI (l : Launch) (g : sG) (z : zG) (q b cap v : Nat) (t : List Nat) (hv : v < 100) (hc1 : cap ≤ 128) (hn1 : t.length + (zdec v).length ≤ 64) (ht : zlat t) (htl : t.length ≤ cap) (E0 : va_W) : Met l yJ5_append_c97b9 (sw_ws yJ5_append_c97b9 cJ5_append_c97b9 4 (some (.object "java/lang/AbstractStringBuilder"))) { frames := 4, cells := 1, slots := 128, locals := 160 } (va_Pc [.ref q, .int (nI v)] (zPe g ((q, zSo g b t.length) :: (b, zBb g cap t) :: E0) z)) (je_Qr g (fun u : Nat × Nat => zT2 g q u.1 (t ++ zdec v).length u.2 (t ++ zdec v) E0) (fun _ => q) z (fun u => zbd (t ++ zdec v) u.2)) 1 128 (sw_A g) := by
  refine je_met (by decide) (Nat.le_of_ble_eq_true rfl) ?_
  intro p e s m args below meth c ls hx hb hr hts hown hml hlocks hnm hW hl
  have hown : s.vm.findClass RJ5 = some m.cls := hown
  have hl : lv_has ls 4 [(0, .ref q), (1, .int (nI v))] := hl
  have hF := hW.2.2.2
  refine lv_aload_n hx hb dJ5_append_c97b9_0 rfl (lv_at hl 0 rfl) ?_
  refine je_get hx hb hts qf_B hown hW 0 rfl rfl 3 (by decide) q_793 rfl rfl dJ5_append_c97b9_1 ?_
  refine lv_istore_n (lv' := [(2, .int (nI t.length)), (0, .ref q), (1, .int (nI v))]) hx hb dJ5_append_c97b9_4 rfl hl (Nat.le_of_ble_eq_true rfl) rfl (fun ls hl => ?_)
  refine lv_iload_n hx hb dJ5_append_c97b9_5 rfl (lv_at hl 0 rfl) ?_
  refine lv_iload_n hx hb dJ5_append_c97b9_6 rfl (lv_at hl 2 rfl) ?_
  refine je_ki (rest := [.int (nI t.length)]) (je_runS (As := [.int (nI v)]) (rest := [.int (nI t.length)]) hx hb hml hown hts (ka_ssz l g z v hv (zT2 g q b t.length cap t E0)) ct_J6_stringSize_0f7a4 q_926 rfl rfl ⟨(Nat.le_of_ble_eq_true rfl), (Nat.le_of_ble_eq_true rfl)⟩ hW rfl hl.1 rfl (Nat.le_of_ble_eq_true rfl) dJ5_append_c97b9_7 ⟨(Nat.le_of_ble_eq_true rfl), (Nat.le_of_ble_eq_true rfl)⟩) hW (fun r u H locs h9 hW => ?_)
  subst h9
  have hW : zl_Wd g ((q, zSo g b t.length) :: (b, zBb g cap t) :: E0) z s H locs := hW
  refine lv_iadd hx hb dJ5_append_c97b9_10 ?_
  rw [show ((nI t.length) + (nI (zdec v).length) : Int32) = nI (t.length + (zdec v).length) from nI_add _ _]
  refine lv_istore_n (lv' := [(3, .int (nI (t.length + (zdec v).length))), (2, .int (nI t.length)), (0, .ref q), (1, .int (nI v))]) hx hb dJ5_append_c97b9_11 rfl hl (Nat.le_of_ble_eq_true rfl) rfl (fun ls hl => ?_)
  refine lv_aload_n hx hb dJ5_append_c97b9_12 rfl (lv_at hl 2 rfl) ?_
  refine lv_iload_n hx hb dJ5_append_c97b9_13 rfl (lv_at hl 0 rfl) ?_
  refine je_kv (rest := []) (je_runU (i := 0) (As := [.int (nI (t.length + (zdec v).length))]) (rest := []) hx hb hml hown hts (ka_ensure l g z q b t.length cap (t.length + (zdec v).length) t hc1 hn1 ht htl E0) cu_J5_ensureCapacityInternal_d00df (je_sel_ensure hts hW) q_804 rfl rfl ⟨(Nat.le_of_ble_eq_true rfl), (Nat.le_of_ble_eq_true rfl)⟩ hW rfl rfl hl.1 rfl (Nat.le_of_ble_eq_true rfl) dJ5_append_c97b9_14 ⟨(Nat.le_of_ble_eq_true rfl), (Nat.le_of_ble_eq_true rfl)⟩) hW (fun u H locs h9 hW => ?_)
  obtain ⟨b1, c1⟩ := u
  obtain ⟨h3, h4, h5⟩ := h9
  replace h3 : t.length + (zdec v).length ≤ c1 := h3
  replace h4 : c1 ≤ 128 := h4
  replace h5 : t.length ≤ c1 := h5
  have hW : zl_Wd g ((q, zSo g b1 t.length) :: (b1, zBb g c1 t) :: E0) z s H locs := hW
  refine lv_aload_n hx hb dJ5_append_c97b9_17 rfl (lv_at hl 2 rfl) ?_
  refine je_ki (rest := []) (je_runU (i := 0) (As := []) (rest := []) hx hb hml hown hts (ka_isl l g z q b1 t.length ((b1, zBb g c1 t) :: E0)) cu_J5_isLatin1_aae02 (sw_w hts q_833) q_831 rfl rfl ⟨(Nat.le_of_ble_eq_true rfl), (Nat.le_of_ble_eq_true rfl)⟩ hW rfl rfl hl.1 rfl (Nat.le_of_ble_eq_true rfl) dJ5_append_c97b9_18 ⟨(Nat.le_of_ble_eq_true rfl), (Nat.le_of_ble_eq_true rfl)⟩) hW (fun r u H locs h9 hW => ?_)
  subst h9
  have hW : zl_Wd g ((q, zSo g b1 t.length) :: (b1, zBb g c1 t) :: E0) z s H locs := hW
  refine lv_if_eq (tgt := 37) hx hb dJ5_append_c97b9_21 (by decide) (fun k => absurd k (by decide)) (fun _ => ?_)
  refine lv_iload_n hx hb dJ5_append_c97b9_24 rfl (lv_at hl 3 rfl) ?_
  refine lv_iload_n hx hb dJ5_append_c97b9_25 rfl (lv_at hl 0 rfl) ?_
  refine lv_aload_n hx hb dJ5_append_c97b9_26 rfl (lv_at hl 2 rfl) ?_
  refine je_get hx hb hts qf_B hown hW 0 rfl rfl 0 (by decide) q_790 rfl rfl dJ5_append_c97b9_27 ?_
  refine je_ki (rest := []) (je_runS (As := [.int (nI v), .int (nI (t.length + (zdec v).length)), .ref b1]) (rest := []) hx hb hml hown hts (ka_getc l g z q b1 t.length c1 v t hv h4 h3 E0) ct_J6_getChars_ba4f3 q_929 rfl rfl ⟨(Nat.le_of_ble_eq_true rfl), (Nat.le_of_ble_eq_true rfl)⟩ hW rfl hl.1 rfl (Nat.le_of_ble_eq_true rfl) dJ5_append_c97b9_30 ⟨(Nat.le_of_ble_eq_true rfl), (Nat.le_of_ble_eq_true rfl)⟩) hW (fun r u H locs h9 hW => ?_)
  have hW : zl_Wd g ((q, zSo g b1 t.length) :: (b1, zBb g c1 (t ++ zdec v)) :: E0) z s H locs := hW
  refine lv_pop hx hb dJ5_append_c97b9_33 rfl ?_
  refine lv_goto (tgt := 48) hx hb dJ5_append_c97b9_34 (by decide) ?_
  refine lv_aload_n hx hb dJ5_append_c97b9_48 rfl (lv_at hl 2 rfl) ?_
  refine lv_iload_n hx hb dJ5_append_c97b9_49 rfl (lv_at hl 0 rfl) ?_
  refine je_putG hx hb hts qf_B tyJ4 tyJ4_ok nmJ4 hown hW 0 rfl rfl 3 (by decide) q_793 rfl (Or.inl rfl) rfl rfl (Nat.le_of_ble_eq_true rfl) dJ5_append_c97b9_50 (fun H locs hW => ?_)
  have hW : zl_Wd g ((q, zSo g b1 (t.length + (zdec v).length)) :: (b1, zBb g c1 (t ++ zdec v)) :: E0) z s H locs := hW
  rw [← List.length_append] at hW
  refine lv_aload_n hx hb dJ5_append_c97b9_53 rfl (lv_at hl 2 rfl) ?_
  refine W.widen (k := 1) (n := 128) (by omega) (by omega) ?_
  exact je_ra (b1, c1) hx hb hr (Or.inl ⟨_, rfl⟩) hlocks hW ⟨h4, by rw [List.length_append]; exact h3⟩ rfl dJ5_append_c97b9_54
