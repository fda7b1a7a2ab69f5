/-! The builder's own methods. -/
abbrev zT2 (g : sG) (q b n cap : Nat) (t : List Nat) (E0 : va_W) : va_W := (q, zSo g b n) :: (b, zBb g cap t) :: E0
def zlat (t : List Nat) : Prop := ∀ c ∈ t, c < 128
theorem zgetD0 {t : List Nat} {j : Nat} (h : t.length ≤ j) : t.getD j 0 = 0 := by simp [List.getD, List.getElem?_eq_none h]
theorem zlat.at {t : List Nat} (h : zlat t) (j : Nat) : t.getD j 0 < 128 := by
  rcases Nat.lt_or_ge j t.length with h1 | h1
  · rw [show t.getD j 0 = t[j] by simp [List.getD, h1]]
    exact h _ (List.getElem_mem h1)
  · rw [zgetD0 h1]; decide
theorem zfit {x : Nat} (h : x < 128) : fits .byte (.int (nI x)) = true := by
  have h2 : ∀ n : Nat, n < 128 → fits .byte (.int (nI n)) = true := by decide +kernel
  exact h2 x h
theorem zi2b {x : Nat} (h : x < 128) : (nI x).toInt8.toInt32 = nI x := by
  have h2 : ∀ n : Nat, n < 128 → (nI n).toInt8.toInt32 = nI n := by decide +kernel
  exact h2 x h
def zcap (cap need : Nat) : Nat := cap + max (need - cap) (cap + 2)
theorem zcap_le {cap need : Nat} (h : cap < need) (hn : need ≤ 64) : need ≤ zcap cap need ∧ zcap cap need ≤ 128 ∧ cap < zcap cap need := by
  unfold zcap
  rcases Nat.le_total (need - cap) (cap + 2) with h1 | h1
  · rw [Nat.max_eq_right h1]; omega
  · rw [Nat.max_eq_left h1]; omega
theorem zin {i N : Nat} (h : i < N) (hN : N < 2 ^ 31) : vp_in (nI i) N := nI_in h hN
theorem zget_app {t u : List Nat} {j : Nat} : (t ++ u).getD j 0 = if j < t.length then t.getD j 0 else u.getD (j - t.length) 0 := by
  by_cases h : j < t.length
  · rw [if_pos h]; simp [List.getD, List.getElem?_append_left h]
  · rw [if_neg h]; simp [List.getD, List.getElem?_append_right (Nat.not_lt.mp h)]
theorem je_app {E : va_W} {i a : Nat} {e x : va_E} {q : Nat} (hE : E[i]? = some (a, e)) : (E ++ [(q, x)])[i]? = some (a, e) := by rw [List.getElem?_append_left (List.getElem?_eq_some_iff.mp hE).1]; exact hE
theorem je_last {E : va_W} {q : Nat} {x : va_E} : (E ++ [(q, x)])[E.length]? = some (q, x) := by simp
theorem je_setl {E : va_W} {q : Nat} {x y : va_E} : (E ++ [(q, x)]).set E.length (q, y) = E ++ [(q, y)] := by rw [List.set_append_right _ _ (Nat.le_refl _), Nat.sub_self]; rfl
theorem nI_nmax {x : Nat} (h : x ≤ 2000) : ¬ nI x = (2147483647 : Int32) := by
  show ¬ nI x = nI 2147483647
  rw [nI_eq (by omega) (by omega)]
  omega
theorem nI_suble {a b : Nat} (h : a ≤ b) (ha : a < 1000) (hb : b < 1000) : nI a - nI b ≤ 0 := by
  have h1 : nI a - nI b = -(nI (b - a)) := by
    rw [← nI_sub h, Int32.neg_sub]
  rw [h1]
  have h2 : ∀ n : Nat, n < 1000 → -(nI n) ≤ 0 := by decide +kernel
  exact h2 _ (by omega)
theorem cu_J5_newCapacity_0f7a4 : je_cU yJ5_newCapacity_0f7a4 yJ5_newCapacity_0f7a4 cJ5_newCapacity_0f7a4 6 (some .int) 1 := ⟨qs_newcap, q_808, q_23, q_809, rfl, by decide +kernel⟩
theorem ka_newcap (l : Launch) (g : sG) (z : zG) (q b n cap need : Nat) (t : List Nat) (h1 : cap < need) (h2 : need ≤ 64) (E0 : va_W) : Met l yJ5_newCapacity_0f7a4 (sw_ws yJ5_newCapacity_0f7a4 cJ5_newCapacity_0f7a4 6 (some .int)) { frames := 2, cells := 0, slots := 0, locals := 80 } (va_Pc [.ref q, .int (nI need)] (zPe g ((q, zSo g b n) :: (b, zBb g cap t) :: E0) z)) (va_Qi (fun r _ => r = nI (zcap cap need)) (zQe g (fun _ : Unit => zT2 g q b n cap t E0) z) (sw_A g)) 0 0 (sw_A g) := by
  refine je_met (by decide) (Nat.le_of_ble_eq_true rfl) ?_
  intro p e s m args below meth c ls hx hb hr hts hown hml hlocks hnm hW hl
  have hown : s.vm.findClass RJ5 = some m.cls := hown
  have hl : lv_has ls 6 [(0, .ref q), (1, .int (nI need))] := hl
  have hF := hW.2.2.2
  have h3 := zcap_le h1 h2
  refine lv_aload_n hx hb dJ5_newCapacity_0f7a4_0 rfl (lv_at hl 0 rfl) ?_
  refine je_get hx hb hts qf_B hown hW 0 rfl rfl 0 (by decide) q_790 rfl rfl dJ5_newCapacity_0f7a4_1 ?_
  refine je_alen hx hb hW 1 rfl dJ5_newCapacity_0f7a4_4 ?_
  refine lv_istore_n (lv' := [(2, .int (nI cap)), (0, .ref q), (1, .int (nI need))]) hx hb dJ5_newCapacity_0f7a4_5 rfl hl (Nat.le_of_ble_eq_true rfl) rfl (fun ls hl => ?_)
  refine lv_iload_n hx hb dJ5_newCapacity_0f7a4_6 rfl (lv_at hl 2 rfl) ?_
  refine lv_aload_n hx hb dJ5_newCapacity_0f7a4_7 rfl (lv_at hl 1 rfl) ?_
  refine je_get hx hb hts qf_B hown hW 0 rfl rfl 1 (by decide) q_791 rfl rfl dJ5_newCapacity_0f7a4_8 ?_
  refine lv_ishl hx hb dJ5_newCapacity_0f7a4_11 ?_
  rw [sw_shl0]
  refine lv_istore_n (lv' := [(3, .int (nI need)), (2, .int (nI cap)), (0, .ref q), (1, .int (nI need))]) hx hb dJ5_newCapacity_0f7a4_12 rfl hl (Nat.le_of_ble_eq_true rfl) rfl (fun ls hl => ?_)
  refine lv_iload_n hx hb dJ5_newCapacity_0f7a4_13 rfl (lv_at hl 0 rfl) ?_
  refine lv_iload_n hx hb dJ5_newCapacity_0f7a4_14 rfl (lv_at hl 1 rfl) ?_
  refine lv_isub hx hb dJ5_newCapacity_0f7a4_15 ?_
  rw [show ((nI need) - (nI cap) : Int32) = nI (need - cap) from nI_sub (by omega)]
  refine lv_istore (lv' := [(4, .int (nI (need - cap))), (3, .int (nI need)), (2, .int (nI cap)), (0, .ref q), (1, .int (nI need))]) hx hb dJ5_newCapacity_0f7a4_16 hl (Nat.le_of_ble_eq_true rfl) rfl (fun ls hl => ?_)
  refine lv_iload_n hx hb dJ5_newCapacity_0f7a4_18 rfl (lv_at hl 2 rfl) ?_
  refine lv_iload hx hb dJ5_newCapacity_0f7a4_19 (lv_at hl 0 rfl) ?_
  refine lv_iload_n hx hb dJ5_newCapacity_0f7a4_21 rfl (lv_at hl 2 rfl) ?_
  refine lv_iconst (v := 2) hx hb dJ5_newCapacity_0f7a4_22 (by decide) ?_
  refine lv_aload_n hx hb dJ5_newCapacity_0f7a4_23 rfl (lv_at hl 3 rfl) ?_
  refine je_get hx hb hts qf_B hown hW 0 rfl rfl 1 (by decide) q_791 rfl rfl dJ5_newCapacity_0f7a4_24 ?_
  refine lv_ishl hx hb dJ5_newCapacity_0f7a4_27 ?_
  rw [sw_shl0]
  refine lv_iadd hx hb dJ5_newCapacity_0f7a4_28 ?_
  rw [show ((nI cap) + (2 : Int32) : Int32) = nI (cap + 2) from nI_add cap 2]
  refine je_ki (rest := []) (je_runS (As := [.int (nI cap), .int (nI (need - cap)), .int (nI (cap + 2))]) (rest := []) hx hb hml hown hts (ka_newlen l g z cap (need - cap) (cap + 2) (by omega) (by omega) (by omega) (by omega) (zT2 g q b n cap t E0)) ct_J8_newLength_cabcc q_810 rfl rfl ⟨(Nat.le_of_ble_eq_true rfl), (Nat.le_of_ble_eq_true rfl)⟩ hW rfl hl.1 rfl (Nat.le_of_ble_eq_true rfl) dJ5_newCapacity_0f7a4_29 ⟨(Nat.le_of_ble_eq_true rfl), (Nat.le_of_ble_eq_true rfl)⟩) hW (fun r u H locs h9 hW => ?_)
  subst h9
  show W _ _ _ _ _ _ _ _ _ _ _ _ _ _ _ (F0 m 32 ls [.int (nI (zcap cap need))])
  refine lv_istore (lv' := [(5, .int (nI (zcap cap need))), (4, .int (nI (need - cap))), (3, .int (nI need)), (2, .int (nI cap)), (0, .ref q), (1, .int (nI need))]) hx hb dJ5_newCapacity_0f7a4_32 hl (Nat.le_of_ble_eq_true rfl) rfl (fun ls hl => ?_)
  refine lv_iload hx hb dJ5_newCapacity_0f7a4_34 (lv_at hl 0 rfl) ?_
  refine lv_ldc hx hb hown (sw_w hts q_818) dJ5_newCapacity_0f7a4_36 ?_
  refine lv_icmp_ne (tgt := 51) hx hb dJ5_newCapacity_0f7a4_38 (by decide) (fun _ => ?_) (fun k => absurd k (nI_nmax (x := zcap cap need) (by omega)))
  refine lv_iload hx hb dJ5_newCapacity_0f7a4_51 (lv_at hl 0 rfl) ?_
  refine lv_aload_n hx hb dJ5_newCapacity_0f7a4_53 rfl (lv_at hl 4 rfl) ?_
  refine je_get hx hb hts qf_B hown hW 0 rfl rfl 1 (by decide) q_791 rfl rfl dJ5_newCapacity_0f7a4_54 ?_
  refine lv_ishr hx hb dJ5_newCapacity_0f7a4_57 ?_
  rw [sw_shr0]
  exact je_ri () hx hb hr hlocks hW rfl rfl dJ5_newCapacity_0f7a4_58
theorem ct_J7_copyOf_9075b : sw_cS yJ7_copyOf_9075b cJ7_copyOf_9075b 3 (some (.array .byte)) 2 := ⟨q_820, q_27, q_821, by decide +kernel⟩
theorem ka_copyOf (l : Launch) (g : sG) (z : zG) (i b cap N : Nat) (t : List Nat) (E : va_W) (hE : E[i]? = some (b, zBb g cap t)) (hN : cap < N) (hN2 : N ≤ 128) (ht : zlat t) (htl : t.length ≤ cap) : Met l yJ7_copyOf_9075b (sw_ws yJ7_copyOf_9075b cJ7_copyOf_9075b 3 (some (.array .byte))) { frames := 1, cells := 1, slots := 128, locals := 60 } (va_Pc [.ref b, .int (nI N)] (zPe g E z)) (je_Qr g (fun q9 : Nat => E ++ [(q9, zBb g N t)]) (fun q9 => q9) z (fun _ => True)) 1 128 (sw_A g) := by
  refine je_met (by decide) (Nat.le_of_ble_eq_true rfl) ?_
  intro p e s m args below meth c ls hx hb hr hts hown hml hlocks hnm hW hl
  have hown : s.vm.findClass RJ7 = some m.cls := hown
  have hl : lv_has ls 3 [(0, .ref b), (1, .int (nI N))] := hl
  have hF := hW.2.2.2
  refine lv_iload_n hx hb dJ7_copyOf_9075b_0 rfl (lv_at hl 1 rfl) ?_
  refine lv_aload_n hx hb dJ7_copyOf_9075b_1 rfl (lv_at hl 0 rfl) ?_
  refine je_alen hx hb hW i hE dJ7_copyOf_9075b_2 ?_
  refine lv_icmp_ne (tgt := 14) hx hb dJ7_copyOf_9075b_3 (by decide) (fun _ => ?_) (fun k => absurd k (show ¬ nI N = nI cap by rw [nI_eq (by omega) (by omega)]; omega))
  refine lv_iload_n hx hb dJ7_copyOf_9075b_14 rfl (lv_at hl 1 rfl) ?_
  refine zl_newa (g := g) hx hb hts (atype := .byte) qa_byte 6 rfl rfl hW (a0 := (N, .inl (fun _ => 0))) (fun _ => rfl) (nI_pos (by omega)) (nI_clamp (by omega)) (by show N * 1 ≤ _; omega) (by show 0 + 1 ≤ 1; omega) (by show 0 + N ≤ 128; omega) dJ7_copyOf_9075b_15 (fun q9 H hW => ?_)
  refine lv_astore_n (lv' := [(2, .ref q9), (0, .ref b), (1, .int (nI N))]) hx hb dJ7_copyOf_9075b_17 rfl hl (Nat.le_of_ble_eq_true rfl) rfl (fun ls hl => ?_)
  have hE1 := je_app (q := q9) (x := .inl (sw_ac g 6, N, .inl (fun _ => (0 : Int32)))) hE
  refine lv_aload_n hx hb dJ7_copyOf_9075b_18 rfl (lv_at hl 1 rfl) ?_
  refine lv_iconst (v := 0) hx hb dJ7_copyOf_9075b_19 (by decide) ?_
  refine lv_aload_n hx hb dJ7_copyOf_9075b_20 rfl (lv_at hl 0 rfl) ?_
  refine lv_iconst (v := 0) hx hb dJ7_copyOf_9075b_21 (by decide) ?_
  refine lv_aload_n hx hb dJ7_copyOf_9075b_22 rfl (lv_at hl 1 rfl) ?_
  refine je_alen hx hb hW i hE1 dJ7_copyOf_9075b_23 ?_
  refine lv_iload_n hx hb dJ7_copyOf_9075b_24 rfl (lv_at hl 2 rfl) ?_
  refine va_mmin hx hb (hml.trans hl.1.symm) hown (sw_w hts q_827) (sw_w hts q_261) (sw_w hts q_17) (sw_w hts q_262) (Nat.le_of_ble_eq_true rfl) (Nat.le_of_ble_eq_true rfl) (by show 0 + 1 ≤ 1; omega) (by show 0 + N ≤ 128; omega) dJ7_copyOf_9075b_25 ?_
  rw [show (if nI N < nI cap then nI N else nI cap) = nI cap from if_neg (nI_nlt (by omega) (by omega))]
  refine je_copy (sp := 0) (dp := 0) (k := cap) (rest := []) hx hb hml hl.1 hown hts q_828 q_830 q_829 q_28 hW i E.length hE1 je_last (by omega) (by omega) (fun j hj => zfit (ht.at _)) (Nat.le_of_ble_eq_true rfl) (Nat.le_of_ble_eq_true rfl) dJ7_copyOf_9075b_28 (fun H locs hW => ?_)
  rw [je_setl] at hW
  have hcp : ∀ j, j < N → va_cpy (fun j => nI (t.getD j 0)) (fun _ => (0 : Int32)) 0 0 cap j = nI (t.getD j 0) := fun j hj => by
    unfold va_cpy
    by_cases h : j < cap
    · rw [if_pos ⟨Nat.zero_le _, by omega⟩, Nat.sub_zero, Nat.zero_add]
    · rw [if_neg (by omega), zgetD0 (by omega)]; rfl
  replace hW := je_arr (i := E.length) (f' := fun j => nI (t.getD j 0)) hcp je_last hW
  rw [je_setl] at hW
  have hW : zl_Wd g (E ++ [(q9, zBb g N t)]) z s H locs := hW
  refine lv_aload_n hx hb dJ7_copyOf_9075b_31 rfl (lv_at hl 0 rfl) ?_
  refine W.widen (k := 1) (n := 128) (by omega) (by omega) ?_
  exact je_ra q9 hx hb hr (Or.inr ⟨_, rfl⟩) hlocks hW trivial rfl dJ7_copyOf_9075b_32
theorem je_sel_ensure {args : Array Value} {s : State} {c0 : Cond} {g : sG} {E : va_W} {z : zG} {H : Heap} {locs : List Loc} (hts : ∀ w ∈ c0 :: sw_all, w.before args s = true) (hW : zl_Wd g E z s H locs) : (Cond.selects RJ4 yJ5_ensureCapacityInternal_d00df yJ5_ensureCapacityInternal_d00df).before args s = true := je_sel hts hW rfl qp_ensure q_805 qs_ensure
theorem cu_J5_ensureCapacityInternal_d00df : je_cU yJ5_ensureCapacityInternal_d00df yJ5_ensureCapacityInternal_d00df cJ5_ensureCapacityInternal_d00df 3 none 1 := ⟨qs_ensure, q_805, q_23, q_806, rfl, by decide +kernel⟩
theorem ka_ensure (l : Launch) (g : sG) (z : zG) (q b n cap need : Nat) (t : List Nat) (hc1 : cap ≤ 128) (hn1 : need ≤ 64) (ht : zlat t) (htl : t.length ≤ cap) (E0 : va_W) : Met l yJ5_ensureCapacityInternal_d00df (sw_ws yJ5_ensureCapacityInternal_d00df cJ5_ensureCapacityInternal_d00df 3 none) { frames := 3, cells := 1, slots := 128, locals := 120 } (va_Pc [.ref q, .int (nI need)] (zPe g ((q, zSo g b n) :: (b, zBb g cap t) :: E0) z)) (va_Qv (fun u => need ≤ u.2 ∧ u.2 ≤ 128 ∧ t.length ≤ u.2) (zQe g (fun u : Nat × Nat => zT2 g q u.1 n u.2 t E0) z) (sw_A g)) 1 128 (sw_A g) := by
  refine je_met (by decide) (Nat.le_of_ble_eq_true rfl) ?_
  intro p e s m args below meth c ls hx hb hr hts hown hml hlocks hnm hW hl
  have hown : s.vm.findClass RJ5 = some m.cls := hown
  have hl : lv_has ls 3 [(0, .ref q), (1, .int (nI need))] := hl
  have hF := hW.2.2.2
  refine lv_aload_n hx hb dJ5_ensureCapacityInternal_d00df_0 rfl (lv_at hl 0 rfl) ?_
  refine je_get hx hb hts qf_B hown hW 0 rfl rfl 0 (by decide) q_790 rfl rfl dJ5_ensureCapacityInternal_d00df_1 ?_
  refine je_alen hx hb hW 1 rfl dJ5_ensureCapacityInternal_d00df_4 ?_
  refine lv_aload_n hx hb dJ5_ensureCapacityInternal_d00df_5 rfl (lv_at hl 0 rfl) ?_
  refine je_get hx hb hts qf_B hown hW 0 rfl rfl 1 (by decide) q_791 rfl rfl dJ5_ensureCapacityInternal_d00df_6 ?_
  refine lv_ishr hx hb dJ5_ensureCapacityInternal_d00df_9 ?_
  rw [sw_shr0]
  refine lv_istore_n (lv' := [(2, .int (nI cap)), (0, .ref q), (1, .int (nI need))]) hx hb dJ5_ensureCapacityInternal_d00df_10 rfl hl (Nat.le_of_ble_eq_true rfl) rfl (fun ls hl => ?_)
  refine lv_iload_n hx hb dJ5_ensureCapacityInternal_d00df_11 rfl (lv_at hl 2 rfl) ?_
  refine lv_iload_n hx hb dJ5_ensureCapacityInternal_d00df_12 rfl (lv_at hl 0 rfl) ?_
  refine lv_isub hx hb dJ5_ensureCapacityInternal_d00df_13 ?_
  by_cases hle : need ≤ cap
  · refine lv_if_le (tgt := 38) hx hb dJ5_ensureCapacityInternal_d00df_14 (by decide) (fun _ => ?_) (fun k => absurd (nI_suble hle (by omega) (by omega)) k)
    refine W.widen (k := 1) (n := 128) (by omega) (by omega) ?_
    exact je_rv (b, cap) hx hb hr hlocks hW ⟨hle, hc1, htl⟩ dJ5_ensureCapacityInternal_d00df_38
  · have hlt : cap < need := Nat.not_le.mp hle
    have h3 := zcap_le hlt hn1
    refine lv_if_le (tgt := 38) hx hb dJ5_ensureCapacityInternal_d00df_14 (by decide) (fun k => absurd k (by rw [nI_sub (by omega)]; exact nI_nle (by omega) (by omega))) (fun _ => ?_)
    refine lv_aload_n hx hb dJ5_ensureCapacityInternal_d00df_17 rfl (lv_at hl 1 rfl) ?_
    refine lv_aload_n hx hb dJ5_ensureCapacityInternal_d00df_18 rfl (lv_at hl 1 rfl) ?_
    refine je_get hx hb hts qf_B hown hW 0 rfl rfl 0 (by decide) q_790 rfl rfl dJ5_ensureCapacityInternal_d00df_19 ?_
    refine lv_aload_n hx hb dJ5_ensureCapacityInternal_d00df_22 rfl (lv_at hl 1 rfl) ?_
    refine lv_iload_n hx hb dJ5_ensureCapacityInternal_d00df_23 rfl (lv_at hl 2 rfl) ?_
    refine je_ki (rest := [.ref b, .ref q]) (je_runU (i := 0) (As := [.int (nI need)]) (rest := [.ref b, .ref q]) hx hb hml hown hts (ka_newcap l g z q b n cap need t hlt hn1 E0) cu_J5_newCapacity_0f7a4 (je_sel hts hW rfl qp_newcap q_808 qs_newcap) q_807 rfl rfl ⟨(Nat.le_of_ble_eq_true rfl), (Nat.le_of_ble_eq_true rfl)⟩ hW rfl rfl hl.1 rfl (Nat.le_of_ble_eq_true rfl) dJ5_ensureCapacityInternal_d00df_24 ⟨(Nat.le_of_ble_eq_true rfl), (Nat.le_of_ble_eq_true rfl)⟩) hW (fun r u H locs h9 hW => ?_)
    subst h9
    have hW : zl_Wd g ((q, zSo g b n) :: (b, zBb g cap t) :: E0) z s H locs := hW
    refine lv_aload_n hx hb dJ5_ensureCapacityInternal_d00df_27 rfl (lv_at hl 1 rfl) ?_
    refine je_get hx hb hts qf_B hown hW 0 rfl rfl 1 (by decide) q_791 rfl rfl dJ5_ensureCapacityInternal_d00df_28 ?_
    refine lv_ishl hx hb dJ5_ensureCapacityInternal_d00df_31 ?_
    rw [sw_shl0]
    refine je_kr (rest := [.ref q]) (je_runS (As := [.ref b, .int (nI (zcap cap need))]) (rest := [.ref q]) hx hb hml hown hts (ka_copyOf l g z 1 b cap (zcap cap need) t (zT2 g q b n cap t E0) rfl (by omega) (by omega) ht htl) ct_J7_copyOf_9075b q_819 rfl rfl ⟨(Nat.le_of_ble_eq_true rfl), (Nat.le_of_ble_eq_true rfl)⟩ hW rfl hl.1 rfl (Nat.le_of_ble_eq_true rfl) dJ5_ensureCapacityInternal_d00df_32 ⟨(Nat.le_of_ble_eq_true rfl), (Nat.le_of_ble_eq_true rfl)⟩) hW (fun b9 H locs h9 hW => ?_)
    have hW : zl_Wd g ((q, zSo g b n) :: (b, zBb g cap t) :: (E0 ++ [(b9, zBb g (zcap cap need) t)])) z s H locs := hW
    refine je_putG hx hb hts qf_B tyJ4 tyJ4_ok nmJ4 hown hW 0 rfl rfl 0 (by decide) q_790 rfl (Or.inl rfl) rfl rfl (Nat.le_of_ble_eq_true rfl) dJ5_ensureCapacityInternal_d00df_35 (fun H locs hW => ?_)
    have hW : zl_Wd g ((q, zSo g b9 n) :: (b, zBb g cap t) :: (E0 ++ [(b9, zBb g (zcap cap need) t)])) z s H locs := hW
    replace hW := je_swap hW
    refine W.widen (k := 1) (n := 128) (by omega) (by omega) ?_
    exact je_rv (b9, zcap cap need) hx hb hr hlocks hW ⟨by omega, by omega, by omega⟩ dJ5_ensureCapacityInternal_d00df_38
