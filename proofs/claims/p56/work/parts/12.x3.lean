def lX3_candidatesFor_15 (i1 : Nat) (a2 : Int32) (M : sM) (K15 : Int32 → Prop) : Nat → Int32 → Int32 → Prop
  | 0, _, _ => False
  | n15 + 1, x2_15, x3_15 => ((M (sw_st i1) 6) ≤ x3_15 → (K15 x2_15)) ∧ (¬ (M (sw_st i1) 6) ≤ x3_15 → (wX5_canJudge i1 x3_15 a2 M (fun r4 => (r4 = 0 → (∀ v6 : Int32, v6 = x3_15 + (1 : Int32) → ((fun x2_15 x3_15 => lX3_candidatesFor_15 i1 a2 M K15 n15 x2_15 x3_15) x2_15 v6))) ∧ (¬ r4 = 0 → (wX5_assigned i1 x3_15 a2 M (fun r7 => (r7 = 0 → (∀ v10 : Int32, v10 = (x2_15 ||| ((1 : Int32) <<< (x3_15 &&& 31))) → (∀ v11 : Int32, v11 = x3_15 + (1 : Int32) → ((fun x2_15 x3_15 => lX3_candidatesFor_15 i1 a2 M K15 n15 x2_15 x3_15) v10 v11)))) ∧ (¬ r7 = 0 → (∀ v9 : Int32, v9 = x3_15 + (1 : Int32) → ((fun x2_15 x3_15 => lX3_candidatesFor_15 i1 a2 M K15 n15 x2_15 x3_15) x2_15 v9)))))))))
theorem cs_X3_candidatesFor : sw_cS yX3_candidatesFor cX3_candidatesFor 4 (some .int) 2 := ⟨q_360, q_5, q_361, by decide +kernel⟩
def wX3_candidatesFor (i1 : Nat) (a2 : Int32) (M : sM) (Q : Int32 → Prop) : Prop :=
  wX5_assignedCount i1 a2 M (fun r1 => (r1 < (3 : Int32) → (∃ n15, lX3_candidatesFor_15 i1 a2 M (fun x2_15k => Q x2_15k) n15 (0 : Int32) (0 : Int32))) ∧ (¬ r1 < (3 : Int32) → (Q (0 : Int32))))
set_option maxRecDepth 20000 in
theorem kX3_candidatesFor (l : Launch) (g : sG) (i1 : Nat) (hi1 : i1 < 11) (a2 : Int32) (M : sM) (Q : Int32 → Prop) (h : wX3_candidatesFor i1 a2 M Q) : Met l yX3_candidatesFor (sw_ws yX3_candidatesFor cX3_candidatesFor 4 (some .int)) { frames := 2, cells := 0, slots := 0, locals := 45 } (va_Pc [.ref (sw_ad g (sw_st i1)), .int a2] (sw_Pr g M)) (va_Qi (fun r M1 => Q r ∧ M1 = M) (sw_Po g) (sw_A g)) 0 0 (sw_A g) := by
  refine sw_met (by decide) (Nat.le_of_ble_eq_true rfl) ?_
  intro p e s m args below meth c ls hx hb hr hts hown hml hlocks hW hl
  have hown : s.vm.findClass RX3 = some m.cls := hown
  have hl : lv_has ls 4 [(0, .ref (sw_ad g (sw_st i1))), (1, .int a2)] := hl
  unfold wX3_candidatesFor at h
  refine lv_aload_n hx hb dX3_candidatesFor_0 rfl (lv_at hl 0 rfl) ?_
  refine lv_iload_n hx hb dX3_candidatesFor_1 rfl (lv_at hl 1 rfl) ?_
  refine sw_ki (rest := []) (sw_runV (As := [.int a2]) (rest := []) hx hb hml hown hts (kX5_assignedCount l g i1 hi1 a2 M _ h) cv_X5_assignedCount q_362 rfl rfl ⟨(Nat.le_of_ble_eq_true rfl), (Nat.le_of_ble_eq_true rfl)⟩ hW (sw_st_lt0 hi1) (sw_lay_so i1) rfl rfl hl.1 rfl (Nat.le_of_ble_eq_true rfl) dX3_candidatesFor_2 ⟨(Nat.le_of_ble_eq_true rfl), (Nat.le_of_ble_eq_true rfl)⟩) hW (fun r1 M14 H locs h hW => ?_)
  obtain ⟨h, eM14⟩ := h
  rw [eM14] at hW
  refine lv_iconst (v := 3) hx hb dX3_candidatesFor_5 (by decide) ?_
  refine lv_icmp_lt (tgt := 11) hx hb dX3_candidatesFor_6 (by decide) (fun k2 => ?_) (fun k2 => ?_)
  · have h := h.1 k2
    refine lv_iconst (v := 0) hx hb dX3_candidatesFor_11 (by decide) ?_
    refine lv_istore_n (lv' := [(2, .int (0 : Int32)), (0, .ref (sw_ad g (sw_st i1))), (1, .int a2)]) hx hb dX3_candidatesFor_12 rfl hl (Nat.le_of_ble_eq_true rfl) rfl (fun ls hl => ?_)
    refine lv_iconst (v := 0) hx hb dX3_candidatesFor_13 (by decide) ?_
    refine lv_istore_n (lv' := [(3, .int (0 : Int32)), (2, .int (0 : Int32)), (0, .ref (sw_ad g (sw_st i1))), (1, .int a2)]) hx hb dX3_candidatesFor_14 rfl hl (Nat.le_of_ble_eq_true rfl) rfl (fun ls hl => ?_)
    obtain ⟨n15, h⟩ := h
    refine sw_lp_ii (hd := 15) (Lf := fun x2_15 x3_15 => [(0, .ref (sw_ad g (sw_st i1))), (1, .int a2), (2, .int x2_15), (3, .int x3_15)]) h hW (lv_sub hl [2, 3, 1, 0] rfl) (fun _ _ h => h) (fun n15 ih15 x2_15 x3_15 H locs ls h hW hl => ?_)
    rw [lX3_candidatesFor_15.eq_2] at h
    refine lv_iload_n hx hb dX3_candidatesFor_15 rfl (lv_at hl 3 rfl) ?_
    refine lv_aload_n hx hb dX3_candidatesFor_16 rfl (lv_at hl 0 rfl) ?_
    refine sw_gi (j := 6) hx hb hts hown hW rfl qf_5 (sw_st_lt0 hi1) (sw_lay_so i1) rfl (Nat.le_of_ble_eq_true rfl) q_68 dX3_candidatesFor_17 ?_
    refine lv_icmp_ge (tgt := 53) hx hb dX3_candidatesFor_20 (by decide) (fun k3 => ?_) (fun k3 => ?_)
    · have h := h.1 k3
      refine lv_iload_n hx hb dX3_candidatesFor_53 rfl (lv_at hl 2 rfl) ?_
      exact sw_ri hx hb hr hlocks hW rfl ⟨h, rfl⟩ dX3_candidatesFor_54
    · have h := h.2 k3
      refine lv_aload_n hx hb dX3_candidatesFor_23 rfl (lv_at hl 0 rfl) ?_
      refine lv_iload_n hx hb dX3_candidatesFor_24 rfl (lv_at hl 3 rfl) ?_
      refine lv_iload_n hx hb dX3_candidatesFor_25 rfl (lv_at hl 1 rfl) ?_
      refine sw_ki (rest := []) (sw_runV (As := [.int x3_15, .int a2]) (rest := []) hx hb hml hown hts (kX5_canJudge l g i1 hi1 x3_15 a2 M _ h) cv_X5_canJudge q_363 rfl rfl ⟨(Nat.le_of_ble_eq_true rfl), (Nat.le_of_ble_eq_true rfl)⟩ hW (sw_st_lt0 hi1) (sw_lay_so i1) rfl rfl hl.1 rfl (Nat.le_of_ble_eq_true rfl) dX3_candidatesFor_26 ⟨(Nat.le_of_ble_eq_true rfl), (Nat.le_of_ble_eq_true rfl)⟩) hW (fun r4 M13 H locs h hW => ?_)
      obtain ⟨h, eM13⟩ := h
      rw [eM13] at hW
      refine lv_if_eq (tgt := 47) hx hb dX3_candidatesFor_29 (by decide) (fun k5 => ?_) (fun k5 => ?_)
      · have h := h.1 k5
        obtain ⟨v6, ev6⟩ : ∃ z : Int32, z = x3_15 + (1 : Int32) := ⟨_, rfl⟩
        have h := h v6 ev6
        refine lv_iinc (v := v6) (lv' := [(3, .int v6), (0, .ref (sw_ad g (sw_st i1))), (1, .int a2), (2, .int x2_15)]) hx hb dX3_candidatesFor_47 hl (k := 3) rfl (by rw [ev6]; rfl) (Nat.le_of_ble_eq_true rfl) rfl (fun ls hl => ?_)
        refine lv_goto (tgt := 15) hx hb dX3_candidatesFor_50 (by decide) ?_
        exact ih15 _ _ _ _ _ h hW (lv_sub hl [1, 2, 3, 0] rfl)
      · have h := h.2 k5
        refine lv_aload_n hx hb dX3_candidatesFor_32 rfl (lv_at hl 0 rfl) ?_
        refine lv_iload_n hx hb dX3_candidatesFor_33 rfl (lv_at hl 3 rfl) ?_
        refine lv_iload_n hx hb dX3_candidatesFor_34 rfl (lv_at hl 1 rfl) ?_
        refine sw_ki (rest := []) (sw_runV (As := [.int x3_15, .int a2]) (rest := []) hx hb hml hown hts (kX5_assigned l g i1 hi1 x3_15 a2 M _ h) cv_X5_assigned q_364 rfl rfl ⟨(Nat.le_of_ble_eq_true rfl), (Nat.le_of_ble_eq_true rfl)⟩ hW (sw_st_lt0 hi1) (sw_lay_so i1) rfl rfl hl.1 rfl (Nat.le_of_ble_eq_true rfl) dX3_candidatesFor_35 ⟨(Nat.le_of_ble_eq_true rfl), (Nat.le_of_ble_eq_true rfl)⟩) hW (fun r7 M12 H locs h hW => ?_)
        obtain ⟨h, eM12⟩ := h
        rw [eM12] at hW
        refine lv_if_ne (tgt := 47) hx hb dX3_candidatesFor_38 (by decide) (fun k8 => ?_) (fun k8 => ?_)
        · have h := h.2 k8
          obtain ⟨v9, ev9⟩ : ∃ z : Int32, z = x3_15 + (1 : Int32) := ⟨_, rfl⟩
          have h := h v9 ev9
          refine lv_iinc (v := v9) (lv' := [(3, .int v9), (0, .ref (sw_ad g (sw_st i1))), (1, .int a2), (2, .int x2_15)]) hx hb dX3_candidatesFor_47 hl (k := 3) rfl (by rw [ev9]; rfl) (Nat.le_of_ble_eq_true rfl) rfl (fun ls hl => ?_)
          refine lv_goto (tgt := 15) hx hb dX3_candidatesFor_50 (by decide) ?_
          exact ih15 _ _ _ _ _ h hW (lv_sub hl [1, 2, 3, 0] rfl)
        · have h := h.1 k8
          refine lv_iload_n hx hb dX3_candidatesFor_41 rfl (lv_at hl 2 rfl) ?_
          refine lv_iconst (v := 1) hx hb dX3_candidatesFor_42 (by decide) ?_
          refine lv_iload_n hx hb dX3_candidatesFor_43 rfl (lv_at hl 3 rfl) ?_
          refine lv_ishl hx hb dX3_candidatesFor_44 ?_
          refine lv_ior hx hb dX3_candidatesFor_45 ?_
          refine lv_topi (fun v10 ev10 => ?_)
          have h := h v10 ev10
          refine lv_istore_n (lv' := [(2, .int v10), (0, .ref (sw_ad g (sw_st i1))), (1, .int a2), (3, .int x3_15)]) hx hb dX3_candidatesFor_46 rfl hl (Nat.le_of_ble_eq_true rfl) rfl (fun ls hl => ?_)
          obtain ⟨v11, ev11⟩ : ∃ z : Int32, z = x3_15 + (1 : Int32) := ⟨_, rfl⟩
          have h := h v11 ev11
          refine lv_iinc (v := v11) (lv' := [(3, .int v11), (2, .int v10), (0, .ref (sw_ad g (sw_st i1))), (1, .int a2)]) hx hb dX3_candidatesFor_47 hl (k := 3) rfl (by rw [ev11]; rfl) (Nat.le_of_ble_eq_true rfl) rfl (fun ls hl => ?_)
          refine lv_goto (tgt := 15) hx hb dX3_candidatesFor_50 (by decide) ?_
          exact ih15 _ _ _ _ _ h hW (lv_sub hl [2, 3, 1, 0] rfl)
  · have h := h.2 k2
    refine lv_iconst (v := 0) hx hb dX3_candidatesFor_9 (by decide) ?_
    exact sw_ri hx hb hr hlocks hW rfl ⟨h, rfl⟩ dX3_candidatesFor_10

def lX3_survey_47 (i1 : Nat) (K47 : sM → Prop) : Nat → Int32 → sM → Prop
  | 0, _, _ => False
  | n47 + 1, x2_47, M_47 => ((M_47 3 0) ≤ x2_47 → (K47 M_47)) ∧ (¬ (M_47 3 0) ≤ x2_47 → (wX3_candidatesFor i1 x2_47 M_47 (fun r3 => vp_in x2_47 8 ∧ (∀ M5 : sM, M5 = sw_ms M_47 4 (x2_47).toNatClampNeg r3 → (∀ v6 : Int32, v6 = x2_47 + (1 : Int32) → ((fun x2_47 M_47 => lX3_survey_47 i1 K47 n47 x2_47 M_47) v6 M5))))))
def lX3_survey_10 (i1 : Nat) (K10 : sM → Prop) : Nat → Int32 → sM → Prop
  | 0, _, _ => False
  | n10 + 1, x2_10, M_10 => ((6 : Int32) ≤ x2_10 → (K10 M_10)) ∧ (¬ (6 : Int32) ≤ x2_10 → (wX5_hasExaminer i1 x2_10 M_10 (fun r15 => (r15 = 0 → (vp_in x2_10 6 ∧ (∀ M18 : sM, M18 = sw_ms M_10 5 (x2_10).toNatClampNeg (0 : Int32) → (∀ v19 : Int32, v19 = x2_10 + (1 : Int32) → ((fun x2_10 M_10 => lX3_survey_10 i1 K10 n10 x2_10 M_10) v19 M18))))) ∧ (¬ r15 = 0 → (wX5_freeCapacity i1 x2_10 M_10 (fun r20 => vp_in x2_10 6 ∧ (∀ M22 : sM, M22 = sw_ms M_10 5 (x2_10).toNatClampNeg r20 → (∀ v23 : Int32, v23 = x2_10 + (1 : Int32) → ((fun x2_10 M_10 => lX3_survey_10 i1 K10 n10 x2_10 M_10) v23 M22)))))))))
theorem cv_X3_survey : sw_cV yX3_survey RX3 cX3_survey 3 none 1 := ⟨q_355, q_1155, q_5, q_356, by decide +kernel⟩
def wX3_survey (i1 : Nat) (M : sM) (Q : sM → Prop) : Prop :=
  ∀ M1 : sM, M1 = sw_ms M 3 0 (M (sw_st i1) 3) → (∃ n10, lX3_survey_10 i1 (fun M_10k => ∃ n47, lX3_survey_47 i1 (fun M_47k => Q M_47k) n47 (0 : Int32) M_10k) n10 (0 : Int32) M1)
set_option maxRecDepth 20000 in
theorem kX3_survey (l : Launch) (g : sG) (i1 : Nat) (hi1 : i1 < 11) (M : sM) (Q : sM → Prop) (h : wX3_survey i1 M Q) : Met l yX3_survey (sw_ws yX3_survey cX3_survey 3 none) { frames := 3, cells := 0, slots := 0, locals := 68 } (va_Pc [.ref (sw_ad g 3), .ref (sw_ad g (sw_st i1))] (sw_Pr g M)) (va_Qv Q (sw_Po g) (sw_A g)) 0 0 (sw_A g) := by
  refine sw_met (by decide) (Nat.le_of_ble_eq_true rfl) ?_
  intro p e s m args below meth c ls hx hb hr hts hown hml hlocks hW hl
  have hown : s.vm.findClass RX3 = some m.cls := hown
  have hl : lv_has ls 3 [(0, .ref (sw_ad g 3)), (1, .ref (sw_ad g (sw_st i1)))] := hl
  unfold wX3_survey at h
  refine lv_aload_n hx hb dX3_survey_0 rfl (lv_at hl 0 rfl) ?_
  refine lv_aload_n hx hb dX3_survey_1 rfl (lv_at hl 1 rfl) ?_
  refine sw_gi (j := 3) hx hb hts hown hW rfl qf_5 (sw_st_lt0 hi1) (sw_lay_so i1) rfl (Nat.le_of_ble_eq_true rfl) q_57 dX3_survey_2 ?_
  refine sw_pi (j := 0) hx hb hts hown hW rfl qf_3 tyX3 tyX3_ok nmX3 (Or.inl (Nat.le_of_ble_eq_true rfl)) sl_3 rfl (Nat.le_of_ble_eq_true rfl) q_110 rfl rfl rfl dX3_survey_5 (fun H locs hW => ?_)
  obtain ⟨M1, eM1⟩ : ∃ z : sM, z = sw_ms M 3 0 (M (sw_st i1) 3) := ⟨_, rfl⟩
  rw [← eM1] at hW
  have h := h M1 eM1
  refine lv_iconst (v := 0) hx hb dX3_survey_8 (by decide) ?_
  refine lv_istore_n (lv' := [(2, .int (0 : Int32)), (0, .ref (sw_ad g 3)), (1, .ref (sw_ad g (sw_st i1)))]) hx hb dX3_survey_9 rfl hl (Nat.le_of_ble_eq_true rfl) rfl (fun ls hl => ?_)
  obtain ⟨n10, h⟩ := h
  refine sw_lp_iM (hd := 10) (Lf := fun x2_10 M_10 => [(0, .ref (sw_ad g 3)), (1, .ref (sw_ad g (sw_st i1))), (2, .int x2_10)]) h hW (lv_sub hl [1, 2, 0] rfl) (fun _ _ h => h) (fun n10 ih10 x2_10 M_10 H locs ls h hW hl => ?_)
  rw [lX3_survey_10.eq_2] at h
  refine lv_iload_n hx hb dX3_survey_10 rfl (lv_at hl 2 rfl) ?_
  refine lv_bipush (v := 6) hx hb dX3_survey_11 (by decide) ?_
  refine lv_icmp_ge (tgt := 45) hx hb dX3_survey_13 (by decide) (fun k8 => ?_) (fun k8 => ?_)
  · have h := h.1 k8
    refine lv_iconst (v := 0) hx hb dX3_survey_45 (by decide) ?_
    refine lv_istore_n (lv' := [(2, .int (0 : Int32)), (0, .ref (sw_ad g 3)), (1, .ref (sw_ad g (sw_st i1)))]) hx hb dX3_survey_46 rfl hl (Nat.le_of_ble_eq_true rfl) rfl (fun ls hl => ?_)
    obtain ⟨n47, h⟩ := h
    refine sw_lp_iM (hd := 47) (Lf := fun x2_47 M_47 => [(0, .ref (sw_ad g 3)), (1, .ref (sw_ad g (sw_st i1))), (2, .int x2_47)]) h hW (lv_sub hl [1, 2, 0] rfl) (fun _ _ h => h) (fun n47 ih47 x2_47 M_47 H locs ls h hW hl => ?_)
    rw [lX3_survey_47.eq_2] at h
    refine lv_iload_n hx hb dX3_survey_47 rfl (lv_at hl 2 rfl) ?_
    refine lv_aload_n hx hb dX3_survey_48 rfl (lv_at hl 0 rfl) ?_
    refine sw_gi (j := 0) hx hb hts hown hW rfl qf_3 (Or.inl (Nat.le_of_ble_eq_true rfl)) sl_3 rfl (Nat.le_of_ble_eq_true rfl) q_110 dX3_survey_49 ?_
    refine lv_icmp_ge (tgt := 72) hx hb dX3_survey_52 (by decide) (fun k9 => ?_) (fun k9 => ?_)
    · have h := h.1 k9
      exact sw_rv hx hb hr hlocks hW h dX3_survey_72
    · have h := h.2 k9
      refine lv_aload_n hx hb dX3_survey_55 rfl (lv_at hl 0 rfl) ?_
      refine sw_gr (j := 1) (r := 4) hx hb hts hown hW rfl qf_3 (Or.inl (Nat.le_of_ble_eq_true rfl)) sl_3 rfl (Nat.le_of_ble_eq_true rfl) q_111 dX3_survey_56 ?_
      refine lv_iload_n hx hb dX3_survey_59 rfl (lv_at hl 2 rfl) ?_
      refine lv_aload_n hx hb dX3_survey_60 rfl (lv_at hl 1 rfl) ?_
      refine lv_iload_n hx hb dX3_survey_61 rfl (lv_at hl 2 rfl) ?_
      refine sw_ki (rest := [.int x2_47, .ref (sw_ad g 4)]) (sw_runS (As := [.ref (sw_ad g (sw_st i1)), .int x2_47]) (rest := [.int x2_47, .ref (sw_ad g 4)]) hx hb hml hown hts (kX3_candidatesFor l g i1 hi1 x2_47 M_47 _ h) cs_X3_candidatesFor q_359 rfl rfl ⟨(Nat.le_of_ble_eq_true rfl), (Nat.le_of_ble_eq_true rfl)⟩ hW rfl hl.1 rfl (Nat.le_of_ble_eq_true rfl) dX3_survey_62 ⟨(Nat.le_of_ble_eq_true rfl), (Nat.le_of_ble_eq_true rfl)⟩) hW (fun r10 M14 H locs h hW => ?_)
      obtain ⟨h, eM14⟩ := h
      rw [eM14] at hW
      have b11 := h.1
      have h := h.2
      refine sw_is (n := 8) hx hb hW (Or.inl (Nat.le_of_ble_eq_true rfl)) sl_4 b11 dX3_survey_65 (fun H locs hW => ?_)
      obtain ⟨M12, eM12⟩ : ∃ z : sM, z = sw_ms M_47 4 (x2_47).toNatClampNeg r10 := ⟨_, rfl⟩
      rw [← eM12] at hW
      have h := h M12 eM12
      obtain ⟨v13, ev13⟩ : ∃ z : Int32, z = x2_47 + (1 : Int32) := ⟨_, rfl⟩
      have h := h v13 ev13
      refine lv_iinc (v := v13) (lv' := [(2, .int v13), (0, .ref (sw_ad g 3)), (1, .ref (sw_ad g (sw_st i1)))]) hx hb dX3_survey_66 hl (k := 2) rfl (by rw [ev13]; rfl) (Nat.le_of_ble_eq_true rfl) rfl (fun ls hl => ?_)
      refine lv_goto (tgt := 47) hx hb dX3_survey_69 (by decide) ?_
      exact ih47 _ _ _ _ _ h hW (lv_sub hl [1, 2, 0] rfl)
  · have h := h.2 k8
    refine lv_aload_n hx hb dX3_survey_16 rfl (lv_at hl 0 rfl) ?_
    refine sw_gr (j := 2) (r := 5) hx hb hts hown hW rfl qf_3 (Or.inl (Nat.le_of_ble_eq_true rfl)) sl_3 rfl (Nat.le_of_ble_eq_true rfl) q_112 dX3_survey_17 ?_
    refine lv_iload_n hx hb dX3_survey_20 rfl (lv_at hl 2 rfl) ?_
    refine lv_aload_n hx hb dX3_survey_21 rfl (lv_at hl 1 rfl) ?_
    refine lv_iload_n hx hb dX3_survey_22 rfl (lv_at hl 2 rfl) ?_
    refine sw_ki (rest := [.int x2_10, .ref (sw_ad g 5)]) (sw_runV (As := [.int x2_10]) (rest := [.int x2_10, .ref (sw_ad g 5)]) hx hb hml hown hts (kX5_hasExaminer l g i1 hi1 x2_10 M_10 _ h) cv_X5_hasExaminer q_357 rfl rfl ⟨(Nat.le_of_ble_eq_true rfl), (Nat.le_of_ble_eq_true rfl)⟩ hW (sw_st_lt0 hi1) (sw_lay_so i1) rfl rfl hl.1 rfl (Nat.le_of_ble_eq_true rfl) dX3_survey_23 ⟨(Nat.le_of_ble_eq_true rfl), (Nat.le_of_ble_eq_true rfl)⟩) hW (fun r15 M25 H locs h hW => ?_)
    obtain ⟨h, eM25⟩ := h
    rw [eM25] at hW
    refine lv_if_eq (tgt := 37) hx hb dX3_survey_26 (by decide) (fun k16 => ?_) (fun k16 => ?_)
    · have h := h.1 k16
      refine lv_iconst (v := 0) hx hb dX3_survey_37 (by decide) ?_
      have b17 := h.1
      have h := h.2
      refine sw_is (n := 6) hx hb hW (Or.inl (Nat.le_of_ble_eq_true rfl)) sl_5 b17 dX3_survey_38 (fun H locs hW => ?_)
      obtain ⟨M18, eM18⟩ : ∃ z : sM, z = sw_ms M_10 5 (x2_10).toNatClampNeg (0 : Int32) := ⟨_, rfl⟩
      rw [← eM18] at hW
      have h := h M18 eM18
      obtain ⟨v19, ev19⟩ : ∃ z : Int32, z = x2_10 + (1 : Int32) := ⟨_, rfl⟩
      have h := h v19 ev19
      refine lv_iinc (v := v19) (lv' := [(2, .int v19), (0, .ref (sw_ad g 3)), (1, .ref (sw_ad g (sw_st i1)))]) hx hb dX3_survey_39 hl (k := 2) rfl (by rw [ev19]; rfl) (Nat.le_of_ble_eq_true rfl) rfl (fun ls hl => ?_)
      refine lv_goto (tgt := 10) hx hb dX3_survey_42 (by decide) ?_
      exact ih10 _ _ _ _ _ h hW (lv_sub hl [1, 2, 0] rfl)
    · have h := h.2 k16
      refine lv_aload_n hx hb dX3_survey_29 rfl (lv_at hl 1 rfl) ?_
      refine lv_iload_n hx hb dX3_survey_30 rfl (lv_at hl 2 rfl) ?_
      refine sw_ki (rest := [.int x2_10, .ref (sw_ad g 5)]) (sw_runV (As := [.int x2_10]) (rest := [.int x2_10, .ref (sw_ad g 5)]) hx hb hml hown hts (kX5_freeCapacity l g i1 hi1 x2_10 M_10 _ h) cv_X5_freeCapacity q_358 rfl rfl ⟨(Nat.le_of_ble_eq_true rfl), (Nat.le_of_ble_eq_true rfl)⟩ hW (sw_st_lt0 hi1) (sw_lay_so i1) rfl rfl hl.1 rfl (Nat.le_of_ble_eq_true rfl) dX3_survey_31 ⟨(Nat.le_of_ble_eq_true rfl), (Nat.le_of_ble_eq_true rfl)⟩) hW (fun r20 M24 H locs h hW => ?_)
      obtain ⟨h, eM24⟩ := h
      rw [eM24] at hW
      refine lv_goto (tgt := 38) hx hb dX3_survey_34 (by decide) ?_
      have b21 := h.1
      have h := h.2
      refine sw_is (n := 6) hx hb hW (Or.inl (Nat.le_of_ble_eq_true rfl)) sl_5 b21 dX3_survey_38 (fun H locs hW => ?_)
      obtain ⟨M22, eM22⟩ : ∃ z : sM, z = sw_ms M_10 5 (x2_10).toNatClampNeg r20 := ⟨_, rfl⟩
      rw [← eM22] at hW
      have h := h M22 eM22
      obtain ⟨v23, ev23⟩ : ∃ z : Int32, z = x2_10 + (1 : Int32) := ⟨_, rfl⟩
      have h := h v23 ev23
      refine lv_iinc (v := v23) (lv' := [(2, .int v23), (0, .ref (sw_ad g 3)), (1, .ref (sw_ad g (sw_st i1)))]) hx hb dX3_survey_39 hl (k := 2) rfl (by rw [ev23]; rfl) (Nat.le_of_ble_eq_true rfl) rfl (fun ls hl => ?_)
      refine lv_goto (tgt := 10) hx hb dX3_survey_42 (by decide) ?_
      exact ih10 _ _ _ _ _ h hW (lv_sub hl [1, 2, 0] rfl)

def lX3_exchange_14 (K14 : sM → Prop) : Nat → Int32 → Int32 → sM → Prop
  | 0, _, _, _ => False
  | n14 + 1, x2_14, x3_14, M_14 => ((8 : Int32) ≤ x3_14 → (K14 M_14)) ∧ (¬ (8 : Int32) ≤ x3_14 → ((x2_14 = (-1 : Int32) → (K14 M_14)) ∧ (¬ x2_14 = (-1 : Int32) → (vp_in x2_14 6 ∧ (∀ v7 : Int32, v7 = (M_14 9 (x2_14).toNatClampNeg) → (vp_in v7 8 ∧ (∀ v9 : Int32, v9 = (M_14 7 (v7).toNatClampNeg) → (vp_in v7 8 ∧ (∀ M11 : sM, M11 = sw_ms M_14 7 (v7).toNatClampNeg x2_14 → (∀ v12 : Int32, v12 = x3_14 + (1 : Int32) → ((fun x2_14 x3_14 M_14 => lX3_exchange_14 K14 n14 x2_14 x3_14 M_14) v9 v12 M11)))))))))))
theorem cv_X3_exchange : sw_cV yX3_exchange RX3 cX3_exchange 6 none 1 := ⟨q_372, q_1158, q_5, q_373, by decide +kernel⟩
def wX3_exchange (a1 : Int32) (M : sM) (Q : sM → Prop) : Prop :=
  vp_in a1 6 ∧ (vp_in a1 6 ∧ (∀ M3 : sM, M3 = sw_ms M 8 (a1).toNatClampNeg ((M 8 (a1).toNatClampNeg) + (1 : Int32)) → (∃ n14, lX3_exchange_14 (fun M_14k => Q M_14k) n14 a1 (0 : Int32) M3)))
set_option maxRecDepth 20000 in
theorem kX3_exchange (l : Launch) (g : sG) (a1 : Int32) (M : sM) (Q : sM → Prop) (h : wX3_exchange a1 M Q) : Met l yX3_exchange (sw_ws yX3_exchange cX3_exchange 6 none) { frames := 0, cells := 0, slots := 0, locals := 0 } (va_Pc [.ref (sw_ad g 3), .int a1] (sw_Pr g M)) (va_Qv Q (sw_Po g) (sw_A g)) 0 0 (sw_A g) := by
  refine sw_met (by decide) (Nat.le_of_ble_eq_true rfl) ?_
  intro p e s m args below meth c ls hx hb hr hts hown hml hlocks hW hl
  have hown : s.vm.findClass RX3 = some m.cls := hown
  have hl : lv_has ls 6 [(0, .ref (sw_ad g 3)), (1, .int a1)] := hl
  unfold wX3_exchange at h
  refine lv_aload_n hx hb dX3_exchange_0 rfl (lv_at hl 0 rfl) ?_
  refine sw_gr (j := 5) (r := 8) hx hb hts hown hW rfl qf_3 (Or.inl (Nat.le_of_ble_eq_true rfl)) sl_3 rfl (Nat.le_of_ble_eq_true rfl) q_116 dX3_exchange_1 ?_
  refine lv_iload_n hx hb dX3_exchange_4 rfl (lv_at hl 1 rfl) ?_
  refine lv_dup2_11 hx hb dX3_exchange_5 rfl rfl ?_
  have b1 := h.1
  have h := h.2
  refine sw_ia (n := 6) hx hb hW (Or.inl (Nat.le_of_ble_eq_true rfl)) sl_8 b1 dX3_exchange_6 ?_
  refine lv_iconst (v := 1) hx hb dX3_exchange_7 (by decide) ?_
  refine lv_iadd hx hb dX3_exchange_8 ?_
  have b2 := h.1
  have h := h.2
  refine sw_is (n := 6) hx hb hW (Or.inl (Nat.le_of_ble_eq_true rfl)) sl_8 b2 dX3_exchange_9 (fun H locs hW => ?_)
  obtain ⟨M3, eM3⟩ : ∃ z : sM, z = sw_ms M 8 (a1).toNatClampNeg ((M 8 (a1).toNatClampNeg) + (1 : Int32)) := ⟨_, rfl⟩
  rw [← eM3] at hW
  have h := h M3 eM3
  refine lv_iload_n hx hb dX3_exchange_10 rfl (lv_at hl 1 rfl) ?_
  refine lv_istore_n (lv' := [(2, .int a1), (0, .ref (sw_ad g 3)), (1, .int a1)]) hx hb dX3_exchange_11 rfl hl (Nat.le_of_ble_eq_true rfl) rfl (fun ls hl => ?_)
  refine lv_iconst (v := 0) hx hb dX3_exchange_12 (by decide) ?_
  refine lv_istore_n (lv' := [(3, .int (0 : Int32)), (2, .int a1), (0, .ref (sw_ad g 3)), (1, .int a1)]) hx hb dX3_exchange_13 rfl hl (Nat.le_of_ble_eq_true rfl) rfl (fun ls hl => ?_)
  obtain ⟨n14, h⟩ := h
  refine sw_lp_iiM (hd := 14) (Lf := fun x2_14 x3_14 M_14 => [(0, .ref (sw_ad g 3)), (2, .int x2_14), (3, .int x3_14)]) h hW (lv_sub hl [2, 1, 0] rfl) (fun _ _ _ h => h) (fun n14 ih14 x2_14 x3_14 M_14 H locs ls h hW hl => ?_)
  rw [lX3_exchange_14.eq_2] at h
  refine lv_iload_n hx hb dX3_exchange_14 rfl (lv_at hl 2 rfl) ?_
  refine lv_bipush (v := 8) hx hb dX3_exchange_15 (by decide) ?_
  refine lv_icmp_ge (tgt := 59) hx hb dX3_exchange_17 (by decide) (fun k4 => ?_) (fun k4 => ?_)
  · have h := h.1 k4
    exact sw_rv hx hb hr hlocks hW h dX3_exchange_59
  · have h := h.2 k4
    refine lv_iload_n hx hb dX3_exchange_20 rfl (lv_at hl 1 rfl) ?_
    refine lv_iconst (v := -1) hx hb dX3_exchange_21 (by decide) ?_
    refine lv_icmp_eq (tgt := 59) hx hb dX3_exchange_22 (by decide) (fun k5 => ?_) (fun k5 => ?_)
    · have h := h.1 k5
      exact sw_rv hx hb hr hlocks hW h dX3_exchange_59
    · have h := h.2 k5
      refine lv_aload_n hx hb dX3_exchange_25 rfl (lv_at hl 0 rfl) ?_
      refine sw_gr (j := 6) (r := 9) hx hb hts hown hW rfl qf_3 (Or.inl (Nat.le_of_ble_eq_true rfl)) sl_3 rfl (Nat.le_of_ble_eq_true rfl) q_117 dX3_exchange_26 ?_
      refine lv_iload_n hx hb dX3_exchange_29 rfl (lv_at hl 1 rfl) ?_
      have b6 := h.1
      have h := h.2
      refine sw_ia (n := 6) hx hb hW (Or.inl (Nat.le_of_ble_eq_true rfl)) sl_9 b6 dX3_exchange_30 ?_
      refine lv_topi (fun v7 ev7 => ?_)
      have h := h v7 ev7
      refine lv_istore (lv' := [(4, .int v7), (0, .ref (sw_ad g 3)), (2, .int x2_14), (3, .int x3_14)]) hx hb dX3_exchange_31 hl (Nat.le_of_ble_eq_true rfl) rfl (fun ls hl => ?_)
      refine lv_aload_n hx hb dX3_exchange_33 rfl (lv_at hl 1 rfl) ?_
      refine sw_gr (j := 4) (r := 7) hx hb hts hown hW rfl qf_3 (Or.inl (Nat.le_of_ble_eq_true rfl)) sl_3 rfl (Nat.le_of_ble_eq_true rfl) q_115 dX3_exchange_34 ?_
      refine lv_iload hx hb dX3_exchange_37 (lv_at hl 0 rfl) ?_
      have b8 := h.1
      have h := h.2
      refine sw_ia (n := 8) hx hb hW (Or.inl (Nat.le_of_ble_eq_true rfl)) sl_7 b8 dX3_exchange_39 ?_
      refine lv_topi (fun v9 ev9 => ?_)
      have h := h v9 ev9
      refine lv_istore (lv' := [(5, .int v9), (4, .int v7), (0, .ref (sw_ad g 3)), (2, .int x2_14), (3, .int x3_14)]) hx hb dX3_exchange_40 hl (Nat.le_of_ble_eq_true rfl) rfl (fun ls hl => ?_)
      refine lv_aload_n hx hb dX3_exchange_42 rfl (lv_at hl 2 rfl) ?_
      refine sw_gr (j := 4) (r := 7) hx hb hts hown hW rfl qf_3 (Or.inl (Nat.le_of_ble_eq_true rfl)) sl_3 rfl (Nat.le_of_ble_eq_true rfl) q_115 dX3_exchange_43 ?_
      refine lv_iload hx hb dX3_exchange_46 (lv_at hl 1 rfl) ?_
      refine lv_iload_n hx hb dX3_exchange_48 rfl (lv_at hl 3 rfl) ?_
      have b10 := h.1
      have h := h.2
      refine sw_is (n := 8) hx hb hW (Or.inl (Nat.le_of_ble_eq_true rfl)) sl_7 b10 dX3_exchange_49 (fun H locs hW => ?_)
      obtain ⟨M11, eM11⟩ : ∃ z : sM, z = sw_ms M_14 7 (v7).toNatClampNeg x2_14 := ⟨_, rfl⟩
      rw [← eM11] at hW
      have h := h M11 eM11
      refine lv_iload hx hb dX3_exchange_50 (lv_at hl 0 rfl) ?_
      refine lv_istore_n (lv' := [(2, .int v9), (5, .int v9), (4, .int v7), (0, .ref (sw_ad g 3)), (3, .int x3_14)]) hx hb dX3_exchange_52 rfl hl (Nat.le_of_ble_eq_true rfl) rfl (fun ls hl => ?_)
      obtain ⟨v12, ev12⟩ : ∃ z : Int32, z = x3_14 + (1 : Int32) := ⟨_, rfl⟩
      have h := h v12 ev12
      refine lv_iinc (v := v12) (lv' := [(3, .int v12), (2, .int v9), (5, .int v9), (4, .int v7), (0, .ref (sw_ad g 3))]) hx hb dX3_exchange_53 hl (k := 4) rfl (by rw [ev12]; rfl) (Nat.le_of_ble_eq_true rfl) rfl (fun ls hl => ?_)
      refine lv_goto (tgt := 14) hx hb dX3_exchange_56 (by decide) ?_
      exact ih14 _ _ _ _ _ _ h hW (lv_sub hl [4, 1, 0] rfl)

def lX3_enqueueDoorsOf_5 (a1 : Int32) (K5 : Int32 → sM → Prop) : Nat → Int32 → Int32 → sM → Prop
  | 0, _, _, _ => False
  | n5 + 1, x3_5, x4_5, M_5 => ((M_5 3 0) ≤ x4_5 → (K5 x3_5 M_5)) ∧ (¬ (M_5 3 0) ≤ x4_5 → (vp_in x4_5 8 ∧ (((M_5 7 (x4_5).toNatClampNeg) = a1 → (((8 : Int32) ≤ x3_5 → (∀ v6 : Int32, v6 = x4_5 + (1 : Int32) → ((fun x3_5 x4_5 M_5 => lX3_enqueueDoorsOf_5 a1 K5 n5 x3_5 x4_5 M_5) x3_5 v6 M_5))) ∧ (¬ (8 : Int32) ≤ x3_5 → (vp_in x3_5 8 ∧ (∀ M8 : sM, M8 = sw_ms M_5 10 (x3_5).toNatClampNeg x4_5 → (∀ v9 : Int32, v9 = x3_5 + (1 : Int32) → (∀ v10 : Int32, v10 = x4_5 + (1 : Int32) → ((fun x3_5 x4_5 M_5 => lX3_enqueueDoorsOf_5 a1 K5 n5 x3_5 x4_5 M_5) v9 v10 M8)))))))) ∧ (¬ (M_5 7 (x4_5).toNatClampNeg) = a1 → (∀ v4 : Int32, v4 = x4_5 + (1 : Int32) → ((fun x3_5 x4_5 M_5 => lX3_enqueueDoorsOf_5 a1 K5 n5 x3_5 x4_5 M_5) x3_5 v4 M_5))))))
theorem cv_X3_enqueueDoorsOf : sw_cV yX3_enqueueDoorsOf RX3 cX3_enqueueDoorsOf 5 (some .int) 2 := ⟨q_375, q_1159, q_5, q_376, by decide +kernel⟩
def wX3_enqueueDoorsOf (a1 : Int32) (a2 : Int32) (M : sM) (Q : Int32 → sM → Prop) : Prop :=
  ∃ n5, lX3_enqueueDoorsOf_5 a1 (fun x3_5k M_5k => Q x3_5k M_5k) n5 a2 (0 : Int32) M
set_option maxRecDepth 20000 in
theorem kX3_enqueueDoorsOf (l : Launch) (g : sG) (a1 : Int32) (a2 : Int32) (M : sM) (Q : Int32 → sM → Prop) (h : wX3_enqueueDoorsOf a1 a2 M Q) : Met l yX3_enqueueDoorsOf (sw_ws yX3_enqueueDoorsOf cX3_enqueueDoorsOf 5 (some .int)) { frames := 0, cells := 0, slots := 0, locals := 0 } (va_Pc [.ref (sw_ad g 3), .int a1, .int a2] (sw_Pr g M)) (va_Qi Q (sw_Po g) (sw_A g)) 0 0 (sw_A g) := by
  refine sw_met (by decide) (Nat.le_of_ble_eq_true rfl) ?_
  intro p e s m args below meth c ls hx hb hr hts hown hml hlocks hW hl
  have hown : s.vm.findClass RX3 = some m.cls := hown
  have hl : lv_has ls 5 [(0, .ref (sw_ad g 3)), (1, .int a1), (2, .int a2)] := hl
  unfold wX3_enqueueDoorsOf at h
  refine lv_iload_n hx hb dX3_enqueueDoorsOf_0 rfl (lv_at hl 2 rfl) ?_
  refine lv_istore_n (lv' := [(3, .int a2), (0, .ref (sw_ad g 3)), (1, .int a1), (2, .int a2)]) hx hb dX3_enqueueDoorsOf_1 rfl hl (Nat.le_of_ble_eq_true rfl) rfl (fun ls hl => ?_)
  refine lv_iconst (v := 0) hx hb dX3_enqueueDoorsOf_2 (by decide) ?_
  refine lv_istore (lv' := [(4, .int (0 : Int32)), (3, .int a2), (0, .ref (sw_ad g 3)), (1, .int a1), (2, .int a2)]) hx hb dX3_enqueueDoorsOf_3 hl (Nat.le_of_ble_eq_true rfl) rfl (fun ls hl => ?_)
  obtain ⟨n5, h⟩ := h
  refine sw_lp_iiM (hd := 5) (Lf := fun x3_5 x4_5 M_5 => [(0, .ref (sw_ad g 3)), (1, .int a1), (3, .int x3_5), (4, .int x4_5)]) h hW (lv_sub hl [2, 3, 1, 0] rfl) (fun _ _ _ h => h) (fun n5 ih5 x3_5 x4_5 M_5 H locs ls h hW hl => ?_)
  rw [lX3_enqueueDoorsOf_5.eq_2] at h
  refine lv_iload hx hb dX3_enqueueDoorsOf_5 (lv_at hl 3 rfl) ?_
  refine lv_aload_n hx hb dX3_enqueueDoorsOf_7 rfl (lv_at hl 0 rfl) ?_
  refine sw_gi (j := 0) hx hb hts hown hW rfl qf_3 (Or.inl (Nat.le_of_ble_eq_true rfl)) sl_3 rfl (Nat.le_of_ble_eq_true rfl) q_110 dX3_enqueueDoorsOf_8 ?_
  refine lv_icmp_ge (tgt := 48) hx hb dX3_enqueueDoorsOf_11 (by decide) (fun k1 => ?_) (fun k1 => ?_)
  · have h := h.1 k1
    refine lv_iload_n hx hb dX3_enqueueDoorsOf_48 rfl (lv_at hl 2 rfl) ?_
    exact sw_ri hx hb hr hlocks hW rfl h dX3_enqueueDoorsOf_49
  · have h := h.2 k1
    refine lv_aload_n hx hb dX3_enqueueDoorsOf_14 rfl (lv_at hl 0 rfl) ?_
    refine sw_gr (j := 4) (r := 7) hx hb hts hown hW rfl qf_3 (Or.inl (Nat.le_of_ble_eq_true rfl)) sl_3 rfl (Nat.le_of_ble_eq_true rfl) q_115 dX3_enqueueDoorsOf_15 ?_
    refine lv_iload hx hb dX3_enqueueDoorsOf_18 (lv_at hl 3 rfl) ?_
    have b2 := h.1
    have h := h.2
    refine sw_ia (n := 8) hx hb hW (Or.inl (Nat.le_of_ble_eq_true rfl)) sl_7 b2 dX3_enqueueDoorsOf_20 ?_
    refine lv_iload_n hx hb dX3_enqueueDoorsOf_21 rfl (lv_at hl 1 rfl) ?_
    refine lv_icmp_ne (tgt := 42) hx hb dX3_enqueueDoorsOf_22 (by decide) (fun k3 => ?_) (fun k3 => ?_)
    · have h := h.2 k3
      obtain ⟨v4, ev4⟩ : ∃ z : Int32, z = x4_5 + (1 : Int32) := ⟨_, rfl⟩
      have h := h v4 ev4
      refine lv_iinc (v := v4) (lv' := [(4, .int v4), (0, .ref (sw_ad g 3)), (1, .int a1), (3, .int x3_5)]) hx hb dX3_enqueueDoorsOf_42 hl (k := 3) rfl (by rw [ev4]; rfl) (Nat.le_of_ble_eq_true rfl) rfl (fun ls hl => ?_)
      refine lv_goto (tgt := 5) hx hb dX3_enqueueDoorsOf_45 (by decide) ?_
      exact ih5 _ _ _ _ _ _ h hW (lv_sub hl [1, 2, 3, 0] rfl)
    · have h := h.1 k3
      refine lv_iload_n hx hb dX3_enqueueDoorsOf_25 rfl (lv_at hl 2 rfl) ?_
      refine lv_bipush (v := 8) hx hb dX3_enqueueDoorsOf_26 (by decide) ?_
      refine lv_icmp_ge (tgt := 42) hx hb dX3_enqueueDoorsOf_28 (by decide) (fun k5 => ?_) (fun k5 => ?_)
      · have h := h.1 k5
        obtain ⟨v6, ev6⟩ : ∃ z : Int32, z = x4_5 + (1 : Int32) := ⟨_, rfl⟩
        have h := h v6 ev6
        refine lv_iinc (v := v6) (lv' := [(4, .int v6), (0, .ref (sw_ad g 3)), (1, .int a1), (3, .int x3_5)]) hx hb dX3_enqueueDoorsOf_42 hl (k := 3) rfl (by rw [ev6]; rfl) (Nat.le_of_ble_eq_true rfl) rfl (fun ls hl => ?_)
        refine lv_goto (tgt := 5) hx hb dX3_enqueueDoorsOf_45 (by decide) ?_
        exact ih5 _ _ _ _ _ _ h hW (lv_sub hl [1, 2, 3, 0] rfl)
      · have h := h.2 k5
        refine lv_aload_n hx hb dX3_enqueueDoorsOf_31 rfl (lv_at hl 0 rfl) ?_
        refine sw_gr (j := 7) (r := 10) hx hb hts hown hW rfl qf_3 (Or.inl (Nat.le_of_ble_eq_true rfl)) sl_3 rfl (Nat.le_of_ble_eq_true rfl) q_118 dX3_enqueueDoorsOf_32 ?_
        refine lv_iload_n hx hb dX3_enqueueDoorsOf_35 rfl (lv_at hl 2 rfl) ?_
        refine lv_iload hx hb dX3_enqueueDoorsOf_36 (lv_at hl 3 rfl) ?_
        have b7 := h.1
        have h := h.2
        refine sw_is (n := 8) hx hb hW (Or.inl (Nat.le_of_ble_eq_true rfl)) sl_10 b7 dX3_enqueueDoorsOf_38 (fun H locs hW => ?_)
        obtain ⟨M8, eM8⟩ : ∃ z : sM, z = sw_ms M_5 10 (x3_5).toNatClampNeg x4_5 := ⟨_, rfl⟩
        rw [← eM8] at hW
        have h := h M8 eM8
        obtain ⟨v9, ev9⟩ : ∃ z : Int32, z = x3_5 + (1 : Int32) := ⟨_, rfl⟩
        have h := h v9 ev9
        refine lv_iinc (v := v9) (lv' := [(3, .int v9), (0, .ref (sw_ad g 3)), (1, .int a1), (4, .int x4_5)]) hx hb dX3_enqueueDoorsOf_39 hl (k := 2) rfl (by rw [ev9]; rfl) (Nat.le_of_ble_eq_true rfl) rfl (fun ls hl => ?_)
        obtain ⟨v10, ev10⟩ : ∃ z : Int32, z = x4_5 + (1 : Int32) := ⟨_, rfl⟩
        have h := h v10 ev10
        refine lv_iinc (v := v10) (lv' := [(4, .int v10), (3, .int v9), (0, .ref (sw_ad g 3)), (1, .int a1)]) hx hb dX3_enqueueDoorsOf_42 hl (k := 3) rfl (by rw [ev10]; rfl) (Nat.le_of_ble_eq_true rfl) rfl (fun ls hl => ?_)
        refine lv_goto (tgt := 5) hx hb dX3_enqueueDoorsOf_45 (by decide) ?_
        exact ih5 _ _ _ _ _ _ h hW (lv_sub hl [2, 3, 1, 0] rfl)

def lX3_addByExchanges_39 (v5 : Int32) (Q : Int32 → sM → Prop) (K39 : Int32 → Int32 → sM → Prop) : Nat → Int32 → Int32 → Int32 → sM → Prop
  | 0, _, _, _, _ => False
  | n39 + 1, x2_39, x3_39, x6_39, M_39 => ((6 : Int32) ≤ x6_39 → (K39 x2_39 x3_39 M_39)) ∧ (¬ (6 : Int32) ≤ x6_39 → (vp_in v5 8 ∧ (wX6_contains ((M_39 4 (v5).toNatClampNeg) &&& (x3_39 ^^^ (-1 : Int32))) x6_39 (fun r10 => (r10 = 0 → (∀ v12 : Int32, v12 = x6_39 + (1 : Int32) → ((fun x2_39 x3_39 x6_39 M_39 => lX3_addByExchanges_39 v5 Q K39 n39 x2_39 x3_39 x6_39 M_39) x2_39 x3_39 v12 M_39))) ∧ (¬ r10 = 0 → (∀ v13 : Int32, v13 = (x3_39 ||| ((1 : Int32) <<< (x6_39 &&& 31))) → (vp_in x6_39 6 ∧ (∀ M15 : sM, M15 = sw_ms M_39 9 (x6_39).toNatClampNeg v5 → (vp_in x6_39 6 ∧ (vp_in x6_39 6 ∧ (((M15 5 (x6_39).toNatClampNeg) ≤ (M15 8 (x6_39).toNatClampNeg) → (wX3_enqueueDoorsOf x6_39 x2_39 M15 (fun r19 M20 => ∀ v21 : Int32, v21 = x6_39 + (1 : Int32) → ((fun x2_39 x3_39 x6_39 M_39 => lX3_addByExchanges_39 v5 Q K39 n39 x2_39 x3_39 x6_39 M_39) r19 v13 v21 M20)))) ∧ (¬ (M15 5 (x6_39).toNatClampNeg) ≤ (M15 8 (x6_39).toNatClampNeg) → (wX3_exchange x6_39 M15 (fun M22 => Q (1 : Int32) M22))))))))))))))
def lX3_addByExchanges_14 (Q : Int32 → sM → Prop) (K14 : sM → Prop) : Nat → Int32 → Int32 → Int32 → sM → Prop
  | 0, _, _, _, _ => False
  | n14 + 1, x2_14, x3_14, x4_14, M_14 => (x2_14 ≤ x4_14 → (K14 M_14)) ∧ (¬ x2_14 ≤ x4_14 → (((8 : Int32) ≤ x4_14 → (K14 M_14)) ∧ (¬ (8 : Int32) ≤ x4_14 → (vp_in x4_14 8 ∧ (∀ v5 : Int32, v5 = (M_14 10 (x4_14).toNatClampNeg) → (∃ n39, lX3_addByExchanges_39 v5 Q (fun x2_39k x3_39k M_39k => ∀ v6 : Int32, v6 = x4_14 + (1 : Int32) → ((fun x2_14 x3_14 x4_14 M_14 => lX3_addByExchanges_14 Q K14 n14 x2_14 x3_14 x4_14 M_14) x2_39k x3_39k v6 M_39k)) n39 x2_14 x3_14 (0 : Int32) M_14))))))
theorem cv_X3_addByExchanges : sw_cV yX3_addByExchanges RX3 cX3_addByExchanges 7 (some .boolean) 1 := ⟨q_369, q_1157, q_5, q_370, by decide +kernel⟩
def wX3_addByExchanges (a1 : Int32) (M : sM) (Q : Int32 → sM → Prop) : Prop :=
  ∀ M1 : sM, M1 = sw_ms M 10 ((0 : Int32)).toNatClampNeg a1 → (∃ n14, lX3_addByExchanges_14 Q (fun M_14k => Q (0 : Int32) M_14k) n14 (1 : Int32) (0 : Int32) (0 : Int32) M1)
set_option maxRecDepth 20000 in
theorem kX3_addByExchanges (l : Launch) (g : sG) (a1 : Int32) (M : sM) (Q : Int32 → sM → Prop) (h : wX3_addByExchanges a1 M Q) : Met l yX3_addByExchanges (sw_ws yX3_addByExchanges cX3_addByExchanges 7 (some .boolean)) { frames := 1, cells := 0, slots := 0, locals := 25 } (va_Pc [.ref (sw_ad g 3), .int a1] (sw_Pr g M)) (va_Qi Q (sw_Po g) (sw_A g)) 0 0 (sw_A g) := by
  refine sw_met (by decide) (Nat.le_of_ble_eq_true rfl) ?_
  intro p e s m args below meth c ls hx hb hr hts hown hml hlocks hW hl
  have hown : s.vm.findClass RX3 = some m.cls := hown
  have hl : lv_has ls 7 [(0, .ref (sw_ad g 3)), (1, .int a1)] := hl
  unfold wX3_addByExchanges at h
  refine lv_aload_n hx hb dX3_addByExchanges_0 rfl (lv_at hl 0 rfl) ?_
  refine sw_gr (j := 7) (r := 10) hx hb hts hown hW rfl qf_3 (Or.inl (Nat.le_of_ble_eq_true rfl)) sl_3 rfl (Nat.le_of_ble_eq_true rfl) q_118 dX3_addByExchanges_1 ?_
  refine lv_iconst (v := 0) hx hb dX3_addByExchanges_4 (by decide) ?_
  refine lv_iload_n hx hb dX3_addByExchanges_5 rfl (lv_at hl 1 rfl) ?_
  refine sw_is (n := 8) hx hb hW (Or.inl (Nat.le_of_ble_eq_true rfl)) sl_10 (vp_in_iff.mpr (by decide)) dX3_addByExchanges_6 (fun H locs hW => ?_)
  obtain ⟨M1, eM1⟩ : ∃ z : sM, z = sw_ms M 10 ((0 : Int32)).toNatClampNeg a1 := ⟨_, rfl⟩
  rw [← eM1] at hW
  have h := h M1 eM1
  refine lv_iconst (v := 1) hx hb dX3_addByExchanges_7 (by decide) ?_
  refine lv_istore_n (lv' := [(2, .int (1 : Int32)), (0, .ref (sw_ad g 3)), (1, .int a1)]) hx hb dX3_addByExchanges_8 rfl hl (Nat.le_of_ble_eq_true rfl) rfl (fun ls hl => ?_)
  refine lv_iconst (v := 0) hx hb dX3_addByExchanges_9 (by decide) ?_
  refine lv_istore_n (lv' := [(3, .int (0 : Int32)), (2, .int (1 : Int32)), (0, .ref (sw_ad g 3)), (1, .int a1)]) hx hb dX3_addByExchanges_10 rfl hl (Nat.le_of_ble_eq_true rfl) rfl (fun ls hl => ?_)
  refine lv_iconst (v := 0) hx hb dX3_addByExchanges_11 (by decide) ?_
  refine lv_istore (lv' := [(4, .int (0 : Int32)), (3, .int (0 : Int32)), (2, .int (1 : Int32)), (0, .ref (sw_ad g 3)), (1, .int a1)]) hx hb dX3_addByExchanges_12 hl (Nat.le_of_ble_eq_true rfl) rfl (fun ls hl => ?_)
  obtain ⟨n14, h⟩ := h
  refine sw_lp_iiiM (hd := 14) (Lf := fun x2_14 x3_14 x4_14 M_14 => [(0, .ref (sw_ad g 3)), (2, .int x2_14), (3, .int x3_14), (4, .int x4_14)]) h hW (lv_sub hl [3, 2, 1, 0] rfl) (fun _ _ _ _ h => h) (fun n14 ih14 x2_14 x3_14 x4_14 M_14 H locs ls h hW hl => ?_)
  rw [lX3_addByExchanges_14.eq_2] at h
  refine lv_iload hx hb dX3_addByExchanges_14 (lv_at hl 3 rfl) ?_
  refine lv_iload_n hx hb dX3_addByExchanges_16 rfl (lv_at hl 1 rfl) ?_
  refine lv_icmp_ge (tgt := 126) hx hb dX3_addByExchanges_17 (by decide) (fun k2 => ?_) (fun k2 => ?_)
  · have h := h.1 k2
    refine lv_iconst (v := 0) hx hb dX3_addByExchanges_126 (by decide) ?_
    exact sw_ri hx hb hr hlocks hW (by decide) h dX3_addByExchanges_127
  · have h := h.2 k2
    refine lv_iload hx hb dX3_addByExchanges_20 (lv_at hl 3 rfl) ?_
    refine lv_bipush (v := 8) hx hb dX3_addByExchanges_22 (by decide) ?_
    refine lv_icmp_ge (tgt := 126) hx hb dX3_addByExchanges_24 (by decide) (fun k3 => ?_) (fun k3 => ?_)
    · have h := h.1 k3
      refine lv_iconst (v := 0) hx hb dX3_addByExchanges_126 (by decide) ?_
      exact sw_ri hx hb hr hlocks hW (by decide) h dX3_addByExchanges_127
    · have h := h.2 k3
      refine lv_aload_n hx hb dX3_addByExchanges_27 rfl (lv_at hl 0 rfl) ?_
      refine sw_gr (j := 7) (r := 10) hx hb hts hown hW rfl qf_3 (Or.inl (Nat.le_of_ble_eq_true rfl)) sl_3 rfl (Nat.le_of_ble_eq_true rfl) q_118 dX3_addByExchanges_28 ?_
      refine lv_iload hx hb dX3_addByExchanges_31 (lv_at hl 3 rfl) ?_
      have b4 := h.1
      have h := h.2
      refine sw_ia (n := 8) hx hb hW (Or.inl (Nat.le_of_ble_eq_true rfl)) sl_10 b4 dX3_addByExchanges_33 ?_
      refine lv_topi (fun v5 ev5 => ?_)
      have h := h v5 ev5
      refine lv_istore (lv' := [(5, .int v5), (0, .ref (sw_ad g 3)), (2, .int x2_14), (3, .int x3_14), (4, .int x4_14)]) hx hb dX3_addByExchanges_34 hl (Nat.le_of_ble_eq_true rfl) rfl (fun ls hl => ?_)
      refine lv_iconst (v := 0) hx hb dX3_addByExchanges_36 (by decide) ?_
      refine lv_istore (lv' := [(6, .int (0 : Int32)), (5, .int v5), (0, .ref (sw_ad g 3)), (2, .int x2_14), (3, .int x3_14), (4, .int x4_14)]) hx hb dX3_addByExchanges_37 hl (Nat.le_of_ble_eq_true rfl) rfl (fun ls hl => ?_)
      obtain ⟨n39, h⟩ := h
      refine sw_lp_iiiM (hd := 39) (Lf := fun x2_39 x3_39 x6_39 M_39 => [(0, .ref (sw_ad g 3)), (2, .int x2_39), (3, .int x3_39), (4, .int x4_14), (5, .int v5), (6, .int x6_39)]) h hW (lv_sub hl [2, 3, 4, 5, 1, 0] rfl) (fun _ _ _ _ h => h) (fun n39 ih39 x2_39 x3_39 x6_39 M_39 H locs ls h hW hl => ?_)
      rw [lX3_addByExchanges_39.eq_2] at h
      refine lv_iload hx hb dX3_addByExchanges_39 (lv_at hl 5 rfl) ?_
      refine lv_bipush (v := 6) hx hb dX3_addByExchanges_41 (by decide) ?_
      refine lv_icmp_ge (tgt := 120) hx hb dX3_addByExchanges_43 (by decide) (fun k7 => ?_) (fun k7 => ?_)
      · have h := h.1 k7
        obtain ⟨v8, ev8⟩ : ∃ z : Int32, z = x4_14 + (1 : Int32) := ⟨_, rfl⟩
        have h := h v8 ev8
        refine lv_iinc (v := v8) (lv' := [(4, .int v8), (0, .ref (sw_ad g 3)), (2, .int x2_39), (3, .int x3_39), (5, .int v5), (6, .int x6_39)]) hx hb dX3_addByExchanges_120 hl (k := 3) rfl (by rw [ev8]; rfl) (Nat.le_of_ble_eq_true rfl) rfl (fun ls hl => ?_)
        refine lv_goto (tgt := 14) hx hb dX3_addByExchanges_123 (by decide) ?_
        exact ih14 _ _ _ _ _ _ _ h hW (lv_sub hl [1, 2, 3, 0] rfl)
      · have h := h.2 k7
        refine lv_aload_n hx hb dX3_addByExchanges_46 rfl (lv_at hl 0 rfl) ?_
        refine sw_gr (j := 1) (r := 4) hx hb hts hown hW rfl qf_3 (Or.inl (Nat.le_of_ble_eq_true rfl)) sl_3 rfl (Nat.le_of_ble_eq_true rfl) q_111 dX3_addByExchanges_47 ?_
        refine lv_iload hx hb dX3_addByExchanges_50 (lv_at hl 4 rfl) ?_
        have b9 := h.1
        have h := h.2
        refine sw_ia (n := 8) hx hb hW (Or.inl (Nat.le_of_ble_eq_true rfl)) sl_4 b9 dX3_addByExchanges_52 ?_
        refine lv_iload_n hx hb dX3_addByExchanges_53 rfl (lv_at hl 2 rfl) ?_
        refine lv_iconst (v := -1) hx hb dX3_addByExchanges_54 (by decide) ?_
        refine lv_ixor hx hb dX3_addByExchanges_55 ?_
        refine lv_iand hx hb dX3_addByExchanges_56 ?_
        refine lv_iload hx hb dX3_addByExchanges_57 (lv_at hl 5 rfl) ?_
        refine sw_ki (rest := []) (sw_runN (As := [.int ((M_39 4 (v5).toNatClampNeg) &&& (x3_39 ^^^ (-1 : Int32))), .int x6_39]) (rest := []) hx hb hml hown hts (kX6_contains l g ((M_39 4 (v5).toNatClampNeg) &&& (x3_39 ^^^ (-1 : Int32))) x6_39 M_39 _ h) cs_X6_contains qn_X3_94 rfl rfl ⟨(Nat.le_of_ble_eq_true rfl), (Nat.le_of_ble_eq_true rfl)⟩ hW rfl hl.1 rfl (Nat.le_of_ble_eq_true rfl) dX3_addByExchanges_59 ⟨(Nat.le_of_ble_eq_true rfl), (Nat.le_of_ble_eq_true rfl)⟩) hW (fun r10 M23 H locs h hW => ?_)
        obtain ⟨h, eM23⟩ := h
        rw [eM23] at hW
        refine lv_if_eq (tgt := 114) hx hb dX3_addByExchanges_62 (by decide) (fun k11 => ?_) (fun k11 => ?_)
        · have h := h.1 k11
          obtain ⟨v12, ev12⟩ : ∃ z : Int32, z = x6_39 + (1 : Int32) := ⟨_, rfl⟩
          have h := h v12 ev12
          refine lv_iinc (v := v12) (lv' := [(6, .int v12), (0, .ref (sw_ad g 3)), (2, .int x2_39), (3, .int x3_39), (4, .int x4_14), (5, .int v5)]) hx hb dX3_addByExchanges_114 hl (k := 5) rfl (by rw [ev12]; rfl) (Nat.le_of_ble_eq_true rfl) rfl (fun ls hl => ?_)
          refine lv_goto (tgt := 39) hx hb dX3_addByExchanges_117 (by decide) ?_
          exact ih39 _ _ _ _ _ _ _ h hW (lv_sub hl [1, 2, 3, 4, 5, 0] rfl)
        · have h := h.2 k11
          refine lv_iload_n hx hb dX3_addByExchanges_65 rfl (lv_at hl 2 rfl) ?_
          refine lv_iconst (v := 1) hx hb dX3_addByExchanges_66 (by decide) ?_
          refine lv_iload hx hb dX3_addByExchanges_67 (lv_at hl 5 rfl) ?_
          refine lv_ishl hx hb dX3_addByExchanges_69 ?_
          refine lv_ior hx hb dX3_addByExchanges_70 ?_
          refine lv_topi (fun v13 ev13 => ?_)
          have h := h v13 ev13
          refine lv_istore_n (lv' := [(3, .int v13), (0, .ref (sw_ad g 3)), (2, .int x2_39), (4, .int x4_14), (5, .int v5), (6, .int x6_39)]) hx hb dX3_addByExchanges_71 rfl hl (Nat.le_of_ble_eq_true rfl) rfl (fun ls hl => ?_)
          refine lv_aload_n hx hb dX3_addByExchanges_72 rfl (lv_at hl 1 rfl) ?_
          refine sw_gr (j := 6) (r := 9) hx hb hts hown hW rfl qf_3 (Or.inl (Nat.le_of_ble_eq_true rfl)) sl_3 rfl (Nat.le_of_ble_eq_true rfl) q_117 dX3_addByExchanges_73 ?_
          refine lv_iload hx hb dX3_addByExchanges_76 (lv_at hl 5 rfl) ?_
          refine lv_iload hx hb dX3_addByExchanges_78 (lv_at hl 4 rfl) ?_
          have b14 := h.1
          have h := h.2
          refine sw_is (n := 6) hx hb hW (Or.inl (Nat.le_of_ble_eq_true rfl)) sl_9 b14 dX3_addByExchanges_80 (fun H locs hW => ?_)
          obtain ⟨M15, eM15⟩ : ∃ z : sM, z = sw_ms M_39 9 (x6_39).toNatClampNeg v5 := ⟨_, rfl⟩
          rw [← eM15] at hW
          have h := h M15 eM15
          refine lv_aload_n hx hb dX3_addByExchanges_81 rfl (lv_at hl 1 rfl) ?_
          refine sw_gr (j := 5) (r := 8) hx hb hts hown hW rfl qf_3 (Or.inl (Nat.le_of_ble_eq_true rfl)) sl_3 rfl (Nat.le_of_ble_eq_true rfl) q_116 dX3_addByExchanges_82 ?_
          refine lv_iload hx hb dX3_addByExchanges_85 (lv_at hl 5 rfl) ?_
          have b16 := h.1
          have h := h.2
          refine sw_ia (n := 6) hx hb hW (Or.inl (Nat.le_of_ble_eq_true rfl)) sl_8 b16 dX3_addByExchanges_87 ?_
          refine lv_aload_n hx hb dX3_addByExchanges_88 rfl (lv_at hl 1 rfl) ?_
          refine sw_gr (j := 2) (r := 5) hx hb hts hown hW rfl qf_3 (Or.inl (Nat.le_of_ble_eq_true rfl)) sl_3 rfl (Nat.le_of_ble_eq_true rfl) q_112 dX3_addByExchanges_89 ?_
          refine lv_iload hx hb dX3_addByExchanges_92 (lv_at hl 5 rfl) ?_
          have b17 := h.1
          have h := h.2
          refine sw_ia (n := 6) hx hb hW (Or.inl (Nat.le_of_ble_eq_true rfl)) sl_5 b17 dX3_addByExchanges_94 ?_
          refine lv_icmp_ge (tgt := 106) hx hb dX3_addByExchanges_95 (by decide) (fun k18 => ?_) (fun k18 => ?_)
          · have h := h.1 k18
            refine lv_aload_n hx hb dX3_addByExchanges_106 rfl (lv_at hl 1 rfl) ?_
            refine lv_iload hx hb dX3_addByExchanges_107 (lv_at hl 5 rfl) ?_
            refine lv_iload_n hx hb dX3_addByExchanges_109 rfl (lv_at hl 2 rfl) ?_
            refine sw_ki (rest := []) (sw_runV (As := [.int x6_39, .int x2_39]) (rest := []) hx hb hml hown hts (kX3_enqueueDoorsOf l g x6_39 x2_39 M15 _ h) cv_X3_enqueueDoorsOf q_374 rfl rfl ⟨(Nat.le_of_ble_eq_true rfl), (Nat.le_of_ble_eq_true rfl)⟩ hW (Or.inl (Nat.le_of_ble_eq_true rfl)) sl_3 rfl rfl hl.1 rfl (Nat.le_of_ble_eq_true rfl) dX3_addByExchanges_110 ⟨(Nat.le_of_ble_eq_true rfl), (Nat.le_of_ble_eq_true rfl)⟩) hW (fun r19 M20 H locs h hW => ?_)
            refine lv_istore_n (lv' := [(2, .int r19), (3, .int v13), (0, .ref (sw_ad g 3)), (4, .int x4_14), (5, .int v5), (6, .int x6_39)]) hx hb dX3_addByExchanges_113 rfl hl (Nat.le_of_ble_eq_true rfl) rfl (fun ls hl => ?_)
            obtain ⟨v21, ev21⟩ : ∃ z : Int32, z = x6_39 + (1 : Int32) := ⟨_, rfl⟩
            have h := h v21 ev21
            refine lv_iinc (v := v21) (lv' := [(6, .int v21), (2, .int r19), (3, .int v13), (0, .ref (sw_ad g 3)), (4, .int x4_14), (5, .int v5)]) hx hb dX3_addByExchanges_114 hl (k := 5) rfl (by rw [ev21]; rfl) (Nat.le_of_ble_eq_true rfl) rfl (fun ls hl => ?_)
            refine lv_goto (tgt := 39) hx hb dX3_addByExchanges_117 (by decide) ?_
            exact ih39 _ _ _ _ _ _ _ h hW (lv_sub hl [3, 1, 2, 4, 5, 0] rfl)
          · have h := h.2 k18
            refine lv_aload_n hx hb dX3_addByExchanges_98 rfl (lv_at hl 1 rfl) ?_
            refine lv_iload hx hb dX3_addByExchanges_99 (lv_at hl 5 rfl) ?_
            refine sw_kv (rest := []) (sw_runV (As := [.int x6_39]) (rest := []) hx hb hml hown hts (kX3_exchange l g x6_39 M15 _ h) cv_X3_exchange q_371 rfl rfl ⟨(Nat.le_of_ble_eq_true rfl), (Nat.le_of_ble_eq_true rfl)⟩ hW (Or.inl (Nat.le_of_ble_eq_true rfl)) sl_3 rfl rfl hl.1 rfl (Nat.le_of_ble_eq_true rfl) dX3_addByExchanges_101 ⟨(Nat.le_of_ble_eq_true rfl), (Nat.le_of_ble_eq_true rfl)⟩) hW (fun  M22 H locs h hW => ?_)
            refine lv_iconst (v := 1) hx hb dX3_addByExchanges_104 (by decide) ?_
            exact sw_ri hx hb hr hlocks hW (by decide) h dX3_addByExchanges_105

def lX3_greatestFrom_46 (K46 : Int32 → sM → Prop) : Nat → Int32 → Int32 → sM → Prop
  | 0, _, _, _ => False
  | n46 + 1, x2_46, x3_46, M_46 => ((M_46 3 0) ≤ x3_46 → (K46 x2_46 M_46)) ∧ (¬ (M_46 3 0) ≤ x3_46 → (wX3_addByExchanges x3_46 M_46 (fun r2 M3 => (r2 = 0 → (∀ v5 : Int32, v5 = x3_46 + (1 : Int32) → ((fun x2_46 x3_46 M_46 => lX3_greatestFrom_46 K46 n46 x2_46 x3_46 M_46) x2_46 v5 M3))) ∧ (¬ r2 = 0 → (∀ v6 : Int32, v6 = x2_46 + (1 : Int32) → (∀ v7 : Int32, v7 = x3_46 + (1 : Int32) → ((fun x2_46 x3_46 M_46 => lX3_greatestFrom_46 K46 n46 x2_46 x3_46 M_46) v6 v7 M3)))))))
def lX3_greatestFrom_23 (K23 : sM → Prop) : Nat → Int32 → sM → Prop
  | 0, _, _ => False
  | n23 + 1, x2_23, M_23 => ((6 : Int32) ≤ x2_23 → (K23 M_23)) ∧ (¬ (6 : Int32) ≤ x2_23 → (vp_in x2_23 6 ∧ (∀ M17 : sM, M17 = sw_ms M_23 8 (x2_23).toNatClampNeg (0 : Int32) → (∀ v18 : Int32, v18 = x2_23 + (1 : Int32) → ((fun x2_23 M_23 => lX3_greatestFrom_23 K23 n23 x2_23 M_23) v18 M17)))))
def lX3_greatestFrom_2 (K2 : sM → Prop) : Nat → Int32 → sM → Prop
  | 0, _, _ => False
  | n2 + 1, x2_2, M_2 => ((8 : Int32) ≤ x2_2 → (K2 M_2)) ∧ (¬ (8 : Int32) ≤ x2_2 → (vp_in x2_2 8 ∧ (∀ M39 : sM, M39 = sw_ms M_2 7 (x2_2).toNatClampNeg (-1 : Int32) → (∀ v40 : Int32, v40 = x2_2 + (1 : Int32) → ((fun x2_2 M_2 => lX3_greatestFrom_2 K2 n2 x2_2 M_2) v40 M39)))))
theorem cv_X3_greatestFrom : sw_cV yX3_greatestFrom RX3 cX3_greatestFrom 4 (some .int) 1 := ⟨q_366, q_1156, q_5, q_367, by decide +kernel⟩
def wX3_greatestFrom (a1 : Int32) (M : sM) (Q : Int32 → sM → Prop) : Prop :=
  ∃ n2, lX3_greatestFrom_2 (fun M_2k => ∃ n23, lX3_greatestFrom_23 (fun M_23k => ∃ n46, lX3_greatestFrom_46 (fun x2_46k M_46k => Q x2_46k M_46k) n46 (0 : Int32) a1 M_23k) n23 (0 : Int32) M_2k) n2 (0 : Int32) M
set_option maxRecDepth 20000 in
theorem kX3_greatestFrom (l : Launch) (g : sG) (a1 : Int32) (M : sM) (Q : Int32 → sM → Prop) (h : wX3_greatestFrom a1 M Q) : Met l yX3_greatestFrom (sw_ws yX3_greatestFrom cX3_greatestFrom 4 (some .int)) { frames := 2, cells := 0, slots := 0, locals := 51 } (va_Pc [.ref (sw_ad g 3), .int a1] (sw_Pr g M)) (va_Qi Q (sw_Po g) (sw_A g)) 0 0 (sw_A g) := by
  refine sw_met (by decide) (Nat.le_of_ble_eq_true rfl) ?_
  intro p e s m args below meth c ls hx hb hr hts hown hml hlocks hW hl
  have hown : s.vm.findClass RX3 = some m.cls := hown
  have hl : lv_has ls 4 [(0, .ref (sw_ad g 3)), (1, .int a1)] := hl
  unfold wX3_greatestFrom at h
  refine lv_iconst (v := 0) hx hb dX3_greatestFrom_0 (by decide) ?_
  refine lv_istore_n (lv' := [(2, .int (0 : Int32)), (0, .ref (sw_ad g 3)), (1, .int a1)]) hx hb dX3_greatestFrom_1 rfl hl (Nat.le_of_ble_eq_true rfl) rfl (fun ls hl => ?_)
  obtain ⟨n2, h⟩ := h
  refine sw_lp_iM (hd := 2) (Lf := fun x2_2 M_2 => [(0, .ref (sw_ad g 3)), (1, .int a1), (2, .int x2_2)]) h hW (lv_sub hl [1, 2, 0] rfl) (fun _ _ h => h) (fun n2 ih2 x2_2 M_2 H locs ls h hW hl => ?_)
  rw [lX3_greatestFrom_2.eq_2] at h
  refine lv_iload_n hx hb dX3_greatestFrom_2 rfl (lv_at hl 2 rfl) ?_
  refine lv_bipush (v := 8) hx hb dX3_greatestFrom_3 (by decide) ?_
  refine lv_icmp_ge (tgt := 21) hx hb dX3_greatestFrom_5 (by decide) (fun k19 => ?_) (fun k19 => ?_)
  · have h := h.1 k19
    refine lv_iconst (v := 0) hx hb dX3_greatestFrom_21 (by decide) ?_
    refine lv_istore_n (lv' := [(2, .int (0 : Int32)), (0, .ref (sw_ad g 3)), (1, .int a1)]) hx hb dX3_greatestFrom_22 rfl hl (Nat.le_of_ble_eq_true rfl) rfl (fun ls hl => ?_)
    obtain ⟨n23, h⟩ := h
    refine sw_lp_iM (hd := 23) (Lf := fun x2_23 M_23 => [(0, .ref (sw_ad g 3)), (1, .int a1), (2, .int x2_23)]) h hW (lv_sub hl [1, 2, 0] rfl) (fun _ _ h => h) (fun n23 ih23 x2_23 M_23 H locs ls h hW hl => ?_)
    rw [lX3_greatestFrom_23.eq_2] at h
    refine lv_iload_n hx hb dX3_greatestFrom_23 rfl (lv_at hl 2 rfl) ?_
    refine lv_bipush (v := 6) hx hb dX3_greatestFrom_24 (by decide) ?_
    refine lv_icmp_ge (tgt := 42) hx hb dX3_greatestFrom_26 (by decide) (fun k27 => ?_) (fun k27 => ?_)
    · have h := h.1 k27
      refine lv_iconst (v := 0) hx hb dX3_greatestFrom_42 (by decide) ?_
      refine lv_istore_n (lv' := [(2, .int (0 : Int32)), (0, .ref (sw_ad g 3)), (1, .int a1)]) hx hb dX3_greatestFrom_43 rfl hl (Nat.le_of_ble_eq_true rfl) rfl (fun ls hl => ?_)
      refine lv_iload_n hx hb dX3_greatestFrom_44 rfl (lv_at hl 2 rfl) ?_
      refine lv_istore_n (lv' := [(3, .int a1), (2, .int (0 : Int32)), (0, .ref (sw_ad g 3)), (1, .int a1)]) hx hb dX3_greatestFrom_45 rfl hl (Nat.le_of_ble_eq_true rfl) rfl (fun ls hl => ?_)
      obtain ⟨n46, h⟩ := h
      refine sw_lp_iiM (hd := 46) (Lf := fun x2_46 x3_46 M_46 => [(0, .ref (sw_ad g 3)), (2, .int x2_46), (3, .int x3_46)]) h hW (lv_sub hl [2, 1, 0] rfl) (fun _ _ _ h => h) (fun n46 ih46 x2_46 x3_46 M_46 H locs ls h hW hl => ?_)
      rw [lX3_greatestFrom_46.eq_2] at h
      refine lv_iload_n hx hb dX3_greatestFrom_46 rfl (lv_at hl 2 rfl) ?_
      refine lv_aload_n hx hb dX3_greatestFrom_47 rfl (lv_at hl 0 rfl) ?_
      refine sw_gi (j := 0) hx hb hts hown hW rfl qf_3 (Or.inl (Nat.le_of_ble_eq_true rfl)) sl_3 rfl (Nat.le_of_ble_eq_true rfl) q_110 dX3_greatestFrom_48 ?_
      refine lv_icmp_ge (tgt := 71) hx hb dX3_greatestFrom_51 (by decide) (fun k28 => ?_) (fun k28 => ?_)
      · have h := h.1 k28
        refine lv_iload_n hx hb dX3_greatestFrom_71 rfl (lv_at hl 1 rfl) ?_
        exact sw_ri hx hb hr hlocks hW rfl h dX3_greatestFrom_72
      · have h := h.2 k28
        refine lv_aload_n hx hb dX3_greatestFrom_54 rfl (lv_at hl 0 rfl) ?_
        refine lv_iload_n hx hb dX3_greatestFrom_55 rfl (lv_at hl 2 rfl) ?_
        refine sw_ki (rest := []) (sw_runV (As := [.int x3_46]) (rest := []) hx hb hml hown hts (kX3_addByExchanges l g x3_46 M_46 _ h) cv_X3_addByExchanges q_368 rfl rfl ⟨(Nat.le_of_ble_eq_true rfl), (Nat.le_of_ble_eq_true rfl)⟩ hW (Or.inl (Nat.le_of_ble_eq_true rfl)) sl_3 rfl rfl hl.1 rfl (Nat.le_of_ble_eq_true rfl) dX3_greatestFrom_56 ⟨(Nat.le_of_ble_eq_true rfl), (Nat.le_of_ble_eq_true rfl)⟩) hW (fun r29 M30 H locs h hW => ?_)
        refine lv_if_eq (tgt := 65) hx hb dX3_greatestFrom_59 (by decide) (fun k31 => ?_) (fun k31 => ?_)
        · have h := h.1 k31
          obtain ⟨v32, ev32⟩ : ∃ z : Int32, z = x3_46 + (1 : Int32) := ⟨_, rfl⟩
          have h := h v32 ev32
          refine lv_iinc (v := v32) (lv' := [(3, .int v32), (0, .ref (sw_ad g 3)), (2, .int x2_46)]) hx hb dX3_greatestFrom_65 hl (k := 2) rfl (by rw [ev32]; rfl) (Nat.le_of_ble_eq_true rfl) rfl (fun ls hl => ?_)
          refine lv_goto (tgt := 46) hx hb dX3_greatestFrom_68 (by decide) ?_
          exact ih46 _ _ _ _ _ _ h hW (lv_sub hl [1, 2, 0] rfl)
        · have h := h.2 k31
          obtain ⟨v33, ev33⟩ : ∃ z : Int32, z = x2_46 + (1 : Int32) := ⟨_, rfl⟩
          have h := h v33 ev33
          refine lv_iinc (v := v33) (lv' := [(2, .int v33), (0, .ref (sw_ad g 3)), (3, .int x3_46)]) hx hb dX3_greatestFrom_62 hl (k := 1) rfl (by rw [ev33]; rfl) (Nat.le_of_ble_eq_true rfl) rfl (fun ls hl => ?_)
          obtain ⟨v34, ev34⟩ : ∃ z : Int32, z = x3_46 + (1 : Int32) := ⟨_, rfl⟩
          have h := h v34 ev34
          refine lv_iinc (v := v34) (lv' := [(3, .int v34), (2, .int v33), (0, .ref (sw_ad g 3))]) hx hb dX3_greatestFrom_65 hl (k := 2) rfl (by rw [ev34]; rfl) (Nat.le_of_ble_eq_true rfl) rfl (fun ls hl => ?_)
          refine lv_goto (tgt := 46) hx hb dX3_greatestFrom_68 (by decide) ?_
          exact ih46 _ _ _ _ _ _ h hW (lv_sub hl [2, 1, 0] rfl)
    · have h := h.2 k27
      refine lv_aload_n hx hb dX3_greatestFrom_29 rfl (lv_at hl 0 rfl) ?_
      refine sw_gr (j := 5) (r := 8) hx hb hts hown hW rfl qf_3 (Or.inl (Nat.le_of_ble_eq_true rfl)) sl_3 rfl (Nat.le_of_ble_eq_true rfl) q_116 dX3_greatestFrom_30 ?_
      refine lv_iload_n hx hb dX3_greatestFrom_33 rfl (lv_at hl 2 rfl) ?_
      refine lv_iconst (v := 0) hx hb dX3_greatestFrom_34 (by decide) ?_
      have b35 := h.1
      have h := h.2
      refine sw_is (n := 6) hx hb hW (Or.inl (Nat.le_of_ble_eq_true rfl)) sl_8 b35 dX3_greatestFrom_35 (fun H locs hW => ?_)
      obtain ⟨M36, eM36⟩ : ∃ z : sM, z = sw_ms M_23 8 (x2_23).toNatClampNeg (0 : Int32) := ⟨_, rfl⟩
      rw [← eM36] at hW
      have h := h M36 eM36
      obtain ⟨v37, ev37⟩ : ∃ z : Int32, z = x2_23 + (1 : Int32) := ⟨_, rfl⟩
      have h := h v37 ev37
      refine lv_iinc (v := v37) (lv' := [(2, .int v37), (0, .ref (sw_ad g 3)), (1, .int a1)]) hx hb dX3_greatestFrom_36 hl (k := 2) rfl (by rw [ev37]; rfl) (Nat.le_of_ble_eq_true rfl) rfl (fun ls hl => ?_)
      refine lv_goto (tgt := 23) hx hb dX3_greatestFrom_39 (by decide) ?_
      exact ih23 _ _ _ _ _ h hW (lv_sub hl [1, 2, 0] rfl)
  · have h := h.2 k19
    refine lv_aload_n hx hb dX3_greatestFrom_8 rfl (lv_at hl 0 rfl) ?_
    refine sw_gr (j := 4) (r := 7) hx hb hts hown hW rfl qf_3 (Or.inl (Nat.le_of_ble_eq_true rfl)) sl_3 rfl (Nat.le_of_ble_eq_true rfl) q_115 dX3_greatestFrom_9 ?_
    refine lv_iload_n hx hb dX3_greatestFrom_12 rfl (lv_at hl 2 rfl) ?_
    refine lv_iconst (v := -1) hx hb dX3_greatestFrom_13 (by decide) ?_
    have b38 := h.1
    have h := h.2
    refine sw_is (n := 8) hx hb hW (Or.inl (Nat.le_of_ble_eq_true rfl)) sl_7 b38 dX3_greatestFrom_14 (fun H locs hW => ?_)
    obtain ⟨M39, eM39⟩ : ∃ z : sM, z = sw_ms M_2 7 (x2_2).toNatClampNeg (-1 : Int32) := ⟨_, rfl⟩
    rw [← eM39] at hW
    have h := h M39 eM39
    obtain ⟨v40, ev40⟩ : ∃ z : Int32, z = x2_2 + (1 : Int32) := ⟨_, rfl⟩
    have h := h v40 ev40
    refine lv_iinc (v := v40) (lv' := [(2, .int v40), (0, .ref (sw_ad g 3)), (1, .int a1)]) hx hb dX3_greatestFrom_15 hl (k := 2) rfl (by rw [ev40]; rfl) (Nat.le_of_ble_eq_true rfl) rfl (fun ls hl => ?_)
    refine lv_goto (tgt := 2) hx hb dX3_greatestFrom_18 (by decide) ?_
    exact ih2 _ _ _ _ _ h hW (lv_sub hl [1, 2, 0] rfl)

theorem cv_X3_sizeByExchanges : sw_cV yX3_sizeByExchanges RX3 cX3_sizeByExchanges 2 (some .int) 1 := ⟨q_643, q_644, q_5, q_645, by decide +kernel⟩
def wX3_sizeByExchanges (i1 : Nat) (M : sM) (Q : Int32 → sM → Prop) : Prop :=
  wX3_survey i1 M (fun M1 => wX3_greatestFrom (0 : Int32) M1 (fun r2 M3 => Q r2 M3))
set_option maxRecDepth 20000 in
theorem kX3_sizeByExchanges (l : Launch) (g : sG) (i1 : Nat) (hi1 : i1 < 11) (M : sM) (Q : Int32 → sM → Prop) (h : wX3_sizeByExchanges i1 M Q) : Met l yX3_sizeByExchanges (sw_ws yX3_sizeByExchanges cX3_sizeByExchanges 2 (some .int)) { frames := 4, cells := 0, slots := 0, locals := 90 } (va_Pc [.ref (sw_ad g 3), .ref (sw_ad g (sw_st i1))] (sw_Pr g M)) (va_Qi Q (sw_Po g) (sw_A g)) 0 0 (sw_A g) := by
  refine sw_met (by decide) (Nat.le_of_ble_eq_true rfl) ?_
  intro p e s m args below meth c ls hx hb hr hts hown hml hlocks hW hl
  have hown : s.vm.findClass RX3 = some m.cls := hown
  have hl : lv_has ls 2 [(0, .ref (sw_ad g 3)), (1, .ref (sw_ad g (sw_st i1)))] := hl
  unfold wX3_sizeByExchanges at h
  refine lv_aload_n hx hb dX3_sizeByExchanges_0 rfl (lv_at hl 0 rfl) ?_
  refine lv_aload_n hx hb dX3_sizeByExchanges_1 rfl (lv_at hl 1 rfl) ?_
  refine sw_kv (rest := []) (sw_runV (As := [.ref (sw_ad g (sw_st i1))]) (rest := []) hx hb hml hown hts (kX3_survey l g i1 hi1 M _ h) cv_X3_survey q_354 rfl rfl ⟨(Nat.le_of_ble_eq_true rfl), (Nat.le_of_ble_eq_true rfl)⟩ hW (Or.inl (Nat.le_of_ble_eq_true rfl)) sl_3 rfl rfl hl.1 rfl (Nat.le_of_ble_eq_true rfl) dX3_sizeByExchanges_2 ⟨(Nat.le_of_ble_eq_true rfl), (Nat.le_of_ble_eq_true rfl)⟩) hW (fun  M1 H locs h hW => ?_)
  refine lv_aload_n hx hb dX3_sizeByExchanges_5 rfl (lv_at hl 0 rfl) ?_
  refine lv_iconst (v := 0) hx hb dX3_sizeByExchanges_6 (by decide) ?_
  refine sw_ki (rest := []) (sw_runV (As := [.int (0 : Int32)]) (rest := []) hx hb hml hown hts (kX3_greatestFrom l g (0 : Int32) M1 _ h) cv_X3_greatestFrom q_365 rfl rfl ⟨(Nat.le_of_ble_eq_true rfl), (Nat.le_of_ble_eq_true rfl)⟩ hW (Or.inl (Nat.le_of_ble_eq_true rfl)) sl_3 rfl rfl hl.1 rfl (Nat.le_of_ble_eq_true rfl) dX3_sizeByExchanges_7 ⟨(Nat.le_of_ble_eq_true rfl), (Nat.le_of_ble_eq_true rfl)⟩) hW (fun r2 M3 H locs h hW => ?_)
  exact sw_ri hx hb hr hlocks hW rfl h dX3_sizeByExchanges_10

def lX3_extendSets_19 (a1 : Int32) (x2_4 : Int32) (K19 : sM → Prop) : Nat → Int32 → sM → Prop
  | 0, _, _ => False
  | n19 + 1, x3_19, M_19 => ((M_19 3 0) ≤ x3_19 → (K19 M_19)) ∧ (¬ (M_19 3 0) ≤ x3_19 → (wX6_contains x2_4 x3_19 (fun r8 => (r8 = 0 → (vp_in x3_19 8 ∧ (wX6_contains (M_19 4 (x3_19).toNatClampNeg) a1 (fun r12 => (r12 = 0 → (∀ v14 : Int32, v14 = x3_19 + (1 : Int32) → ((fun x3_19 M_19 => lX3_extendSets_19 a1 x2_4 K19 n19 x3_19 M_19) v14 M_19))) ∧ (¬ r12 = 0 → (vp_in (x2_4 ||| ((1 : Int32) <<< (x3_19 &&& 31))) 256 ∧ (∀ M16 : sM, M16 = sw_ms M_19 11 ((x2_4 ||| ((1 : Int32) <<< (x3_19 &&& 31)))).toNatClampNeg (vp_nar .boolean (1 : Int32)) → (∀ v17 : Int32, v17 = x3_19 + (1 : Int32) → ((fun x3_19 M_19 => lX3_extendSets_19 a1 x2_4 K19 n19 x3_19 M_19) v17 M16))))))))) ∧ (¬ r8 = 0 → (∀ v10 : Int32, v10 = x3_19 + (1 : Int32) → ((fun x3_19 M_19 => lX3_extendSets_19 a1 x2_4 K19 n19 x3_19 M_19) v10 M_19))))))
def lX3_extendSets_4 (a1 : Int32) (K4 : sM → Prop) : Nat → Int32 → sM → Prop
  | 0, _, _ => False
  | n4 + 1, x2_4, M_4 => (x2_4 < 0 → (K4 M_4)) ∧ (¬ x2_4 < 0 → (vp_in x2_4 256 ∧ (((M_4 11 (x2_4).toNatClampNeg) = 0 → (∀ v4 : Int32, v4 = x2_4 + (-1 : Int32) → ((fun x2_4 M_4 => lX3_extendSets_4 a1 K4 n4 x2_4 M_4) v4 M_4))) ∧ (¬ (M_4 11 (x2_4).toNatClampNeg) = 0 → (∃ n19, lX3_extendSets_19 a1 x2_4 (fun M_19k => ∀ v5 : Int32, v5 = x2_4 + (-1 : Int32) → ((fun x2_4 M_4 => lX3_extendSets_4 a1 K4 n4 x2_4 M_4) v5 M_19k)) n19 (0 : Int32) M_4)))))
theorem cv_X3_extendSets : sw_cV yX3_extendSets RX3 cX3_extendSets 4 none 1 := ⟨q_655, q_1164, q_5, q_656, by decide +kernel⟩
def wX3_extendSets (a1 : Int32) (M : sM) (Q : sM → Prop) : Prop :=
  ∃ n4, lX3_extendSets_4 a1 (fun M_4k => Q M_4k) n4 (255 : Int32) M
set_option maxRecDepth 20000 in
theorem kX3_extendSets (l : Launch) (g : sG) (a1 : Int32) (M : sM) (Q : sM → Prop) (h : wX3_extendSets a1 M Q) : Met l yX3_extendSets (sw_ws yX3_extendSets cX3_extendSets 4 none) { frames := 1, cells := 0, slots := 0, locals := 21 } (va_Pc [.ref (sw_ad g 3), .int a1] (sw_Pr g M)) (va_Qv Q (sw_Po g) (sw_A g)) 0 0 (sw_A g) := by
  refine sw_met (by decide) (Nat.le_of_ble_eq_true rfl) ?_
  intro p e s m args below meth c ls hx hb hr hts hown hml hlocks hW hl
  have hown : s.vm.findClass RX3 = some m.cls := hown
  have hl : lv_has ls 4 [(0, .ref (sw_ad g 3)), (1, .int a1)] := hl
  unfold wX3_extendSets at h
  refine lv_sipush (v := 255) hx hb dX3_extendSets_0 (by decide) ?_
  refine lv_istore_n (lv' := [(2, .int (255 : Int32)), (0, .ref (sw_ad g 3)), (1, .int a1)]) hx hb dX3_extendSets_3 rfl hl (Nat.le_of_ble_eq_true rfl) rfl (fun ls hl => ?_)
  obtain ⟨n4, h⟩ := h
  refine sw_lp_iM (hd := 4) (Lf := fun x2_4 M_4 => [(0, .ref (sw_ad g 3)), (1, .int a1), (2, .int x2_4)]) h hW (lv_sub hl [1, 2, 0] rfl) (fun _ _ h => h) (fun n4 ih4 x2_4 M_4 H locs ls h hW hl => ?_)
  rw [lX3_extendSets_4.eq_2] at h
  refine lv_iload_n hx hb dX3_extendSets_4 rfl (lv_at hl 2 rfl) ?_
  refine lv_if_lt (tgt := 71) hx hb dX3_extendSets_5 (by decide) (fun k1 => ?_) (fun k1 => ?_)
  · have h := h.1 k1
    exact sw_rv hx hb hr hlocks hW h dX3_extendSets_71
  · have h := h.2 k1
    refine lv_aload_n hx hb dX3_extendSets_8 rfl (lv_at hl 0 rfl) ?_
    refine sw_gr (j := 8) (r := 11) hx hb hts hown hW rfl qf_3 (Or.inl (Nat.le_of_ble_eq_true rfl)) sl_3 rfl (Nat.le_of_ble_eq_true rfl) q_119 dX3_extendSets_9 ?_
    refine lv_iload_n hx hb dX3_extendSets_12 rfl (lv_at hl 2 rfl) ?_
    have b2 := h.1
    have h := h.2
    refine sw_za (n := 256) hx hb hW (Or.inl (Nat.le_of_ble_eq_true rfl)) sl_11 b2 dX3_extendSets_13 ?_
    refine lv_if_eq (tgt := 65) hx hb dX3_extendSets_14 (by decide) (fun k3 => ?_) (fun k3 => ?_)
    · have h := h.1 k3
      obtain ⟨v4, ev4⟩ : ∃ z : Int32, z = x2_4 + (-1 : Int32) := ⟨_, rfl⟩
      have h := h v4 ev4
      refine lv_iinc (v := v4) (lv' := [(2, .int v4), (0, .ref (sw_ad g 3)), (1, .int a1)]) hx hb dX3_extendSets_65 hl (k := 2) rfl (by rw [ev4]; rfl) (Nat.le_of_ble_eq_true rfl) rfl (fun ls hl => ?_)
      refine lv_goto (tgt := 4) hx hb dX3_extendSets_68 (by decide) ?_
      exact ih4 _ _ _ _ _ h hW (lv_sub hl [1, 2, 0] rfl)
    · have h := h.2 k3
      refine lv_iconst (v := 0) hx hb dX3_extendSets_17 (by decide) ?_
      refine lv_istore_n (lv' := [(3, .int (0 : Int32)), (0, .ref (sw_ad g 3)), (1, .int a1), (2, .int x2_4)]) hx hb dX3_extendSets_18 rfl hl (Nat.le_of_ble_eq_true rfl) rfl (fun ls hl => ?_)
      obtain ⟨n19, h⟩ := h
      refine sw_lp_iM (hd := 19) (Lf := fun x3_19 M_19 => [(0, .ref (sw_ad g 3)), (1, .int a1), (2, .int x2_4), (3, .int x3_19)]) h hW (lv_sub hl [1, 2, 3, 0] rfl) (fun _ _ h => h) (fun n19 ih19 x3_19 M_19 H locs ls h hW hl => ?_)
      rw [lX3_extendSets_19.eq_2] at h
      refine lv_iload_n hx hb dX3_extendSets_19 rfl (lv_at hl 3 rfl) ?_
      refine lv_aload_n hx hb dX3_extendSets_20 rfl (lv_at hl 0 rfl) ?_
      refine sw_gi (j := 0) hx hb hts hown hW rfl qf_3 (Or.inl (Nat.le_of_ble_eq_true rfl)) sl_3 rfl (Nat.le_of_ble_eq_true rfl) q_110 dX3_extendSets_21 ?_
      refine lv_icmp_ge (tgt := 65) hx hb dX3_extendSets_24 (by decide) (fun k6 => ?_) (fun k6 => ?_)
      · have h := h.1 k6
        obtain ⟨v7, ev7⟩ : ∃ z : Int32, z = x2_4 + (-1 : Int32) := ⟨_, rfl⟩
        have h := h v7 ev7
        refine lv_iinc (v := v7) (lv' := [(2, .int v7), (0, .ref (sw_ad g 3)), (1, .int a1), (3, .int x3_19)]) hx hb dX3_extendSets_65 hl (k := 2) rfl (by rw [ev7]; rfl) (Nat.le_of_ble_eq_true rfl) rfl (fun ls hl => ?_)
        refine lv_goto (tgt := 4) hx hb dX3_extendSets_68 (by decide) ?_
        exact ih4 _ _ _ _ _ h hW (lv_sub hl [1, 2, 0] rfl)
      · have h := h.2 k6
        refine lv_iload_n hx hb dX3_extendSets_27 rfl (lv_at hl 2 rfl) ?_
        refine lv_iload_n hx hb dX3_extendSets_28 rfl (lv_at hl 3 rfl) ?_
        refine sw_ki (rest := []) (sw_runN (As := [.int x2_4, .int x3_19]) (rest := []) hx hb hml hown hts (kX6_contains l g x2_4 x3_19 M_19 _ h) cs_X6_contains qn_X3_94 rfl rfl ⟨(Nat.le_of_ble_eq_true rfl), (Nat.le_of_ble_eq_true rfl)⟩ hW rfl hl.1 rfl (Nat.le_of_ble_eq_true rfl) dX3_extendSets_29 ⟨(Nat.le_of_ble_eq_true rfl), (Nat.le_of_ble_eq_true rfl)⟩) hW (fun r8 M19 H locs h hW => ?_)
        obtain ⟨h, eM19⟩ := h
        rw [eM19] at hW
        refine lv_if_ne (tgt := 59) hx hb dX3_extendSets_32 (by decide) (fun k9 => ?_) (fun k9 => ?_)
        · have h := h.2 k9
          obtain ⟨v10, ev10⟩ : ∃ z : Int32, z = x3_19 + (1 : Int32) := ⟨_, rfl⟩
          have h := h v10 ev10
          refine lv_iinc (v := v10) (lv' := [(3, .int v10), (0, .ref (sw_ad g 3)), (1, .int a1), (2, .int x2_4)]) hx hb dX3_extendSets_59 hl (k := 3) rfl (by rw [ev10]; rfl) (Nat.le_of_ble_eq_true rfl) rfl (fun ls hl => ?_)
          refine lv_goto (tgt := 19) hx hb dX3_extendSets_62 (by decide) ?_
          exact ih19 _ _ _ _ _ h hW (lv_sub hl [1, 2, 3, 0] rfl)
        · have h := h.1 k9
          refine lv_aload_n hx hb dX3_extendSets_35 rfl (lv_at hl 0 rfl) ?_
          refine sw_gr (j := 1) (r := 4) hx hb hts hown hW rfl qf_3 (Or.inl (Nat.le_of_ble_eq_true rfl)) sl_3 rfl (Nat.le_of_ble_eq_true rfl) q_111 dX3_extendSets_36 ?_
          refine lv_iload_n hx hb dX3_extendSets_39 rfl (lv_at hl 3 rfl) ?_
          have b11 := h.1
          have h := h.2
          refine sw_ia (n := 8) hx hb hW (Or.inl (Nat.le_of_ble_eq_true rfl)) sl_4 b11 dX3_extendSets_40 ?_
          refine lv_iload_n hx hb dX3_extendSets_41 rfl (lv_at hl 1 rfl) ?_
          refine sw_ki (rest := []) (sw_runN (As := [.int (M_19 4 (x3_19).toNatClampNeg), .int a1]) (rest := []) hx hb hml hown hts (kX6_contains l g (M_19 4 (x3_19).toNatClampNeg) a1 M_19 _ h) cs_X6_contains qn_X3_94 rfl rfl ⟨(Nat.le_of_ble_eq_true rfl), (Nat.le_of_ble_eq_true rfl)⟩ hW rfl hl.1 rfl (Nat.le_of_ble_eq_true rfl) dX3_extendSets_42 ⟨(Nat.le_of_ble_eq_true rfl), (Nat.le_of_ble_eq_true rfl)⟩) hW (fun r12 M18 H locs h hW => ?_)
          obtain ⟨h, eM18⟩ := h
          rw [eM18] at hW
          refine lv_if_eq (tgt := 59) hx hb dX3_extendSets_45 (by decide) (fun k13 => ?_) (fun k13 => ?_)
          · have h := h.1 k13
            obtain ⟨v14, ev14⟩ : ∃ z : Int32, z = x3_19 + (1 : Int32) := ⟨_, rfl⟩
            have h := h v14 ev14
            refine lv_iinc (v := v14) (lv' := [(3, .int v14), (0, .ref (sw_ad g 3)), (1, .int a1), (2, .int x2_4)]) hx hb dX3_extendSets_59 hl (k := 3) rfl (by rw [ev14]; rfl) (Nat.le_of_ble_eq_true rfl) rfl (fun ls hl => ?_)
            refine lv_goto (tgt := 19) hx hb dX3_extendSets_62 (by decide) ?_
            exact ih19 _ _ _ _ _ h hW (lv_sub hl [1, 2, 3, 0] rfl)
          · have h := h.2 k13
            refine lv_aload_n hx hb dX3_extendSets_48 rfl (lv_at hl 0 rfl) ?_
            refine sw_gr (j := 8) (r := 11) hx hb hts hown hW rfl qf_3 (Or.inl (Nat.le_of_ble_eq_true rfl)) sl_3 rfl (Nat.le_of_ble_eq_true rfl) q_119 dX3_extendSets_49 ?_
            refine lv_iload_n hx hb dX3_extendSets_52 rfl (lv_at hl 2 rfl) ?_
            refine lv_iconst (v := 1) hx hb dX3_extendSets_53 (by decide) ?_
            refine lv_iload_n hx hb dX3_extendSets_54 rfl (lv_at hl 3 rfl) ?_
            refine lv_ishl hx hb dX3_extendSets_55 ?_
            refine lv_ior hx hb dX3_extendSets_56 ?_
            refine lv_iconst (v := 1) hx hb dX3_extendSets_57 (by decide) ?_
            have b15 := h.1
            have h := h.2
            refine sw_zs (n := 256) hx hb hW (Or.inl (Nat.le_of_ble_eq_true rfl)) sl_11 b15 dX3_extendSets_58 (fun H locs hW => ?_)
            obtain ⟨M16, eM16⟩ : ∃ z : sM, z = sw_ms M_19 11 ((x2_4 ||| ((1 : Int32) <<< (x3_19 &&& 31)))).toNatClampNeg (vp_nar .boolean (1 : Int32)) := ⟨_, rfl⟩
            rw [← eM16] at hW
            have h := h M16 eM16
            obtain ⟨v17, ev17⟩ : ∃ z : Int32, z = x3_19 + (1 : Int32) := ⟨_, rfl⟩
            have h := h v17 ev17
            refine lv_iinc (v := v17) (lv' := [(3, .int v17), (0, .ref (sw_ad g 3)), (1, .int a1), (2, .int x2_4)]) hx hb dX3_extendSets_59 hl (k := 3) rfl (by rw [ev17]; rfl) (Nat.le_of_ble_eq_true rfl) rfl (fun ls hl => ?_)
            refine lv_goto (tgt := 19) hx hb dX3_extendSets_62 (by decide) ?_
            exact ih19 _ _ _ _ _ h hW (lv_sub hl [1, 2, 3, 0] rfl)

def lX3_sizeBySets_76 (M_37k : sM) (K76 : Int32 → Prop) : Nat → Int32 → Int32 → Prop
  | 0, _, _ => False
  | n76 + 1, x2_76, x3_76 => ((256 : Int32) ≤ x3_76 → (K76 x2_76)) ∧ (¬ (256 : Int32) ≤ x3_76 → (vp_in x3_76 256 ∧ (((M_37k 11 (x3_76).toNatClampNeg) = 0 → (∀ v5 : Int32, v5 = x3_76 + (1 : Int32) → ((fun x2_76 x3_76 => lX3_sizeBySets_76 M_37k K76 n76 x2_76 x3_76) x2_76 v5))) ∧ (¬ (M_37k 11 (x3_76).toNatClampNeg) = 0 → (wJ6_bitCount_0f7a4 x3_76 (fun r6 => ∀ v7 : Int32, v7 = (if x2_76 < r6 then r6 else x2_76) → (∀ v8 : Int32, v8 = x3_76 + (1 : Int32) → ((fun x2_76 x3_76 => lX3_sizeBySets_76 M_37k K76 n76 x2_76 x3_76) v7 v8))))))))
def lX3_sizeBySets_45 (x2_37 : Int32) (K45 : sM → Prop) : Nat → Int32 → sM → Prop
  | 0, _, _ => False
  | n45 + 1, x3_45, M_45 => vp_in x2_37 6 ∧ (((M_45 5 (x2_37).toNatClampNeg) ≤ x3_45 → (K45 M_45)) ∧ (¬ (M_45 5 (x2_37).toNatClampNeg) ≤ x3_45 → (wX3_extendSets x2_37 M_45 (fun M23 => ∀ v24 : Int32, v24 = x3_45 + (1 : Int32) → ((fun x3_45 M_45 => lX3_sizeBySets_45 x2_37 K45 n45 x3_45 M_45) v24 M23)))))
def lX3_sizeBySets_37 (K37 : sM → Prop) : Nat → Int32 → sM → Prop
  | 0, _, _ => False
  | n37 + 1, x2_37, M_37 => ((6 : Int32) ≤ x2_37 → (K37 M_37)) ∧ (¬ (6 : Int32) ≤ x2_37 → (∃ n45, lX3_sizeBySets_45 x2_37 (fun M_45k => ∀ v19 : Int32, v19 = x2_37 + (1 : Int32) → ((fun x2_37 M_37 => lX3_sizeBySets_37 K37 n37 x2_37 M_37) v19 M_45k)) n45 (0 : Int32) M_37))
def lX3_sizeBySets_7 (K7 : sM → Prop) : Nat → Int32 → sM → Prop
  | 0, _, _ => False
  | n7 + 1, x2_7, M_7 => ((256 : Int32) ≤ x2_7 → (K7 M_7)) ∧ (¬ (256 : Int32) ≤ x2_7 → ((x2_7 = 0 → (vp_in x2_7 256 ∧ (∀ M54 : sM, M54 = sw_ms M_7 11 (x2_7).toNatClampNeg (vp_nar .boolean (1 : Int32)) → (∀ v55 : Int32, v55 = x2_7 + (1 : Int32) → ((fun x2_7 M_7 => lX3_sizeBySets_7 K7 n7 x2_7 M_7) v55 M54))))) ∧ (¬ x2_7 = 0 → (vp_in x2_7 256 ∧ (∀ M51 : sM, M51 = sw_ms M_7 11 (x2_7).toNatClampNeg (vp_nar .boolean (0 : Int32)) → (∀ v52 : Int32, v52 = x2_7 + (1 : Int32) → ((fun x2_7 M_7 => lX3_sizeBySets_7 K7 n7 x2_7 M_7) v52 M51)))))))
theorem cv_X3_sizeBySets : sw_cV yX3_sizeBySets RX3 cX3_sizeBySets 4 (some .int) 1 := ⟨q_651, q_652, q_5, q_653, by decide +kernel⟩
def wX3_sizeBySets (i1 : Nat) (M : sM) (Q : Int32 → sM → Prop) : Prop :=
  wX3_survey i1 M (fun M1 => ∃ n7, lX3_sizeBySets_7 (fun M_7k => ∃ n37, lX3_sizeBySets_37 (fun M_37k => ∃ n76, lX3_sizeBySets_76 M_37k (fun x2_76k => Q x2_76k M_37k) n76 (0 : Int32) (0 : Int32)) n37 (0 : Int32) M_7k) n7 (0 : Int32) M1)
set_option maxRecDepth 20000 in
theorem kX3_sizeBySets (l : Launch) (g : sG) (i1 : Nat) (hi1 : i1 < 11) (M : sM) (Q : Int32 → sM → Prop) (h : wX3_sizeBySets i1 M Q) : Met l yX3_sizeBySets (sw_ws yX3_sizeBySets cX3_sizeBySets 4 (some .int)) { frames := 4, cells := 0, slots := 0, locals := 90 } (va_Pc [.ref (sw_ad g 3), .ref (sw_ad g (sw_st i1))] (sw_Pr g M)) (va_Qi Q (sw_Po g) (sw_A g)) 0 0 (sw_A g) := by
  refine sw_met (by decide) (Nat.le_of_ble_eq_true rfl) ?_
  intro p e s m args below meth c ls hx hb hr hts hown hml hlocks hW hl
  have hown : s.vm.findClass RX3 = some m.cls := hown
  have hl : lv_has ls 4 [(0, .ref (sw_ad g 3)), (1, .ref (sw_ad g (sw_st i1)))] := hl
  unfold wX3_sizeBySets at h
  refine lv_aload_n hx hb dX3_sizeBySets_0 rfl (lv_at hl 0 rfl) ?_
  refine lv_aload_n hx hb dX3_sizeBySets_1 rfl (lv_at hl 1 rfl) ?_
  refine sw_kv (rest := []) (sw_runV (As := [.ref (sw_ad g (sw_st i1))]) (rest := []) hx hb hml hown hts (kX3_survey l g i1 hi1 M _ h) cv_X3_survey q_354 rfl rfl ⟨(Nat.le_of_ble_eq_true rfl), (Nat.le_of_ble_eq_true rfl)⟩ hW (Or.inl (Nat.le_of_ble_eq_true rfl)) sl_3 rfl rfl hl.1 rfl (Nat.le_of_ble_eq_true rfl) dX3_sizeBySets_2 ⟨(Nat.le_of_ble_eq_true rfl), (Nat.le_of_ble_eq_true rfl)⟩) hW (fun  M1 H locs h hW => ?_)
  refine lv_iconst (v := 0) hx hb dX3_sizeBySets_5 (by decide) ?_
  refine lv_istore_n (lv' := [(2, .int (0 : Int32)), (0, .ref (sw_ad g 3)), (1, .ref (sw_ad g (sw_st i1)))]) hx hb dX3_sizeBySets_6 rfl hl (Nat.le_of_ble_eq_true rfl) rfl (fun ls hl => ?_)
  obtain ⟨n7, h⟩ := h
  refine sw_lp_iM (hd := 7) (Lf := fun x2_7 M_7 => [(0, .ref (sw_ad g 3)), (2, .int x2_7)]) h hW (lv_sub hl [1, 0] rfl) (fun _ _ h => h) (fun n7 ih7 x2_7 M_7 H locs ls h hW hl => ?_)
  rw [lX3_sizeBySets_7.eq_2] at h
  refine lv_iload_n hx hb dX3_sizeBySets_7 rfl (lv_at hl 1 rfl) ?_
  refine lv_sipush (v := 256) hx hb dX3_sizeBySets_8 (by decide) ?_
  refine lv_icmp_ge (tgt := 35) hx hb dX3_sizeBySets_11 (by decide) (fun k25 => ?_) (fun k25 => ?_)
  · have h := h.1 k25
    refine lv_iconst (v := 0) hx hb dX3_sizeBySets_35 (by decide) ?_
    refine lv_istore_n (lv' := [(2, .int (0 : Int32)), (0, .ref (sw_ad g 3))]) hx hb dX3_sizeBySets_36 rfl hl (Nat.le_of_ble_eq_true rfl) rfl (fun ls hl => ?_)
    obtain ⟨n37, h⟩ := h
    refine sw_lp_iM (hd := 37) (Lf := fun x2_37 M_37 => [(0, .ref (sw_ad g 3)), (2, .int x2_37)]) h hW (lv_sub hl [1, 0] rfl) (fun _ _ h => h) (fun n37 ih37 x2_37 M_37 H locs ls h hW hl => ?_)
    rw [lX3_sizeBySets_37.eq_2] at h
    refine lv_iload_n hx hb dX3_sizeBySets_37 rfl (lv_at hl 1 rfl) ?_
    refine lv_bipush (v := 6) hx hb dX3_sizeBySets_38 (by decide) ?_
    refine lv_icmp_ge (tgt := 72) hx hb dX3_sizeBySets_40 (by decide) (fun k34 => ?_) (fun k34 => ?_)
    · have h := h.1 k34
      refine lv_iconst (v := 0) hx hb dX3_sizeBySets_72 (by decide) ?_
      refine lv_istore_n (lv' := [(2, .int (0 : Int32)), (0, .ref (sw_ad g 3))]) hx hb dX3_sizeBySets_73 rfl hl (Nat.le_of_ble_eq_true rfl) rfl (fun ls hl => ?_)
      refine lv_iconst (v := 0) hx hb dX3_sizeBySets_74 (by decide) ?_
      refine lv_istore_n (lv' := [(3, .int (0 : Int32)), (2, .int (0 : Int32)), (0, .ref (sw_ad g 3))]) hx hb dX3_sizeBySets_75 rfl hl (Nat.le_of_ble_eq_true rfl) rfl (fun ls hl => ?_)
      obtain ⟨n76, h⟩ := h
      refine sw_lp_ii (hd := 76) (Lf := fun x2_76 x3_76 => [(0, .ref (sw_ad g 3)), (2, .int x2_76), (3, .int x3_76)]) h hW (lv_sub hl [2, 1, 0] rfl) (fun _ _ h => h) (fun n76 ih76 x2_76 x3_76 H locs ls h hW hl => ?_)
      rw [lX3_sizeBySets_76.eq_2] at h
      refine lv_iload_n hx hb dX3_sizeBySets_76 rfl (lv_at hl 2 rfl) ?_
      refine lv_sipush (v := 256) hx hb dX3_sizeBySets_77 (by decide) ?_
      refine lv_icmp_ge (tgt := 107) hx hb dX3_sizeBySets_80 (by decide) (fun k35 => ?_) (fun k35 => ?_)
      · have h := h.1 k35
        refine lv_iload_n hx hb dX3_sizeBySets_107 rfl (lv_at hl 1 rfl) ?_
        exact sw_ri hx hb hr hlocks hW rfl h dX3_sizeBySets_108
      · have h := h.2 k35
        refine lv_aload_n hx hb dX3_sizeBySets_83 rfl (lv_at hl 0 rfl) ?_
        refine sw_gr (j := 8) (r := 11) hx hb hts hown hW rfl qf_3 (Or.inl (Nat.le_of_ble_eq_true rfl)) sl_3 rfl (Nat.le_of_ble_eq_true rfl) q_119 dX3_sizeBySets_84 ?_
        refine lv_iload_n hx hb dX3_sizeBySets_87 rfl (lv_at hl 2 rfl) ?_
        have b36 := h.1
        have h := h.2
        refine sw_za (n := 256) hx hb hW (Or.inl (Nat.le_of_ble_eq_true rfl)) sl_11 b36 dX3_sizeBySets_88 ?_
        refine lv_if_eq (tgt := 101) hx hb dX3_sizeBySets_89 (by decide) (fun k37 => ?_) (fun k37 => ?_)
        · have h := h.1 k37
          obtain ⟨v38, ev38⟩ : ∃ z : Int32, z = x3_76 + (1 : Int32) := ⟨_, rfl⟩
          have h := h v38 ev38
          refine lv_iinc (v := v38) (lv' := [(3, .int v38), (0, .ref (sw_ad g 3)), (2, .int x2_76)]) hx hb dX3_sizeBySets_101 hl (k := 2) rfl (by rw [ev38]; rfl) (Nat.le_of_ble_eq_true rfl) rfl (fun ls hl => ?_)
          refine lv_goto (tgt := 76) hx hb dX3_sizeBySets_104 (by decide) ?_
          exact ih76 _ _ _ _ _ h hW (lv_sub hl [1, 2, 0] rfl)
        · have h := h.2 k37
          refine lv_iload_n hx hb dX3_sizeBySets_92 rfl (lv_at hl 1 rfl) ?_
          refine lv_iload_n hx hb dX3_sizeBySets_93 rfl (lv_at hl 2 rfl) ?_
          refine sw_ki (rest := [.int x2_76]) (sw_runS (As := [.int x3_76]) (rest := [.int x2_76]) hx hb hml hown hts (kJ6_bitCount_0f7a4 l g x3_76 M_37 _ h) cs_J6_bitCount_0f7a4 q_657 rfl rfl ⟨(Nat.le_of_ble_eq_true rfl), (Nat.le_of_ble_eq_true rfl)⟩ hW rfl hl.1 rfl (Nat.le_of_ble_eq_true rfl) dX3_sizeBySets_94 ⟨(Nat.le_of_ble_eq_true rfl), (Nat.le_of_ble_eq_true rfl)⟩) hW (fun r39 M42 H locs h hW => ?_)
          obtain ⟨h, eM42⟩ := h
          rw [eM42] at hW
          refine va_mmax hx hb (hml.trans hl.1.symm) hown (sw_w hts q_658) (sw_w hts q_443) (sw_w hts q_17) (sw_w hts q_444) (Nat.le_of_ble_eq_true rfl) (Nat.le_of_ble_eq_true rfl) (Nat.le_of_ble_eq_true rfl) (Nat.le_of_ble_eq_true rfl) dX3_sizeBySets_97 ?_
          refine lv_topi (fun v40 ev40 => ?_)
          have h := h v40 ev40
          refine lv_istore_n (lv' := [(2, .int v40), (0, .ref (sw_ad g 3)), (3, .int x3_76)]) hx hb dX3_sizeBySets_100 rfl hl (Nat.le_of_ble_eq_true rfl) rfl (fun ls hl => ?_)
          obtain ⟨v41, ev41⟩ : ∃ z : Int32, z = x3_76 + (1 : Int32) := ⟨_, rfl⟩
          have h := h v41 ev41
          refine lv_iinc (v := v41) (lv' := [(3, .int v41), (2, .int v40), (0, .ref (sw_ad g 3))]) hx hb dX3_sizeBySets_101 hl (k := 2) rfl (by rw [ev41]; rfl) (Nat.le_of_ble_eq_true rfl) rfl (fun ls hl => ?_)
          refine lv_goto (tgt := 76) hx hb dX3_sizeBySets_104 (by decide) ?_
          exact ih76 _ _ _ _ _ h hW (lv_sub hl [2, 1, 0] rfl)
    · have h := h.2 k34
      refine lv_iconst (v := 0) hx hb dX3_sizeBySets_43 (by decide) ?_
      refine lv_istore_n (lv' := [(3, .int (0 : Int32)), (0, .ref (sw_ad g 3)), (2, .int x2_37)]) hx hb dX3_sizeBySets_44 rfl hl (Nat.le_of_ble_eq_true rfl) rfl (fun ls hl => ?_)
      obtain ⟨n45, h⟩ := h
      refine sw_lp_iM (hd := 45) (Lf := fun x3_45 M_45 => [(0, .ref (sw_ad g 3)), (2, .int x2_37), (3, .int x3_45)]) h hW (lv_sub hl [1, 2, 0] rfl) (fun _ _ h => h) (fun n45 ih45 x3_45 M_45 H locs ls h hW hl => ?_)
      rw [lX3_sizeBySets_45.eq_2] at h
      refine lv_iload_n hx hb dX3_sizeBySets_45 rfl (lv_at hl 2 rfl) ?_
      refine lv_aload_n hx hb dX3_sizeBySets_46 rfl (lv_at hl 0 rfl) ?_
      refine sw_gr (j := 2) (r := 5) hx hb hts hown hW rfl qf_3 (Or.inl (Nat.le_of_ble_eq_true rfl)) sl_3 rfl (Nat.le_of_ble_eq_true rfl) q_112 dX3_sizeBySets_47 ?_
      refine lv_iload_n hx hb dX3_sizeBySets_50 rfl (lv_at hl 1 rfl) ?_
      have b44 := h.1
      have h := h.2
      refine sw_ia (n := 6) hx hb hW (Or.inl (Nat.le_of_ble_eq_true rfl)) sl_5 b44 dX3_sizeBySets_51 ?_
      refine lv_icmp_ge (tgt := 66) hx hb dX3_sizeBySets_52 (by decide) (fun k45 => ?_) (fun k45 => ?_)
      · have h := h.1 k45
        obtain ⟨v46, ev46⟩ : ∃ z : Int32, z = x2_37 + (1 : Int32) := ⟨_, rfl⟩
        have h := h v46 ev46
        refine lv_iinc (v := v46) (lv' := [(2, .int v46), (0, .ref (sw_ad g 3)), (3, .int x3_45)]) hx hb dX3_sizeBySets_66 hl (k := 1) rfl (by rw [ev46]; rfl) (Nat.le_of_ble_eq_true rfl) rfl (fun ls hl => ?_)
        refine lv_goto (tgt := 37) hx hb dX3_sizeBySets_69 (by decide) ?_
        exact ih37 _ _ _ _ _ h hW (lv_sub hl [1, 0] rfl)
      · have h := h.2 k45
        refine lv_aload_n hx hb dX3_sizeBySets_55 rfl (lv_at hl 0 rfl) ?_
        refine lv_iload_n hx hb dX3_sizeBySets_56 rfl (lv_at hl 1 rfl) ?_
        refine sw_kv (rest := []) (sw_runV (As := [.int x2_37]) (rest := []) hx hb hml hown hts (kX3_extendSets l g x2_37 M_45 _ h) cv_X3_extendSets q_654 rfl rfl ⟨(Nat.le_of_ble_eq_true rfl), (Nat.le_of_ble_eq_true rfl)⟩ hW (Or.inl (Nat.le_of_ble_eq_true rfl)) sl_3 rfl rfl hl.1 rfl (Nat.le_of_ble_eq_true rfl) dX3_sizeBySets_57 ⟨(Nat.le_of_ble_eq_true rfl), (Nat.le_of_ble_eq_true rfl)⟩) hW (fun  M47 H locs h hW => ?_)
        obtain ⟨v48, ev48⟩ : ∃ z : Int32, z = x3_45 + (1 : Int32) := ⟨_, rfl⟩
        have h := h v48 ev48
        refine lv_iinc (v := v48) (lv' := [(3, .int v48), (0, .ref (sw_ad g 3)), (2, .int x2_37)]) hx hb dX3_sizeBySets_60 hl (k := 2) rfl (by rw [ev48]; rfl) (Nat.le_of_ble_eq_true rfl) rfl (fun ls hl => ?_)
        refine lv_goto (tgt := 45) hx hb dX3_sizeBySets_63 (by decide) ?_
        exact ih45 _ _ _ _ _ h hW (lv_sub hl [1, 2, 0] rfl)
  · have h := h.2 k25
    refine lv_aload_n hx hb dX3_sizeBySets_14 rfl (lv_at hl 0 rfl) ?_
    refine sw_gr (j := 8) (r := 11) hx hb hts hown hW rfl qf_3 (Or.inl (Nat.le_of_ble_eq_true rfl)) sl_3 rfl (Nat.le_of_ble_eq_true rfl) q_119 dX3_sizeBySets_15 ?_
    refine lv_iload_n hx hb dX3_sizeBySets_18 rfl (lv_at hl 1 rfl) ?_
    refine lv_iload_n hx hb dX3_sizeBySets_19 rfl (lv_at hl 1 rfl) ?_
    refine lv_if_ne (tgt := 27) hx hb dX3_sizeBySets_20 (by decide) (fun k49 => ?_) (fun k49 => ?_)
    · have h := h.2 k49
      refine lv_iconst (v := 0) hx hb dX3_sizeBySets_27 (by decide) ?_
      have b50 := h.1
      have h := h.2
      refine sw_zs (n := 256) hx hb hW (Or.inl (Nat.le_of_ble_eq_true rfl)) sl_11 b50 dX3_sizeBySets_28 (fun H locs hW => ?_)
      obtain ⟨M51, eM51⟩ : ∃ z : sM, z = sw_ms M_7 11 (x2_7).toNatClampNeg (vp_nar .boolean (0 : Int32)) := ⟨_, rfl⟩
      rw [← eM51] at hW
      have h := h M51 eM51
      obtain ⟨v52, ev52⟩ : ∃ z : Int32, z = x2_7 + (1 : Int32) := ⟨_, rfl⟩
      have h := h v52 ev52
      refine lv_iinc (v := v52) (lv' := [(2, .int v52), (0, .ref (sw_ad g 3))]) hx hb dX3_sizeBySets_29 hl (k := 1) rfl (by rw [ev52]; rfl) (Nat.le_of_ble_eq_true rfl) rfl (fun ls hl => ?_)
      refine lv_goto (tgt := 7) hx hb dX3_sizeBySets_32 (by decide) ?_
      exact ih7 _ _ _ _ _ h hW (lv_sub hl [1, 0] rfl)
    · have h := h.1 k49
      refine lv_iconst (v := 1) hx hb dX3_sizeBySets_23 (by decide) ?_
      refine lv_goto (tgt := 28) hx hb dX3_sizeBySets_24 (by decide) ?_
      have b53 := h.1
      have h := h.2
      refine sw_zs (n := 256) hx hb hW (Or.inl (Nat.le_of_ble_eq_true rfl)) sl_11 b53 dX3_sizeBySets_28 (fun H locs hW => ?_)
      obtain ⟨M54, eM54⟩ : ∃ z : sM, z = sw_ms M_7 11 (x2_7).toNatClampNeg (vp_nar .boolean (1 : Int32)) := ⟨_, rfl⟩
      rw [← eM54] at hW
      have h := h M54 eM54
      obtain ⟨v55, ev55⟩ : ∃ z : Int32, z = x2_7 + (1 : Int32) := ⟨_, rfl⟩
      have h := h v55 ev55
      refine lv_iinc (v := v55) (lv' := [(2, .int v55), (0, .ref (sw_ad g 3))]) hx hb dX3_sizeBySets_29 hl (k := 1) rfl (by rw [ev55]; rfl) (Nat.le_of_ble_eq_true rfl) rfl (fun ls hl => ?_)
      refine lv_goto (tgt := 7) hx hb dX3_sizeBySets_32 (by decide) ?_
      exact ih7 _ _ _ _ _ h hW (lv_sub hl [1, 0] rfl)

def lX3_bestChoice_2 (a1 : Int32) (a2 : Int32) (Q : Int32 → sM → Prop) (K2 : sM → Prop) : Nat → Int32 → sM → Prop
  | 0, _, _ => False
  | n2 + 1, x3_2, M_2 => ((6 : Int32) ≤ x3_2 → (K2 M_2)) ∧ (¬ (6 : Int32) ≤ x3_2 → (vp_in a1 8 ∧ (wX6_contains (M_2 4 (a1).toNatClampNeg) x3_2 (fun r3 => (r3 = 0 → (∀ v5 : Int32, v5 = x3_2 + (1 : Int32) → ((fun x3_2 M_2 => lX3_bestChoice_2 a1 a2 Q K2 n2 x3_2 M_2) v5 M_2))) ∧ (¬ r3 = 0 → (vp_in x3_2 6 ∧ (((M_2 5 (x3_2).toNatClampNeg) ≤ 0 → (∀ v8 : Int32, v8 = x3_2 + (1 : Int32) → ((fun x3_2 M_2 => lX3_bestChoice_2 a1 a2 Q K2 n2 x3_2 M_2) v8 M_2))) ∧ (¬ (M_2 5 (x3_2).toNatClampNeg) ≤ 0 → (vp_in x3_2 6 ∧ (vp_in x3_2 6 ∧ (∀ M11 : sM, M11 = sw_ms M_2 5 (x3_2).toNatClampNeg ((M_2 5 (x3_2).toNatClampNeg) - (1 : Int32)) → (wX3_greatestFrom (a1 + (1 : Int32)) M11 (fun r12 M13 => ∀ v14 : Int32, v14 = ((1 : Int32) + r12) → (vp_in x3_2 6 ∧ (vp_in x3_2 6 ∧ (∀ M17 : sM, M17 = sw_ms M13 5 (x3_2).toNatClampNeg ((M13 5 (x3_2).toNatClampNeg) + (1 : Int32)) → ((v14 = a2 → (Q x3_2 M17)) ∧ (¬ v14 = a2 → (∀ v19 : Int32, v19 = x3_2 + (1 : Int32) → ((fun x3_2 M_2 => lX3_bestChoice_2 a1 a2 Q K2 n2 x3_2 M_2) v19 M17))))))))))))))))))))
theorem cv_X3_bestChoice : sw_cV yX3_bestChoice RX3 cX3_bestChoice 5 (some .int) 2 := ⟨q_378, q_1160, q_5, q_379, by decide +kernel⟩
def wX3_bestChoice (a1 : Int32) (a2 : Int32) (M : sM) (Q : Int32 → sM → Prop) : Prop :=
  ∃ n2, lX3_bestChoice_2 a1 a2 Q (fun M_2k => Q (-1 : Int32) M_2k) n2 (0 : Int32) M
set_option maxRecDepth 20000 in
theorem kX3_bestChoice (l : Launch) (g : sG) (a1 : Int32) (a2 : Int32) (M : sM) (Q : Int32 → sM → Prop) (h : wX3_bestChoice a1 a2 M Q) : Met l yX3_bestChoice (sw_ws yX3_bestChoice cX3_bestChoice 5 (some .int)) { frames := 3, cells := 0, slots := 0, locals := 74 } (va_Pc [.ref (sw_ad g 3), .int a1, .int a2] (sw_Pr g M)) (va_Qi Q (sw_Po g) (sw_A g)) 0 0 (sw_A g) := by
  refine sw_met (by decide) (Nat.le_of_ble_eq_true rfl) ?_
  intro p e s m args below meth c ls hx hb hr hts hown hml hlocks hW hl
  have hown : s.vm.findClass RX3 = some m.cls := hown
  have hl : lv_has ls 5 [(0, .ref (sw_ad g 3)), (1, .int a1), (2, .int a2)] := hl
  unfold wX3_bestChoice at h
  refine lv_iconst (v := 0) hx hb dX3_bestChoice_0 (by decide) ?_
  refine lv_istore_n (lv' := [(3, .int (0 : Int32)), (0, .ref (sw_ad g 3)), (1, .int a1), (2, .int a2)]) hx hb dX3_bestChoice_1 rfl hl (Nat.le_of_ble_eq_true rfl) rfl (fun ls hl => ?_)
  obtain ⟨n2, h⟩ := h
  refine sw_lp_iM (hd := 2) (Lf := fun x3_2 M_2 => [(0, .ref (sw_ad g 3)), (1, .int a1), (2, .int a2), (3, .int x3_2)]) h hW (lv_sub hl [1, 2, 3, 0] rfl) (fun _ _ h => h) (fun n2 ih2 x3_2 M_2 H locs ls h hW hl => ?_)
  rw [lX3_bestChoice_2.eq_2] at h
  refine lv_iload_n hx hb dX3_bestChoice_2 rfl (lv_at hl 3 rfl) ?_
  refine lv_bipush (v := 6) hx hb dX3_bestChoice_3 (by decide) ?_
  refine lv_icmp_ge (tgt := 75) hx hb dX3_bestChoice_5 (by decide) (fun k1 => ?_) (fun k1 => ?_)
  · have h := h.1 k1
    refine lv_iconst (v := -1) hx hb dX3_bestChoice_75 (by decide) ?_
    exact sw_ri hx hb hr hlocks hW rfl h dX3_bestChoice_76
  · have h := h.2 k1
    refine lv_aload_n hx hb dX3_bestChoice_8 rfl (lv_at hl 0 rfl) ?_
    refine sw_gr (j := 1) (r := 4) hx hb hts hown hW rfl qf_3 (Or.inl (Nat.le_of_ble_eq_true rfl)) sl_3 rfl (Nat.le_of_ble_eq_true rfl) q_111 dX3_bestChoice_9 ?_
    refine lv_iload_n hx hb dX3_bestChoice_12 rfl (lv_at hl 1 rfl) ?_
    have b2 := h.1
    have h := h.2
    refine sw_ia (n := 8) hx hb hW (Or.inl (Nat.le_of_ble_eq_true rfl)) sl_4 b2 dX3_bestChoice_13 ?_
    refine lv_iload_n hx hb dX3_bestChoice_14 rfl (lv_at hl 3 rfl) ?_
    refine sw_ki (rest := []) (sw_runN (As := [.int (M_2 4 (a1).toNatClampNeg), .int x3_2]) (rest := []) hx hb hml hown hts (kX6_contains l g (M_2 4 (a1).toNatClampNeg) x3_2 M_2 _ h) cs_X6_contains qn_X3_94 rfl rfl ⟨(Nat.le_of_ble_eq_true rfl), (Nat.le_of_ble_eq_true rfl)⟩ hW rfl hl.1 rfl (Nat.le_of_ble_eq_true rfl) dX3_bestChoice_15 ⟨(Nat.le_of_ble_eq_true rfl), (Nat.le_of_ble_eq_true rfl)⟩) hW (fun r3 M20 H locs h hW => ?_)
    obtain ⟨h, eM20⟩ := h
    rw [eM20] at hW
    refine lv_if_eq (tgt := 69) hx hb dX3_bestChoice_18 (by decide) (fun k4 => ?_) (fun k4 => ?_)
    · have h := h.1 k4
      obtain ⟨v5, ev5⟩ : ∃ z : Int32, z = x3_2 + (1 : Int32) := ⟨_, rfl⟩
      have h := h v5 ev5
      refine lv_iinc (v := v5) (lv' := [(3, .int v5), (0, .ref (sw_ad g 3)), (1, .int a1), (2, .int a2)]) hx hb dX3_bestChoice_69 hl (k := 3) rfl (by rw [ev5]; rfl) (Nat.le_of_ble_eq_true rfl) rfl (fun ls hl => ?_)
      refine lv_goto (tgt := 2) hx hb dX3_bestChoice_72 (by decide) ?_
      exact ih2 _ _ _ _ _ h hW (lv_sub hl [1, 2, 3, 0] rfl)
    · have h := h.2 k4
      refine lv_aload_n hx hb dX3_bestChoice_21 rfl (lv_at hl 0 rfl) ?_
      refine sw_gr (j := 2) (r := 5) hx hb hts hown hW rfl qf_3 (Or.inl (Nat.le_of_ble_eq_true rfl)) sl_3 rfl (Nat.le_of_ble_eq_true rfl) q_112 dX3_bestChoice_22 ?_
      refine lv_iload_n hx hb dX3_bestChoice_25 rfl (lv_at hl 3 rfl) ?_
      have b6 := h.1
      have h := h.2
      refine sw_ia (n := 6) hx hb hW (Or.inl (Nat.le_of_ble_eq_true rfl)) sl_5 b6 dX3_bestChoice_26 ?_
      refine lv_if_le (tgt := 69) hx hb dX3_bestChoice_27 (by decide) (fun k7 => ?_) (fun k7 => ?_)
      · have h := h.1 k7
        obtain ⟨v8, ev8⟩ : ∃ z : Int32, z = x3_2 + (1 : Int32) := ⟨_, rfl⟩
        have h := h v8 ev8
        refine lv_iinc (v := v8) (lv' := [(3, .int v8), (0, .ref (sw_ad g 3)), (1, .int a1), (2, .int a2)]) hx hb dX3_bestChoice_69 hl (k := 3) rfl (by rw [ev8]; rfl) (Nat.le_of_ble_eq_true rfl) rfl (fun ls hl => ?_)
        refine lv_goto (tgt := 2) hx hb dX3_bestChoice_72 (by decide) ?_
        exact ih2 _ _ _ _ _ h hW (lv_sub hl [1, 2, 3, 0] rfl)
      · have h := h.2 k7
        refine lv_aload_n hx hb dX3_bestChoice_30 rfl (lv_at hl 0 rfl) ?_
        refine sw_gr (j := 2) (r := 5) hx hb hts hown hW rfl qf_3 (Or.inl (Nat.le_of_ble_eq_true rfl)) sl_3 rfl (Nat.le_of_ble_eq_true rfl) q_112 dX3_bestChoice_31 ?_
        refine lv_iload_n hx hb dX3_bestChoice_34 rfl (lv_at hl 3 rfl) ?_
        refine lv_dup2_11 hx hb dX3_bestChoice_35 rfl rfl ?_
        have b9 := h.1
        have h := h.2
        refine sw_ia (n := 6) hx hb hW (Or.inl (Nat.le_of_ble_eq_true rfl)) sl_5 b9 dX3_bestChoice_36 ?_
        refine lv_iconst (v := 1) hx hb dX3_bestChoice_37 (by decide) ?_
        refine lv_isub hx hb dX3_bestChoice_38 ?_
        have b10 := h.1
        have h := h.2
        refine sw_is (n := 6) hx hb hW (Or.inl (Nat.le_of_ble_eq_true rfl)) sl_5 b10 dX3_bestChoice_39 (fun H locs hW => ?_)
        obtain ⟨M11, eM11⟩ : ∃ z : sM, z = sw_ms M_2 5 (x3_2).toNatClampNeg ((M_2 5 (x3_2).toNatClampNeg) - (1 : Int32)) := ⟨_, rfl⟩
        rw [← eM11] at hW
        have h := h M11 eM11
        refine lv_iconst (v := 1) hx hb dX3_bestChoice_40 (by decide) ?_
        refine lv_aload_n hx hb dX3_bestChoice_41 rfl (lv_at hl 0 rfl) ?_
        refine lv_iload_n hx hb dX3_bestChoice_42 rfl (lv_at hl 1 rfl) ?_
        refine lv_iconst (v := 1) hx hb dX3_bestChoice_43 (by decide) ?_
        refine lv_iadd hx hb dX3_bestChoice_44 ?_
        refine sw_ki (rest := [.int (1 : Int32)]) (sw_runV (As := [.int (a1 + (1 : Int32))]) (rest := [.int (1 : Int32)]) hx hb hml hown hts (kX3_greatestFrom l g (a1 + (1 : Int32)) M11 _ h) cv_X3_greatestFrom q_365 rfl rfl ⟨(Nat.le_of_ble_eq_true rfl), (Nat.le_of_ble_eq_true rfl)⟩ hW (Or.inl (Nat.le_of_ble_eq_true rfl)) sl_3 rfl rfl hl.1 rfl (Nat.le_of_ble_eq_true rfl) dX3_bestChoice_45 ⟨(Nat.le_of_ble_eq_true rfl), (Nat.le_of_ble_eq_true rfl)⟩) hW (fun r12 M13 H locs h hW => ?_)
        refine lv_iadd hx hb dX3_bestChoice_48 ?_
        refine lv_topi (fun v14 ev14 => ?_)
        have h := h v14 ev14
        refine lv_istore (lv' := [(4, .int v14), (0, .ref (sw_ad g 3)), (1, .int a1), (2, .int a2), (3, .int x3_2)]) hx hb dX3_bestChoice_49 hl (Nat.le_of_ble_eq_true rfl) rfl (fun ls hl => ?_)
        refine lv_aload_n hx hb dX3_bestChoice_51 rfl (lv_at hl 1 rfl) ?_
        refine sw_gr (j := 2) (r := 5) hx hb hts hown hW rfl qf_3 (Or.inl (Nat.le_of_ble_eq_true rfl)) sl_3 rfl (Nat.le_of_ble_eq_true rfl) q_112 dX3_bestChoice_52 ?_
        refine lv_iload_n hx hb dX3_bestChoice_55 rfl (lv_at hl 4 rfl) ?_
        refine lv_dup2_11 hx hb dX3_bestChoice_56 rfl rfl ?_
        have b15 := h.1
        have h := h.2
        refine sw_ia (n := 6) hx hb hW (Or.inl (Nat.le_of_ble_eq_true rfl)) sl_5 b15 dX3_bestChoice_57 ?_
        refine lv_iconst (v := 1) hx hb dX3_bestChoice_58 (by decide) ?_
        refine lv_iadd hx hb dX3_bestChoice_59 ?_
        have b16 := h.1
        have h := h.2
        refine sw_is (n := 6) hx hb hW (Or.inl (Nat.le_of_ble_eq_true rfl)) sl_5 b16 dX3_bestChoice_60 (fun H locs hW => ?_)
        obtain ⟨M17, eM17⟩ : ∃ z : sM, z = sw_ms M13 5 (x3_2).toNatClampNeg ((M13 5 (x3_2).toNatClampNeg) + (1 : Int32)) := ⟨_, rfl⟩
        rw [← eM17] at hW
        have h := h M17 eM17
        refine lv_iload hx hb dX3_bestChoice_61 (lv_at hl 0 rfl) ?_
        refine lv_iload_n hx hb dX3_bestChoice_63 rfl (lv_at hl 3 rfl) ?_
        refine lv_icmp_ne (tgt := 69) hx hb dX3_bestChoice_64 (by decide) (fun k18 => ?_) (fun k18 => ?_)
        · have h := h.2 k18
          obtain ⟨v19, ev19⟩ : ∃ z : Int32, z = x3_2 + (1 : Int32) := ⟨_, rfl⟩
          have h := h v19 ev19
          refine lv_iinc (v := v19) (lv' := [(3, .int v19), (4, .int v14), (0, .ref (sw_ad g 3)), (1, .int a1), (2, .int a2)]) hx hb dX3_bestChoice_69 hl (k := 4) rfl (by rw [ev19]; rfl) (Nat.le_of_ble_eq_true rfl) rfl (fun ls hl => ?_)
          refine lv_goto (tgt := 2) hx hb dX3_bestChoice_72 (by decide) ?_
          exact ih2 _ _ _ _ _ h hW (lv_sub hl [2, 3, 4, 0] rfl)
        · have h := h.1 k18
          refine lv_iload_n hx hb dX3_bestChoice_67 rfl (lv_at hl 4 rfl) ?_
          exact sw_ri hx hb hr hlocks hW rfl h dX3_bestChoice_68

def lX3_findBest_13 (K13 : sM → Prop) : Nat → Int32 → Int32 → sM → Prop
  | 0, _, _, _ => False
  | n13 + 1, x2_13, x3_13, M_13 => ((M_13 3 0) ≤ x3_13 → (K13 M_13)) ∧ (¬ (M_13 3 0) ≤ x3_13 → (wX3_bestChoice x3_13 x2_13 M_13 (fun r5 M6 => vp_in x3_13 8 ∧ (∀ M8 : sM, M8 = sw_ms M6 6 (x3_13).toNatClampNeg r5 → (vp_in x3_13 8 ∧ (((M8 6 (x3_13).toNatClampNeg) = (-1 : Int32) → (∀ v11 : Int32, v11 = x3_13 + (1 : Int32) → ((fun x2_13 x3_13 M_13 => lX3_findBest_13 K13 n13 x2_13 x3_13 M_13) x2_13 v11 M8))) ∧ (¬ (M8 6 (x3_13).toNatClampNeg) = (-1 : Int32) → (vp_in x3_13 8 ∧ (vp_in (M8 6 (x3_13).toNatClampNeg) 6 ∧ (vp_in (M8 6 (x3_13).toNatClampNeg) 6 ∧ (∀ M15 : sM, M15 = sw_ms M8 5 ((M8 6 (x3_13).toNatClampNeg)).toNatClampNeg ((M8 5 ((M8 6 (x3_13).toNatClampNeg)).toNatClampNeg) - (1 : Int32)) → (∀ v16 : Int32, v16 = x2_13 + (-1 : Int32) → (∀ v17 : Int32, v17 = x3_13 + (1 : Int32) → ((fun x2_13 x3_13 M_13 => lX3_findBest_13 K13 n13 x2_13 x3_13 M_13) v16 v17 M15))))))))))))))
theorem cv_X3_findBest : sw_cV yX3_findBest RX3 cX3_findBest 4 none 1 := ⟨q_351, q_352, q_5, q_353, by decide +kernel⟩
def wX3_findBest (i1 : Nat) (M : sM) (Q : sM → Prop) : Prop :=
  wX3_survey i1 M (fun M1 => wX3_greatestFrom (0 : Int32) M1 (fun r2 M3 => ∃ n13, lX3_findBest_13 (fun M_13k => Q M_13k) n13 r2 (0 : Int32) M3))
set_option maxRecDepth 20000 in
theorem kX3_findBest (l : Launch) (g : sG) (i1 : Nat) (hi1 : i1 < 11) (M : sM) (Q : sM → Prop) (h : wX3_findBest i1 M Q) : Met l yX3_findBest (sw_ws yX3_findBest cX3_findBest 4 none) { frames := 4, cells := 0, slots := 0, locals := 98 } (va_Pc [.ref (sw_ad g 3), .ref (sw_ad g (sw_st i1))] (sw_Pr g M)) (va_Qv Q (sw_Po g) (sw_A g)) 0 0 (sw_A g) := by
  refine sw_met (by decide) (Nat.le_of_ble_eq_true rfl) ?_
  intro p e s m args below meth c ls hx hb hr hts hown hml hlocks hW hl
  have hown : s.vm.findClass RX3 = some m.cls := hown
  have hl : lv_has ls 4 [(0, .ref (sw_ad g 3)), (1, .ref (sw_ad g (sw_st i1)))] := hl
  unfold wX3_findBest at h
  refine lv_aload_n hx hb dX3_findBest_0 rfl (lv_at hl 0 rfl) ?_
  refine lv_aload_n hx hb dX3_findBest_1 rfl (lv_at hl 1 rfl) ?_
  refine sw_kv (rest := []) (sw_runV (As := [.ref (sw_ad g (sw_st i1))]) (rest := []) hx hb hml hown hts (kX3_survey l g i1 hi1 M _ h) cv_X3_survey q_354 rfl rfl ⟨(Nat.le_of_ble_eq_true rfl), (Nat.le_of_ble_eq_true rfl)⟩ hW (Or.inl (Nat.le_of_ble_eq_true rfl)) sl_3 rfl rfl hl.1 rfl (Nat.le_of_ble_eq_true rfl) dX3_findBest_2 ⟨(Nat.le_of_ble_eq_true rfl), (Nat.le_of_ble_eq_true rfl)⟩) hW (fun  M1 H locs h hW => ?_)
  refine lv_aload_n hx hb dX3_findBest_5 rfl (lv_at hl 0 rfl) ?_
  refine lv_iconst (v := 0) hx hb dX3_findBest_6 (by decide) ?_
  refine sw_ki (rest := []) (sw_runV (As := [.int (0 : Int32)]) (rest := []) hx hb hml hown hts (kX3_greatestFrom l g (0 : Int32) M1 _ h) cv_X3_greatestFrom q_365 rfl rfl ⟨(Nat.le_of_ble_eq_true rfl), (Nat.le_of_ble_eq_true rfl)⟩ hW (Or.inl (Nat.le_of_ble_eq_true rfl)) sl_3 rfl rfl hl.1 rfl (Nat.le_of_ble_eq_true rfl) dX3_findBest_7 ⟨(Nat.le_of_ble_eq_true rfl), (Nat.le_of_ble_eq_true rfl)⟩) hW (fun r2 M3 H locs h hW => ?_)
  refine lv_istore_n (lv' := [(2, .int r2), (0, .ref (sw_ad g 3)), (1, .ref (sw_ad g (sw_st i1)))]) hx hb dX3_findBest_10 rfl hl (Nat.le_of_ble_eq_true rfl) rfl (fun ls hl => ?_)
  refine lv_iconst (v := 0) hx hb dX3_findBest_11 (by decide) ?_
  refine lv_istore_n (lv' := [(3, .int (0 : Int32)), (2, .int r2), (0, .ref (sw_ad g 3)), (1, .ref (sw_ad g (sw_st i1)))]) hx hb dX3_findBest_12 rfl hl (Nat.le_of_ble_eq_true rfl) rfl (fun ls hl => ?_)
  obtain ⟨n13, h⟩ := h
  refine sw_lp_iiM (hd := 13) (Lf := fun x2_13 x3_13 M_13 => [(0, .ref (sw_ad g 3)), (2, .int x2_13), (3, .int x3_13)]) h hW (lv_sub hl [2, 1, 0] rfl) (fun _ _ _ h => h) (fun n13 ih13 x2_13 x3_13 M_13 H locs ls h hW hl => ?_)
  rw [lX3_findBest_13.eq_2] at h
  refine lv_iload_n hx hb dX3_findBest_13 rfl (lv_at hl 2 rfl) ?_
  refine lv_aload_n hx hb dX3_findBest_14 rfl (lv_at hl 0 rfl) ?_
  refine sw_gi (j := 0) hx hb hts hown hW rfl qf_3 (Or.inl (Nat.le_of_ble_eq_true rfl)) sl_3 rfl (Nat.le_of_ble_eq_true rfl) q_110 dX3_findBest_15 ?_
  refine lv_icmp_ge (tgt := 67) hx hb dX3_findBest_18 (by decide) (fun k4 => ?_) (fun k4 => ?_)
  · have h := h.1 k4
    exact sw_rv hx hb hr hlocks hW h dX3_findBest_67
  · have h := h.2 k4
    refine lv_aload_n hx hb dX3_findBest_21 rfl (lv_at hl 0 rfl) ?_
    refine sw_gr (j := 3) (r := 6) hx hb hts hown hW rfl qf_3 (Or.inl (Nat.le_of_ble_eq_true rfl)) sl_3 rfl (Nat.le_of_ble_eq_true rfl) q_113 dX3_findBest_22 ?_
    refine lv_iload_n hx hb dX3_findBest_25 rfl (lv_at hl 2 rfl) ?_
    refine lv_aload_n hx hb dX3_findBest_26 rfl (lv_at hl 0 rfl) ?_
    refine lv_iload_n hx hb dX3_findBest_27 rfl (lv_at hl 2 rfl) ?_
    refine lv_iload_n hx hb dX3_findBest_28 rfl (lv_at hl 1 rfl) ?_
    refine sw_ki (rest := [.int x3_13, .ref (sw_ad g 6)]) (sw_runV (As := [.int x3_13, .int x2_13]) (rest := [.int x3_13, .ref (sw_ad g 6)]) hx hb hml hown hts (kX3_bestChoice l g x3_13 x2_13 M_13 _ h) cv_X3_bestChoice q_377 rfl rfl ⟨(Nat.le_of_ble_eq_true rfl), (Nat.le_of_ble_eq_true rfl)⟩ hW (Or.inl (Nat.le_of_ble_eq_true rfl)) sl_3 rfl rfl hl.1 rfl (Nat.le_of_ble_eq_true rfl) dX3_findBest_29 ⟨(Nat.le_of_ble_eq_true rfl), (Nat.le_of_ble_eq_true rfl)⟩) hW (fun r5 M6 H locs h hW => ?_)
    have b7 := h.1
    have h := h.2
    refine sw_is (n := 8) hx hb hW (Or.inl (Nat.le_of_ble_eq_true rfl)) sl_6 b7 dX3_findBest_32 (fun H locs hW => ?_)
    obtain ⟨M8, eM8⟩ : ∃ z : sM, z = sw_ms M6 6 (x3_13).toNatClampNeg r5 := ⟨_, rfl⟩
    rw [← eM8] at hW
    have h := h M8 eM8
    refine lv_aload_n hx hb dX3_findBest_33 rfl (lv_at hl 0 rfl) ?_
    refine sw_gr (j := 3) (r := 6) hx hb hts hown hW rfl qf_3 (Or.inl (Nat.le_of_ble_eq_true rfl)) sl_3 rfl (Nat.le_of_ble_eq_true rfl) q_113 dX3_findBest_34 ?_
    refine lv_iload_n hx hb dX3_findBest_37 rfl (lv_at hl 2 rfl) ?_
    have b9 := h.1
    have h := h.2
    refine sw_ia (n := 8) hx hb hW (Or.inl (Nat.le_of_ble_eq_true rfl)) sl_6 b9 dX3_findBest_38 ?_
    refine lv_iconst (v := -1) hx hb dX3_findBest_39 (by decide) ?_
    refine lv_icmp_eq (tgt := 61) hx hb dX3_findBest_40 (by decide) (fun k10 => ?_) (fun k10 => ?_)
    · have h := h.1 k10
      obtain ⟨v11, ev11⟩ : ∃ z : Int32, z = x3_13 + (1 : Int32) := ⟨_, rfl⟩
      have h := h v11 ev11
      refine lv_iinc (v := v11) (lv' := [(3, .int v11), (0, .ref (sw_ad g 3)), (2, .int x2_13)]) hx hb dX3_findBest_61 hl (k := 2) rfl (by rw [ev11]; rfl) (Nat.le_of_ble_eq_true rfl) rfl (fun ls hl => ?_)
      refine lv_goto (tgt := 13) hx hb dX3_findBest_64 (by decide) ?_
      exact ih13 _ _ _ _ _ _ h hW (lv_sub hl [1, 2, 0] rfl)
    · have h := h.2 k10
      refine lv_aload_n hx hb dX3_findBest_43 rfl (lv_at hl 0 rfl) ?_
      refine sw_gr (j := 2) (r := 5) hx hb hts hown hW rfl qf_3 (Or.inl (Nat.le_of_ble_eq_true rfl)) sl_3 rfl (Nat.le_of_ble_eq_true rfl) q_112 dX3_findBest_44 ?_
      refine lv_aload_n hx hb dX3_findBest_47 rfl (lv_at hl 0 rfl) ?_
      refine sw_gr (j := 3) (r := 6) hx hb hts hown hW rfl qf_3 (Or.inl (Nat.le_of_ble_eq_true rfl)) sl_3 rfl (Nat.le_of_ble_eq_true rfl) q_113 dX3_findBest_48 ?_
      refine lv_iload_n hx hb dX3_findBest_51 rfl (lv_at hl 2 rfl) ?_
      have b12 := h.1
      have h := h.2
      refine sw_ia (n := 8) hx hb hW (Or.inl (Nat.le_of_ble_eq_true rfl)) sl_6 b12 dX3_findBest_52 ?_
      refine lv_dup2_11 hx hb dX3_findBest_53 rfl rfl ?_
      have b13 := h.1
      have h := h.2
      refine sw_ia (n := 6) hx hb hW (Or.inl (Nat.le_of_ble_eq_true rfl)) sl_5 b13 dX3_findBest_54 ?_
      refine lv_iconst (v := 1) hx hb dX3_findBest_55 (by decide) ?_
      refine lv_isub hx hb dX3_findBest_56 ?_
      have b14 := h.1
      have h := h.2
      refine sw_is (n := 6) hx hb hW (Or.inl (Nat.le_of_ble_eq_true rfl)) sl_5 b14 dX3_findBest_57 (fun H locs hW => ?_)
      obtain ⟨M15, eM15⟩ : ∃ z : sM, z = sw_ms M8 5 ((M8 6 (x3_13).toNatClampNeg)).toNatClampNeg ((M8 5 ((M8 6 (x3_13).toNatClampNeg)).toNatClampNeg) - (1 : Int32)) := ⟨_, rfl⟩
      rw [← eM15] at hW
      have h := h M15 eM15
      obtain ⟨v16, ev16⟩ : ∃ z : Int32, z = x2_13 + (-1 : Int32) := ⟨_, rfl⟩
      have h := h v16 ev16
      refine lv_iinc (v := v16) (lv' := [(2, .int v16), (0, .ref (sw_ad g 3)), (3, .int x3_13)]) hx hb dX3_findBest_58 hl (k := 1) rfl (by rw [ev16]; rfl) (Nat.le_of_ble_eq_true rfl) rfl (fun ls hl => ?_)
      obtain ⟨v17, ev17⟩ : ∃ z : Int32, z = x3_13 + (1 : Int32) := ⟨_, rfl⟩
      have h := h v17 ev17
      refine lv_iinc (v := v17) (lv' := [(3, .int v17), (2, .int v16), (0, .ref (sw_ad g 3))]) hx hb dX3_findBest_61 hl (k := 2) rfl (by rw [ev17]; rfl) (Nat.le_of_ble_eq_true rfl) rfl (fun ls hl => ?_)
      refine lv_goto (tgt := 13) hx hb dX3_findBest_64 (by decide) ?_
      exact ih13 _ _ _ _ _ _ h hW (lv_sub hl [2, 1, 0] rfl)
