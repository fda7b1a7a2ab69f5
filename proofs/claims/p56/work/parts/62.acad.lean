/-! The Academy's constructor. -/
abbrev z6B : Type := (Nat × zSB) × (Nat × zSB) × (Nat × zHB) × (Nat × (Nat → Nat)) × (Nat × (Nat → Nat)) × (Nat × (Nat → Nat)) × (Nat × (Nat → Nat))
def zWX6 (ac : Nat → ClassId) (h0 : Nat) (u : z6B) : va_W := (h0, .inr (6, [.ref u.1.1, .ref u.2.1.1, .int 0, .ref u.2.2.1.1, .ref u.2.2.2.1.1, .ref u.2.2.2.2.1.1, .ref u.2.2.2.2.2.1.1, .ref u.2.2.2.2.2.2.1, .int (-1), .int (-1)])) :: (((((((zWX5 ac u.1.1 u.1.2) ++ (zWX5 ac u.2.1.1 u.2.1.2)) ++ (zWX0 ac u.2.2.1.1 u.2.2.1.2)) ++ (zWX3 ac u.2.2.2.1.1 u.2.2.2.1.2)) ++ (zWX2 ac u.2.2.2.2.1.1 u.2.2.2.2.1.2)) ++ (zWX4 ac u.2.2.2.2.2.1.1 u.2.2.2.2.2.1.2)) ++ (zWX1 ac u.2.2.2.2.2.2.1 u.2.2.2.2.2.2.2))
set_option maxRecDepth 20000 in
theorem kc_X6 (l : Launch) (D : va_G) (ac : Nat → ClassId) : zKc l D ac yX6_init cX6_init 1 6 [.null, .null, .int 0, .null, .null, .null, .null, .null, .int 0, .int 0] { frames := 4, cells := 219, slots := 1952, locals := 110 } 219 1952 (zWX6 ac) := by
  refine zmet (by decide) rfl (by decide) ?_
  intro h0 p e s m args below meth c ls hx hb hr hts hown hml hin hB hl fin
  have hown : s.vm.findClass RX6 = some m.cls := hown
  have hl : lv_has ls 1 [(0, .ref h0)] := hl
  generalize zAf h0 s.heap.size = A at hB fin ⊢
  generalize hH : s.heap = H at hB ⊢
  generalize hLo : ([] : List Loc) = locs at hB ⊢
  refine lv_aload_n hx hb dX6_init_0 rfl (lv_at hl 0 rfl) ?_
  refine W.objInit hx hb hown (sw_w hts q_39) (sw_w hts q_40) (sw_w hts q_41) rfl (by rw [hml]; exact hl.1) rfl dX6_init_1 (Nat.le_of_ble_eq_true rfl) (Nat.le_of_ble_eq_true rfl) ?_
  refine W.eq (g2 := F0 m 4 ls []) rfl ?_
  refine lv_aload_n hx hb dX6_init_4 rfl (lv_at hl 0 rfl) ?_
  refine zn_new (ci := 5) hx hb hts hown qf_5 tyX5 tyX5_ok rfl q_42 q_43 q_3 hB (fs := [.int 0, .int 0, .int 0, .int 0, .null, .null, .int 0, .null, .null, .null, .null, .null, .null, .null, .int 0, .int 0, .null]) (by decide) (Nat.le_of_ble_eq_true rfl) (Nat.le_of_ble_eq_true rfl) dX6_init_5 (fun q1 H hB => ?_)
  refine lv_dup hx hb dX6_init_8 rfl ?_
  refine zn_call hx hb hml hown hts (kc_X5 l D ac) ci_X5 q_44 rfl rfl ⟨(Nat.le_of_ble_eq_true rfl), (Nat.le_of_ble_eq_true rfl)⟩ hB hl.1 (Nat.le_of_ble_eq_true rfl) dX6_init_9 ⟨(Nat.le_of_ble_eq_true rfl), (Nat.le_of_ble_eq_true rfl)⟩ (fun u1 H locs hB => ?_)
  have hB : zBw D ac A ((h0, .inr (6, [.null, .null, .int 0, .null, .null, .null, .null, .null, .int 0, .int 0])) :: (zWX5 ac q1 u1)) s H locs := hB
  refine zn_put hx hb hts hown qf_6 tyX6 tyX6_ok nmX6 rfl hB 0 (Nat.le_of_ble_eq_true rfl) q_150 (by first | exact Or.inl rfl | exact Or.inr ⟨rfl, hin, rfl⟩) (by first | rfl | decide) (by first | rfl | decide) (Nat.le_of_ble_eq_true rfl) dX6_init_12 (fun H locs hB => ?_)
  have hB : zBw D ac A ((h0, .inr (6, [.ref q1, .null, .int 0, .null, .null, .null, .null, .null, .int 0, .int 0])) :: (zWX5 ac q1 u1)) s H locs := hB
  refine lv_aload_n hx hb dX6_init_15 rfl (lv_at hl 0 rfl) ?_
  refine zn_new (ci := 5) hx hb hts hown qf_5 tyX5 tyX5_ok rfl q_42 q_43 q_3 hB (fs := [.int 0, .int 0, .int 0, .int 0, .null, .null, .int 0, .null, .null, .null, .null, .null, .null, .null, .int 0, .int 0, .null]) (by decide) (Nat.le_of_ble_eq_true rfl) (Nat.le_of_ble_eq_true rfl) dX6_init_16 (fun q2 H hB => ?_)
  refine lv_dup hx hb dX6_init_19 rfl ?_
  refine zn_call hx hb hml hown hts (kc_X5 l D ac) ci_X5 q_44 rfl rfl ⟨(Nat.le_of_ble_eq_true rfl), (Nat.le_of_ble_eq_true rfl)⟩ hB hl.1 (Nat.le_of_ble_eq_true rfl) dX6_init_20 ⟨(Nat.le_of_ble_eq_true rfl), (Nat.le_of_ble_eq_true rfl)⟩ (fun u2 H locs hB => ?_)
  have hB : zBw D ac A ((h0, .inr (6, [.ref q1, .null, .int 0, .null, .null, .null, .null, .null, .int 0, .int 0])) :: ((zWX5 ac q1 u1) ++ (zWX5 ac q2 u2))) s H locs := hB
  refine zn_put hx hb hts hown qf_6 tyX6 tyX6_ok nmX6 rfl hB 1 (Nat.le_of_ble_eq_true rfl) q_151 (by first | exact Or.inl rfl | exact Or.inr ⟨rfl, hin, rfl⟩) (by first | rfl | decide) (by first | rfl | decide) (Nat.le_of_ble_eq_true rfl) dX6_init_23 (fun H locs hB => ?_)
  have hB : zBw D ac A ((h0, .inr (6, [.ref q1, .ref q2, .int 0, .null, .null, .null, .null, .null, .int 0, .int 0])) :: ((zWX5 ac q1 u1) ++ (zWX5 ac q2 u2))) s H locs := hB
  refine lv_aload_n hx hb dX6_init_26 rfl (lv_at hl 0 rfl) ?_
  refine lv_iconst (v := 0) hx hb dX6_init_27 (by decide) ?_
  refine zn_put hx hb hts hown qf_6 tyX6 tyX6_ok nmX6 rfl hB 2 (Nat.le_of_ble_eq_true rfl) q_152 (by first | exact Or.inl rfl | exact Or.inr ⟨rfl, hin, rfl⟩) (by first | rfl | decide) (by first | rfl | decide) (Nat.le_of_ble_eq_true rfl) dX6_init_28 (fun H locs hB => ?_)
  have hB : zBw D ac A ((h0, .inr (6, [.ref q1, .ref q2, .int 0, .null, .null, .null, .null, .null, .int 0, .int 0])) :: ((zWX5 ac q1 u1) ++ (zWX5 ac q2 u2))) s H locs := hB
  refine lv_aload_n hx hb dX6_init_31 rfl (lv_at hl 0 rfl) ?_
  refine zn_new (ci := 0) hx hb hts hown qf_0 tyX0 tyX0_ok rfl q_93 q_94 q_4 hB (fs := [.null, .int 0, .int 0]) (by decide) (Nat.le_of_ble_eq_true rfl) (Nat.le_of_ble_eq_true rfl) dX6_init_32 (fun q3 H hB => ?_)
  refine lv_dup hx hb dX6_init_35 rfl ?_
  refine zn_call hx hb hml hown hts (kc_X0 l D ac) ci_X0 q_95 rfl rfl ⟨(Nat.le_of_ble_eq_true rfl), (Nat.le_of_ble_eq_true rfl)⟩ hB hl.1 (Nat.le_of_ble_eq_true rfl) dX6_init_36 ⟨(Nat.le_of_ble_eq_true rfl), (Nat.le_of_ble_eq_true rfl)⟩ (fun u3 H locs hB => ?_)
  have hB : zBw D ac A ((h0, .inr (6, [.ref q1, .ref q2, .int 0, .null, .null, .null, .null, .null, .int 0, .int 0])) :: (((zWX5 ac q1 u1) ++ (zWX5 ac q2 u2)) ++ (zWX0 ac q3 u3))) s H locs := hB
  refine zn_put hx hb hts hown qf_6 tyX6 tyX6_ok nmX6 rfl hB 3 (Nat.le_of_ble_eq_true rfl) q_153 (by first | exact Or.inl rfl | exact Or.inr ⟨rfl, hin, rfl⟩) (by first | rfl | decide) (by first | rfl | decide) (Nat.le_of_ble_eq_true rfl) dX6_init_39 (fun H locs hB => ?_)
  have hB : zBw D ac A ((h0, .inr (6, [.ref q1, .ref q2, .int 0, .ref q3, .null, .null, .null, .null, .int 0, .int 0])) :: (((zWX5 ac q1 u1) ++ (zWX5 ac q2 u2)) ++ (zWX0 ac q3 u3))) s H locs := hB
  refine lv_aload_n hx hb dX6_init_42 rfl (lv_at hl 0 rfl) ?_
  refine zn_new (ci := 3) hx hb hts hown qf_3 tyX3 tyX3_ok rfl q_105 q_106 q_5 hB (fs := [.int 0, .null, .null, .null, .null, .null, .null, .null, .null]) (by decide) (Nat.le_of_ble_eq_true rfl) (Nat.le_of_ble_eq_true rfl) dX6_init_43 (fun q4 H hB => ?_)
  refine lv_dup hx hb dX6_init_46 rfl ?_
  refine zn_callN hx hb hml hown hts (kc_X3 l D ac) ci_X3 (qt_1 _ (List.mem_of_getElem? (i := 152) rfl)) rfl rfl ⟨(Nat.le_of_ble_eq_true rfl), (Nat.le_of_ble_eq_true rfl)⟩ hB hl.1 (Nat.le_of_ble_eq_true rfl) dX6_init_47 ⟨(Nat.le_of_ble_eq_true rfl), (Nat.le_of_ble_eq_true rfl)⟩ (fun u4 H locs hB => ?_)
  have hB : zBw D ac A ((h0, .inr (6, [.ref q1, .ref q2, .int 0, .ref q3, .null, .null, .null, .null, .int 0, .int 0])) :: ((((zWX5 ac q1 u1) ++ (zWX5 ac q2 u2)) ++ (zWX0 ac q3 u3)) ++ (zWX3 ac q4 u4))) s H locs := hB
  refine zn_put hx hb hts hown qf_6 tyX6 tyX6_ok nmX6 rfl hB 4 (Nat.le_of_ble_eq_true rfl) q_154 (by first | exact Or.inl rfl | exact Or.inr ⟨rfl, hin, rfl⟩) (by first | rfl | decide) (by first | rfl | decide) (Nat.le_of_ble_eq_true rfl) dX6_init_50 (fun H locs hB => ?_)
  have hB : zBw D ac A ((h0, .inr (6, [.ref q1, .ref q2, .int 0, .ref q3, .ref q4, .null, .null, .null, .int 0, .int 0])) :: ((((zWX5 ac q1 u1) ++ (zWX5 ac q2 u2)) ++ (zWX0 ac q3 u3)) ++ (zWX3 ac q4 u4))) s H locs := hB
  refine lv_aload_n hx hb dX6_init_53 rfl (lv_at hl 0 rfl) ?_
  refine zn_new (ci := 2) hx hb hts hown qf_2 tyX2 tyX2_ok rfl q_120 q_121 q_6 hB (fs := [.null]) (by decide) (Nat.le_of_ble_eq_true rfl) (Nat.le_of_ble_eq_true rfl) dX6_init_54 (fun q5 H hB => ?_)
  refine lv_dup hx hb dX6_init_57 rfl ?_
  refine zn_callN hx hb hml hown hts (kc_X2 l D ac) ci_X2 (qt_1 _ (List.mem_of_getElem? (i := 188) rfl)) rfl rfl ⟨(Nat.le_of_ble_eq_true rfl), (Nat.le_of_ble_eq_true rfl)⟩ hB hl.1 (Nat.le_of_ble_eq_true rfl) dX6_init_58 ⟨(Nat.le_of_ble_eq_true rfl), (Nat.le_of_ble_eq_true rfl)⟩ (fun u5 H locs hB => ?_)
  have hB : zBw D ac A ((h0, .inr (6, [.ref q1, .ref q2, .int 0, .ref q3, .ref q4, .null, .null, .null, .int 0, .int 0])) :: (((((zWX5 ac q1 u1) ++ (zWX5 ac q2 u2)) ++ (zWX0 ac q3 u3)) ++ (zWX3 ac q4 u4)) ++ (zWX2 ac q5 u5))) s H locs := hB
  refine zn_put hx hb hts hown qf_6 tyX6 tyX6_ok nmX6 rfl hB 5 (Nat.le_of_ble_eq_true rfl) q_155 (by first | exact Or.inl rfl | exact Or.inr ⟨rfl, hin, rfl⟩) (by first | rfl | decide) (by first | rfl | decide) (Nat.le_of_ble_eq_true rfl) dX6_init_61 (fun H locs hB => ?_)
  have hB : zBw D ac A ((h0, .inr (6, [.ref q1, .ref q2, .int 0, .ref q3, .ref q4, .ref q5, .null, .null, .int 0, .int 0])) :: (((((zWX5 ac q1 u1) ++ (zWX5 ac q2 u2)) ++ (zWX0 ac q3 u3)) ++ (zWX3 ac q4 u4)) ++ (zWX2 ac q5 u5))) s H locs := hB
  refine lv_aload_n hx hb dX6_init_64 rfl (lv_at hl 0 rfl) ?_
  refine zn_new (ci := 4) hx hb hts hown qf_4 tyX4 tyX4_ok rfl q_126 q_127 q_7 hB (fs := [.null, .int 0, .int 0, .null, .null]) (by decide) (Nat.le_of_ble_eq_true rfl) (Nat.le_of_ble_eq_true rfl) dX6_init_65 (fun q6 H hB => ?_)
  refine lv_dup hx hb dX6_init_68 rfl ?_
  refine zn_callN hx hb hml hown hts (kc_X4 l D ac) ci_X4 (qt_1 _ (List.mem_of_getElem? (i := 198) rfl)) rfl rfl ⟨(Nat.le_of_ble_eq_true rfl), (Nat.le_of_ble_eq_true rfl)⟩ hB hl.1 (Nat.le_of_ble_eq_true rfl) dX6_init_69 ⟨(Nat.le_of_ble_eq_true rfl), (Nat.le_of_ble_eq_true rfl)⟩ (fun u6 H locs hB => ?_)
  have hB : zBw D ac A ((h0, .inr (6, [.ref q1, .ref q2, .int 0, .ref q3, .ref q4, .ref q5, .null, .null, .int 0, .int 0])) :: ((((((zWX5 ac q1 u1) ++ (zWX5 ac q2 u2)) ++ (zWX0 ac q3 u3)) ++ (zWX3 ac q4 u4)) ++ (zWX2 ac q5 u5)) ++ (zWX4 ac q6 u6))) s H locs := hB
  refine zn_put hx hb hts hown qf_6 tyX6 tyX6_ok nmX6 rfl hB 6 (Nat.le_of_ble_eq_true rfl) q_156 (by first | exact Or.inl rfl | exact Or.inr ⟨rfl, hin, rfl⟩) (by first | rfl | decide) (by first | rfl | decide) (Nat.le_of_ble_eq_true rfl) dX6_init_72 (fun H locs hB => ?_)
  have hB : zBw D ac A ((h0, .inr (6, [.ref q1, .ref q2, .int 0, .ref q3, .ref q4, .ref q5, .ref q6, .null, .int 0, .int 0])) :: ((((((zWX5 ac q1 u1) ++ (zWX5 ac q2 u2)) ++ (zWX0 ac q3 u3)) ++ (zWX3 ac q4 u4)) ++ (zWX2 ac q5 u5)) ++ (zWX4 ac q6 u6))) s H locs := hB
  refine lv_aload_n hx hb dX6_init_75 rfl (lv_at hl 0 rfl) ?_
  refine zn_new (ci := 1) hx hb hts hown qf_1 tyX1 tyX1_ok rfl q_141 q_142 q_8 hB (fs := [.null, .int 0]) (by decide) (Nat.le_of_ble_eq_true rfl) (Nat.le_of_ble_eq_true rfl) dX6_init_76 (fun q7 H hB => ?_)
  refine lv_dup hx hb dX6_init_79 rfl ?_
  refine zn_callN hx hb hml hown hts (kc_X1 l D ac) ci_X1 (qt_1 _ (List.mem_of_getElem? (i := 225) rfl)) rfl rfl ⟨(Nat.le_of_ble_eq_true rfl), (Nat.le_of_ble_eq_true rfl)⟩ hB hl.1 (Nat.le_of_ble_eq_true rfl) dX6_init_80 ⟨(Nat.le_of_ble_eq_true rfl), (Nat.le_of_ble_eq_true rfl)⟩ (fun u7 H locs hB => ?_)
  have hB : zBw D ac A ((h0, .inr (6, [.ref q1, .ref q2, .int 0, .ref q3, .ref q4, .ref q5, .ref q6, .null, .int 0, .int 0])) :: (((((((zWX5 ac q1 u1) ++ (zWX5 ac q2 u2)) ++ (zWX0 ac q3 u3)) ++ (zWX3 ac q4 u4)) ++ (zWX2 ac q5 u5)) ++ (zWX4 ac q6 u6)) ++ (zWX1 ac q7 u7))) s H locs := hB
  refine zn_put hx hb hts hown qf_6 tyX6 tyX6_ok nmX6 rfl hB 7 (Nat.le_of_ble_eq_true rfl) q_157 (by first | exact Or.inl rfl | exact Or.inr ⟨rfl, hin, rfl⟩) (by first | rfl | decide) (by first | rfl | decide) (Nat.le_of_ble_eq_true rfl) dX6_init_83 (fun H locs hB => ?_)
  have hB : zBw D ac A ((h0, .inr (6, [.ref q1, .ref q2, .int 0, .ref q3, .ref q4, .ref q5, .ref q6, .ref q7, .int 0, .int 0])) :: (((((((zWX5 ac q1 u1) ++ (zWX5 ac q2 u2)) ++ (zWX0 ac q3 u3)) ++ (zWX3 ac q4 u4)) ++ (zWX2 ac q5 u5)) ++ (zWX4 ac q6 u6)) ++ (zWX1 ac q7 u7))) s H locs := hB
  refine lv_aload_n hx hb dX6_init_86 rfl (lv_at hl 0 rfl) ?_
  refine lv_iconst (v := -1) hx hb dX6_init_87 (by decide) ?_
  refine zn_put hx hb hts hown qf_6 tyX6 tyX6_ok nmX6 rfl hB 8 (Nat.le_of_ble_eq_true rfl) q_158 (by first | exact Or.inl rfl | exact Or.inr ⟨rfl, hin, rfl⟩) (by first | rfl | decide) (by first | rfl | decide) (Nat.le_of_ble_eq_true rfl) dX6_init_88 (fun H locs hB => ?_)
  have hB : zBw D ac A ((h0, .inr (6, [.ref q1, .ref q2, .int 0, .ref q3, .ref q4, .ref q5, .ref q6, .ref q7, .int (-1), .int 0])) :: (((((((zWX5 ac q1 u1) ++ (zWX5 ac q2 u2)) ++ (zWX0 ac q3 u3)) ++ (zWX3 ac q4 u4)) ++ (zWX2 ac q5 u5)) ++ (zWX4 ac q6 u6)) ++ (zWX1 ac q7 u7))) s H locs := hB
  refine lv_aload_n hx hb dX6_init_91 rfl (lv_at hl 0 rfl) ?_
  refine lv_iconst (v := -1) hx hb dX6_init_92 (by decide) ?_
  refine zn_put hx hb hts hown qf_6 tyX6 tyX6_ok nmX6 rfl hB 9 (Nat.le_of_ble_eq_true rfl) q_159 (by first | exact Or.inl rfl | exact Or.inr ⟨rfl, hin, rfl⟩) (by first | rfl | decide) (by first | rfl | decide) (Nat.le_of_ble_eq_true rfl) dX6_init_93 (fun H locs hB => ?_)
  have hB : zBw D ac A ((h0, .inr (6, [.ref q1, .ref q2, .int 0, .ref q3, .ref q4, .ref q5, .ref q6, .ref q7, .int (-1), .int (-1)])) :: (((((((zWX5 ac q1 u1) ++ (zWX5 ac q2 u2)) ++ (zWX0 ac q3 u3)) ++ (zWX3 ac q4 u4)) ++ (zWX2 ac q5 u5)) ++ (zWX4 ac q6 u6)) ++ (zWX1 ac q7 u7))) s H locs := hB
  exact fin ((q1, u1), (q2, u2), (q3, u3), (q4, u4), (q5, u5), (q6, u6), (q7, u7)) _ _ _ _ dX6_init_96 hB
theorem ci_X6 : sw_cI yX6_init cX6_init 1 := ⟨q_37, q_2, q_38, rfl, by decide +kernel⟩
