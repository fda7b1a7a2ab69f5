/-! The leaf constructors. -/
theorem qa_char : Cond.arrayClass .char ∈ sw_all := sw_q (qt_1 _ (List.mem_of_getElem? (i := 128) rfl)) rfl
theorem qa_int : Cond.arrayClass .int ∈ sw_all := sw_q (qt_1 _ (List.mem_of_getElem? (i := 129) rfl)) rfl
theorem qa_boolean : Cond.arrayClass .boolean ∈ sw_all := sw_q (qt_1 _ (List.mem_of_getElem? (i := 185) rfl)) rfl
theorem qa_byte : Cond.arrayClass .byte ∈ sw_all := sw_q (qt_3 _ (List.mem_of_getElem? (i := 1) rfl)) rfl
theorem qa_long : Cond.arrayClass .long ∈ sw_all := sw_q (qt_7 _ (List.mem_of_getElem? (i := 28) rfl)) rfl
def zWX1 (ac : Nat → ClassId) (h0 : Nat) (u : Nat → Nat) : va_W := (h0, .inr (1, [.ref (u 1), .int 0])) :: [(u 1, .inl (ac 0, 32, .inl (fun _ => 0)))]
set_option maxRecDepth 20000 in
theorem kc_X1 (l : Launch) (D : va_G) (ac : Nat → ClassId) : zKc l D ac yX1_init cX1_init 1 1 [.null, .int 0] { frames := 2, cells := 1, slots := 32, locals := 40 } 1 32 (zWX1 ac) := by
  refine zmet (by decide) rfl (by decide) ?_
  intro h0 p e s m args below meth c ls hx hb hr hts hown hml hin hB hl fin
  have hown : s.vm.findClass RX1 = some m.cls := hown
  have hl : lv_has ls 1 [(0, .ref h0)] := hl
  generalize zAf h0 s.heap.size = A at hB fin ⊢
  generalize hH : s.heap = H at hB ⊢
  generalize hLo : ([] : List Loc) = locs at hB ⊢
  refine lv_aload_n hx hb dX1_init_0 rfl (lv_at hl 0 rfl) ?_
  refine W.objInit hx hb hown (sw_w hts q_145) (sw_w hts q_40) (sw_w hts q_41) rfl (by rw [hml]; exact hl.1) rfl dX1_init_1 (Nat.le_of_ble_eq_true rfl) (Nat.le_of_ble_eq_true rfl) ?_
  refine W.eq (g2 := F0 m 4 ls []) rfl ?_
  refine lv_aload_n hx hb dX1_init_4 rfl (lv_at hl 0 rfl) ?_
  refine lv_bipush (v := 32) hx hb dX1_init_5 (by decide) ?_
  refine zn_a hx hb hts (atype := .char) qa_char 0 rfl rfl hB (a0 := (32, .inl (fun _ => 0))) (fun _ => rfl) (by decide) (by decide) (by decide) (Nat.le_of_ble_eq_true rfl) (Nat.le_of_ble_eq_true rfl) dX1_init_7 (fun q1 H hB => ?_)
  have hB : zBw D ac A ((h0, .inr (1, [.null, .int 0])) :: [(q1, .inl (ac 0, 32, .inl (fun _ => 0)))]) s H locs := hB
  refine zn_put hx hb hts hown qf_1 tyX1 tyX1_ok nmX1 rfl hB 0 (Nat.le_of_ble_eq_true rfl) q_146 (by first | exact Or.inl rfl | exact Or.inr ⟨rfl, hin, rfl⟩) (by first | rfl | decide) (by first | rfl | decide) (Nat.le_of_ble_eq_true rfl) dX1_init_9 (fun H locs hB => ?_)
  have hB : zBw D ac A ((h0, .inr (1, [.ref q1, .int 0])) :: [(q1, .inl (ac 0, 32, .inl (fun _ => 0)))]) s H locs := hB
  refine lv_aload_n hx hb dX1_init_12 rfl (lv_at hl 0 rfl) ?_
  refine lv_iconst (v := 0) hx hb dX1_init_13 (by decide) ?_
  refine zn_put hx hb hts hown qf_1 tyX1 tyX1_ok nmX1 rfl hB 1 (Nat.le_of_ble_eq_true rfl) q_148 (by first | exact Or.inl rfl | exact Or.inr ⟨rfl, hin, rfl⟩) (by first | rfl | decide) (by first | rfl | decide) (Nat.le_of_ble_eq_true rfl) dX1_init_14 (fun H locs hB => ?_)
  have hB : zBw D ac A ((h0, .inr (1, [.ref q1, .int 0])) :: [(q1, .inl (ac 0, 32, .inl (fun _ => 0)))]) s H locs := hB
  exact fin (fun r => ([h0, q1] : List Nat).getD r 0) _ _ _ _ dX1_init_17 hB
theorem ci_X1 : sw_cI yX1_init cX1_init 1 := ⟨q_143, q_8, q_144, rfl, by decide +kernel⟩
def zWX2 (ac : Nat → ClassId) (h0 : Nat) (u : Nat → Nat) : va_W := (h0, .inr (2, [.ref (u 1)])) :: [(u 1, .inl (ac 1, 6, .inl (fun _ => 0)))]
set_option maxRecDepth 20000 in
theorem kc_X2 (l : Launch) (D : va_G) (ac : Nat → ClassId) : zKc l D ac yX2_init cX2_init 1 2 [.null] { frames := 2, cells := 1, slots := 6, locals := 40 } 1 6 (zWX2 ac) := by
  refine zmet (by decide) rfl (by decide) ?_
  intro h0 p e s m args below meth c ls hx hb hr hts hown hml hin hB hl fin
  have hown : s.vm.findClass RX2 = some m.cls := hown
  have hl : lv_has ls 1 [(0, .ref h0)] := hl
  generalize zAf h0 s.heap.size = A at hB fin ⊢
  generalize hH : s.heap = H at hB ⊢
  generalize hLo : ([] : List Loc) = locs at hB ⊢
  refine lv_aload_n hx hb dX2_init_0 rfl (lv_at hl 0 rfl) ?_
  refine W.objInit hx hb hown (sw_w hts q_124) (sw_w hts q_40) (sw_w hts q_41) rfl (by rw [hml]; exact hl.1) rfl dX2_init_1 (Nat.le_of_ble_eq_true rfl) (Nat.le_of_ble_eq_true rfl) ?_
  refine W.eq (g2 := F0 m 4 ls []) rfl ?_
  refine lv_aload_n hx hb dX2_init_4 rfl (lv_at hl 0 rfl) ?_
  refine lv_bipush (v := 6) hx hb dX2_init_5 (by decide) ?_
  refine zn_a hx hb hts (atype := .int) qa_int 1 rfl rfl hB (a0 := (6, .inl (fun _ => 0))) (fun _ => rfl) (by decide) (by decide) (by decide) (Nat.le_of_ble_eq_true rfl) (Nat.le_of_ble_eq_true rfl) dX2_init_7 (fun q1 H hB => ?_)
  have hB : zBw D ac A ((h0, .inr (2, [.null])) :: [(q1, .inl (ac 1, 6, .inl (fun _ => 0)))]) s H locs := hB
  refine zn_put hx hb hts hown qf_2 tyX2 tyX2_ok nmX2 rfl hB 0 (Nat.le_of_ble_eq_true rfl) q_125 (by first | exact Or.inl rfl | exact Or.inr ⟨rfl, hin, rfl⟩) (by first | rfl | decide) (by first | rfl | decide) (Nat.le_of_ble_eq_true rfl) dX2_init_9 (fun H locs hB => ?_)
  have hB : zBw D ac A ((h0, .inr (2, [.ref q1])) :: [(q1, .inl (ac 1, 6, .inl (fun _ => 0)))]) s H locs := hB
  exact fin (fun r => ([h0, q1] : List Nat).getD r 0) _ _ _ _ dX2_init_12 hB
theorem ci_X2 : sw_cI yX2_init cX2_init 1 := ⟨q_122, q_6, q_123, rfl, by decide +kernel⟩
def zWX3 (ac : Nat → ClassId) (h0 : Nat) (u : Nat → Nat) : va_W := (h0, .inr (3, [.int 0, .ref (u 1), .ref (u 2), .ref (u 3), .ref (u 4), .ref (u 5), .ref (u 6), .ref (u 7), .ref (u 8)])) :: [(u 1, .inl (ac 1, 8, .inl (fun _ => 0))), (u 2, .inl (ac 1, 6, .inl (fun _ => 0))), (u 3, .inl (ac 1, 8, .inl (fun _ => 0))), (u 4, .inl (ac 1, 8, .inl (fun _ => 0))), (u 5, .inl (ac 1, 6, .inl (fun _ => 0))), (u 6, .inl (ac 1, 6, .inl (fun _ => 0))), (u 7, .inl (ac 1, 8, .inl (fun _ => 0))), (u 8, .inl (ac 2, 256, .inl (fun _ => 0)))]
set_option maxRecDepth 20000 in
theorem kc_X3 (l : Launch) (D : va_G) (ac : Nat → ClassId) : zKc l D ac yX3_init cX3_init 1 3 [.int 0, .null, .null, .null, .null, .null, .null, .null, .null] { frames := 2, cells := 8, slots := 306, locals := 40 } 8 306 (zWX3 ac) := by
  refine zmet (by decide) rfl (by decide) ?_
  intro h0 p e s m args below meth c ls hx hb hr hts hown hml hin hB hl fin
  have hown : s.vm.findClass RX3 = some m.cls := hown
  have hl : lv_has ls 1 [(0, .ref h0)] := hl
  generalize zAf h0 s.heap.size = A at hB fin ⊢
  generalize hH : s.heap = H at hB ⊢
  generalize hLo : ([] : List Loc) = locs at hB ⊢
  refine lv_aload_n hx hb dX3_init_0 rfl (lv_at hl 0 rfl) ?_
  refine W.objInit hx hb hown (sw_w hts q_109) (sw_w hts q_40) (sw_w hts q_41) rfl (by rw [hml]; exact hl.1) rfl dX3_init_1 (Nat.le_of_ble_eq_true rfl) (Nat.le_of_ble_eq_true rfl) ?_
  refine W.eq (g2 := F0 m 4 ls []) rfl ?_
  refine lv_aload_n hx hb dX3_init_4 rfl (lv_at hl 0 rfl) ?_
  refine lv_iconst (v := 0) hx hb dX3_init_5 (by decide) ?_
  refine zn_put hx hb hts hown qf_3 tyX3 tyX3_ok nmX3 rfl hB 0 (Nat.le_of_ble_eq_true rfl) q_110 (by first | exact Or.inl rfl | exact Or.inr ⟨rfl, hin, rfl⟩) (by first | rfl | decide) (by first | rfl | decide) (Nat.le_of_ble_eq_true rfl) dX3_init_6 (fun H locs hB => ?_)
  have hB : zBw D ac A ((h0, .inr (3, [.int 0, .null, .null, .null, .null, .null, .null, .null, .null])) :: []) s H locs := hB
  refine lv_aload_n hx hb dX3_init_9 rfl (lv_at hl 0 rfl) ?_
  refine lv_bipush (v := 8) hx hb dX3_init_10 (by decide) ?_
  refine zn_a hx hb hts (atype := .int) qa_int 1 rfl rfl hB (a0 := (8, .inl (fun _ => 0))) (fun _ => rfl) (by decide) (by decide) (by decide) (Nat.le_of_ble_eq_true rfl) (Nat.le_of_ble_eq_true rfl) dX3_init_12 (fun q1 H hB => ?_)
  have hB : zBw D ac A ((h0, .inr (3, [.int 0, .null, .null, .null, .null, .null, .null, .null, .null])) :: [(q1, .inl (ac 1, 8, .inl (fun _ => 0)))]) s H locs := hB
  refine zn_put hx hb hts hown qf_3 tyX3 tyX3_ok nmX3 rfl hB 1 (Nat.le_of_ble_eq_true rfl) q_111 (by first | exact Or.inl rfl | exact Or.inr ⟨rfl, hin, rfl⟩) (by first | rfl | decide) (by first | rfl | decide) (Nat.le_of_ble_eq_true rfl) dX3_init_14 (fun H locs hB => ?_)
  have hB : zBw D ac A ((h0, .inr (3, [.int 0, .ref q1, .null, .null, .null, .null, .null, .null, .null])) :: [(q1, .inl (ac 1, 8, .inl (fun _ => 0)))]) s H locs := hB
  refine lv_aload_n hx hb dX3_init_17 rfl (lv_at hl 0 rfl) ?_
  refine lv_bipush (v := 6) hx hb dX3_init_18 (by decide) ?_
  refine zn_a hx hb hts (atype := .int) qa_int 1 rfl rfl hB (a0 := (6, .inl (fun _ => 0))) (fun _ => rfl) (by decide) (by decide) (by decide) (Nat.le_of_ble_eq_true rfl) (Nat.le_of_ble_eq_true rfl) dX3_init_20 (fun q2 H hB => ?_)
  have hB : zBw D ac A ((h0, .inr (3, [.int 0, .ref q1, .null, .null, .null, .null, .null, .null, .null])) :: [(q1, .inl (ac 1, 8, .inl (fun _ => 0))), (q2, .inl (ac 1, 6, .inl (fun _ => 0)))]) s H locs := hB
  refine zn_put hx hb hts hown qf_3 tyX3 tyX3_ok nmX3 rfl hB 2 (Nat.le_of_ble_eq_true rfl) q_112 (by first | exact Or.inl rfl | exact Or.inr ⟨rfl, hin, rfl⟩) (by first | rfl | decide) (by first | rfl | decide) (Nat.le_of_ble_eq_true rfl) dX3_init_22 (fun H locs hB => ?_)
  have hB : zBw D ac A ((h0, .inr (3, [.int 0, .ref q1, .ref q2, .null, .null, .null, .null, .null, .null])) :: [(q1, .inl (ac 1, 8, .inl (fun _ => 0))), (q2, .inl (ac 1, 6, .inl (fun _ => 0)))]) s H locs := hB
  refine lv_aload_n hx hb dX3_init_25 rfl (lv_at hl 0 rfl) ?_
  refine lv_bipush (v := 8) hx hb dX3_init_26 (by decide) ?_
  refine zn_a hx hb hts (atype := .int) qa_int 1 rfl rfl hB (a0 := (8, .inl (fun _ => 0))) (fun _ => rfl) (by decide) (by decide) (by decide) (Nat.le_of_ble_eq_true rfl) (Nat.le_of_ble_eq_true rfl) dX3_init_28 (fun q3 H hB => ?_)
  have hB : zBw D ac A ((h0, .inr (3, [.int 0, .ref q1, .ref q2, .null, .null, .null, .null, .null, .null])) :: [(q1, .inl (ac 1, 8, .inl (fun _ => 0))), (q2, .inl (ac 1, 6, .inl (fun _ => 0))), (q3, .inl (ac 1, 8, .inl (fun _ => 0)))]) s H locs := hB
  refine zn_put hx hb hts hown qf_3 tyX3 tyX3_ok nmX3 rfl hB 3 (Nat.le_of_ble_eq_true rfl) q_113 (by first | exact Or.inl rfl | exact Or.inr ⟨rfl, hin, rfl⟩) (by first | rfl | decide) (by first | rfl | decide) (Nat.le_of_ble_eq_true rfl) dX3_init_30 (fun H locs hB => ?_)
  have hB : zBw D ac A ((h0, .inr (3, [.int 0, .ref q1, .ref q2, .ref q3, .null, .null, .null, .null, .null])) :: [(q1, .inl (ac 1, 8, .inl (fun _ => 0))), (q2, .inl (ac 1, 6, .inl (fun _ => 0))), (q3, .inl (ac 1, 8, .inl (fun _ => 0)))]) s H locs := hB
  refine lv_aload_n hx hb dX3_init_33 rfl (lv_at hl 0 rfl) ?_
  refine lv_bipush (v := 8) hx hb dX3_init_34 (by decide) ?_
  refine zn_a hx hb hts (atype := .int) qa_int 1 rfl rfl hB (a0 := (8, .inl (fun _ => 0))) (fun _ => rfl) (by decide) (by decide) (by decide) (Nat.le_of_ble_eq_true rfl) (Nat.le_of_ble_eq_true rfl) dX3_init_36 (fun q4 H hB => ?_)
  have hB : zBw D ac A ((h0, .inr (3, [.int 0, .ref q1, .ref q2, .ref q3, .null, .null, .null, .null, .null])) :: [(q1, .inl (ac 1, 8, .inl (fun _ => 0))), (q2, .inl (ac 1, 6, .inl (fun _ => 0))), (q3, .inl (ac 1, 8, .inl (fun _ => 0))), (q4, .inl (ac 1, 8, .inl (fun _ => 0)))]) s H locs := hB
  refine zn_put hx hb hts hown qf_3 tyX3 tyX3_ok nmX3 rfl hB 4 (Nat.le_of_ble_eq_true rfl) q_115 (by first | exact Or.inl rfl | exact Or.inr ⟨rfl, hin, rfl⟩) (by first | rfl | decide) (by first | rfl | decide) (Nat.le_of_ble_eq_true rfl) dX3_init_38 (fun H locs hB => ?_)
  have hB : zBw D ac A ((h0, .inr (3, [.int 0, .ref q1, .ref q2, .ref q3, .ref q4, .null, .null, .null, .null])) :: [(q1, .inl (ac 1, 8, .inl (fun _ => 0))), (q2, .inl (ac 1, 6, .inl (fun _ => 0))), (q3, .inl (ac 1, 8, .inl (fun _ => 0))), (q4, .inl (ac 1, 8, .inl (fun _ => 0)))]) s H locs := hB
  refine lv_aload_n hx hb dX3_init_41 rfl (lv_at hl 0 rfl) ?_
  refine lv_bipush (v := 6) hx hb dX3_init_42 (by decide) ?_
  refine zn_a hx hb hts (atype := .int) qa_int 1 rfl rfl hB (a0 := (6, .inl (fun _ => 0))) (fun _ => rfl) (by decide) (by decide) (by decide) (Nat.le_of_ble_eq_true rfl) (Nat.le_of_ble_eq_true rfl) dX3_init_44 (fun q5 H hB => ?_)
  have hB : zBw D ac A ((h0, .inr (3, [.int 0, .ref q1, .ref q2, .ref q3, .ref q4, .null, .null, .null, .null])) :: [(q1, .inl (ac 1, 8, .inl (fun _ => 0))), (q2, .inl (ac 1, 6, .inl (fun _ => 0))), (q3, .inl (ac 1, 8, .inl (fun _ => 0))), (q4, .inl (ac 1, 8, .inl (fun _ => 0))), (q5, .inl (ac 1, 6, .inl (fun _ => 0)))]) s H locs := hB
  refine zn_put hx hb hts hown qf_3 tyX3 tyX3_ok nmX3 rfl hB 5 (Nat.le_of_ble_eq_true rfl) q_116 (by first | exact Or.inl rfl | exact Or.inr ⟨rfl, hin, rfl⟩) (by first | rfl | decide) (by first | rfl | decide) (Nat.le_of_ble_eq_true rfl) dX3_init_46 (fun H locs hB => ?_)
  have hB : zBw D ac A ((h0, .inr (3, [.int 0, .ref q1, .ref q2, .ref q3, .ref q4, .ref q5, .null, .null, .null])) :: [(q1, .inl (ac 1, 8, .inl (fun _ => 0))), (q2, .inl (ac 1, 6, .inl (fun _ => 0))), (q3, .inl (ac 1, 8, .inl (fun _ => 0))), (q4, .inl (ac 1, 8, .inl (fun _ => 0))), (q5, .inl (ac 1, 6, .inl (fun _ => 0)))]) s H locs := hB
  refine lv_aload_n hx hb dX3_init_49 rfl (lv_at hl 0 rfl) ?_
  refine lv_bipush (v := 6) hx hb dX3_init_50 (by decide) ?_
  refine zn_a hx hb hts (atype := .int) qa_int 1 rfl rfl hB (a0 := (6, .inl (fun _ => 0))) (fun _ => rfl) (by decide) (by decide) (by decide) (Nat.le_of_ble_eq_true rfl) (Nat.le_of_ble_eq_true rfl) dX3_init_52 (fun q6 H hB => ?_)
  have hB : zBw D ac A ((h0, .inr (3, [.int 0, .ref q1, .ref q2, .ref q3, .ref q4, .ref q5, .null, .null, .null])) :: [(q1, .inl (ac 1, 8, .inl (fun _ => 0))), (q2, .inl (ac 1, 6, .inl (fun _ => 0))), (q3, .inl (ac 1, 8, .inl (fun _ => 0))), (q4, .inl (ac 1, 8, .inl (fun _ => 0))), (q5, .inl (ac 1, 6, .inl (fun _ => 0))), (q6, .inl (ac 1, 6, .inl (fun _ => 0)))]) s H locs := hB
  refine zn_put hx hb hts hown qf_3 tyX3 tyX3_ok nmX3 rfl hB 6 (Nat.le_of_ble_eq_true rfl) q_117 (by first | exact Or.inl rfl | exact Or.inr ⟨rfl, hin, rfl⟩) (by first | rfl | decide) (by first | rfl | decide) (Nat.le_of_ble_eq_true rfl) dX3_init_54 (fun H locs hB => ?_)
  have hB : zBw D ac A ((h0, .inr (3, [.int 0, .ref q1, .ref q2, .ref q3, .ref q4, .ref q5, .ref q6, .null, .null])) :: [(q1, .inl (ac 1, 8, .inl (fun _ => 0))), (q2, .inl (ac 1, 6, .inl (fun _ => 0))), (q3, .inl (ac 1, 8, .inl (fun _ => 0))), (q4, .inl (ac 1, 8, .inl (fun _ => 0))), (q5, .inl (ac 1, 6, .inl (fun _ => 0))), (q6, .inl (ac 1, 6, .inl (fun _ => 0)))]) s H locs := hB
  refine lv_aload_n hx hb dX3_init_57 rfl (lv_at hl 0 rfl) ?_
  refine lv_bipush (v := 8) hx hb dX3_init_58 (by decide) ?_
  refine zn_a hx hb hts (atype := .int) qa_int 1 rfl rfl hB (a0 := (8, .inl (fun _ => 0))) (fun _ => rfl) (by decide) (by decide) (by decide) (Nat.le_of_ble_eq_true rfl) (Nat.le_of_ble_eq_true rfl) dX3_init_60 (fun q7 H hB => ?_)
  have hB : zBw D ac A ((h0, .inr (3, [.int 0, .ref q1, .ref q2, .ref q3, .ref q4, .ref q5, .ref q6, .null, .null])) :: [(q1, .inl (ac 1, 8, .inl (fun _ => 0))), (q2, .inl (ac 1, 6, .inl (fun _ => 0))), (q3, .inl (ac 1, 8, .inl (fun _ => 0))), (q4, .inl (ac 1, 8, .inl (fun _ => 0))), (q5, .inl (ac 1, 6, .inl (fun _ => 0))), (q6, .inl (ac 1, 6, .inl (fun _ => 0))), (q7, .inl (ac 1, 8, .inl (fun _ => 0)))]) s H locs := hB
  refine zn_put hx hb hts hown qf_3 tyX3 tyX3_ok nmX3 rfl hB 7 (Nat.le_of_ble_eq_true rfl) q_118 (by first | exact Or.inl rfl | exact Or.inr ⟨rfl, hin, rfl⟩) (by first | rfl | decide) (by first | rfl | decide) (Nat.le_of_ble_eq_true rfl) dX3_init_62 (fun H locs hB => ?_)
  have hB : zBw D ac A ((h0, .inr (3, [.int 0, .ref q1, .ref q2, .ref q3, .ref q4, .ref q5, .ref q6, .ref q7, .null])) :: [(q1, .inl (ac 1, 8, .inl (fun _ => 0))), (q2, .inl (ac 1, 6, .inl (fun _ => 0))), (q3, .inl (ac 1, 8, .inl (fun _ => 0))), (q4, .inl (ac 1, 8, .inl (fun _ => 0))), (q5, .inl (ac 1, 6, .inl (fun _ => 0))), (q6, .inl (ac 1, 6, .inl (fun _ => 0))), (q7, .inl (ac 1, 8, .inl (fun _ => 0)))]) s H locs := hB
  refine lv_aload_n hx hb dX3_init_65 rfl (lv_at hl 0 rfl) ?_
  refine lv_sipush (v := 256) hx hb dX3_init_66 (by decide) ?_
  refine zn_a hx hb hts (atype := .boolean) qa_boolean 2 rfl rfl hB (a0 := (256, .inl (fun _ => 0))) (fun _ => rfl) (by decide) (by decide) (by decide) (Nat.le_of_ble_eq_true rfl) (Nat.le_of_ble_eq_true rfl) dX3_init_69 (fun q8 H hB => ?_)
  have hB : zBw D ac A ((h0, .inr (3, [.int 0, .ref q1, .ref q2, .ref q3, .ref q4, .ref q5, .ref q6, .ref q7, .null])) :: [(q1, .inl (ac 1, 8, .inl (fun _ => 0))), (q2, .inl (ac 1, 6, .inl (fun _ => 0))), (q3, .inl (ac 1, 8, .inl (fun _ => 0))), (q4, .inl (ac 1, 8, .inl (fun _ => 0))), (q5, .inl (ac 1, 6, .inl (fun _ => 0))), (q6, .inl (ac 1, 6, .inl (fun _ => 0))), (q7, .inl (ac 1, 8, .inl (fun _ => 0))), (q8, .inl (ac 2, 256, .inl (fun _ => 0)))]) s H locs := hB
  refine zn_put hx hb hts hown qf_3 tyX3 tyX3_ok nmX3 rfl hB 8 (Nat.le_of_ble_eq_true rfl) q_119 (by first | exact Or.inl rfl | exact Or.inr ⟨rfl, hin, rfl⟩) (by first | rfl | decide) (by first | rfl | decide) (Nat.le_of_ble_eq_true rfl) dX3_init_71 (fun H locs hB => ?_)
  have hB : zBw D ac A ((h0, .inr (3, [.int 0, .ref q1, .ref q2, .ref q3, .ref q4, .ref q5, .ref q6, .ref q7, .ref q8])) :: [(q1, .inl (ac 1, 8, .inl (fun _ => 0))), (q2, .inl (ac 1, 6, .inl (fun _ => 0))), (q3, .inl (ac 1, 8, .inl (fun _ => 0))), (q4, .inl (ac 1, 8, .inl (fun _ => 0))), (q5, .inl (ac 1, 6, .inl (fun _ => 0))), (q6, .inl (ac 1, 6, .inl (fun _ => 0))), (q7, .inl (ac 1, 8, .inl (fun _ => 0))), (q8, .inl (ac 2, 256, .inl (fun _ => 0)))]) s H locs := hB
  exact fin (fun r => ([h0, q1, q2, q3, q4, q5, q6, q7, q8] : List Nat).getD r 0) _ _ _ _ dX3_init_74 hB
theorem ci_X3 : sw_cI yX3_init cX3_init 1 := ⟨q_107, q_5, q_108, rfl, by decide +kernel⟩
def zWX4 (ac : Nat → ClassId) (h0 : Nat) (u : Nat → Nat) : va_W := (h0, .inr (4, [.ref (u 1), .int 0, .int 0, .ref (u 2), .ref (u 3)])) :: ([(u 1, .inl (ac 0, 60, .inl (fun _ => 0))), (u 2, .inl (ac 1, 13, .inl (fun _ => 0)))] ++ (((u 3), .inl (ac 4, 13, .inr (.inr (.inr (.inr (fun j => some ((u 3) + 1 + j))))))) :: (List.range 13).map (fun j => ((u 3) + 1 + j, (.inl (ac 1, 4, .inl (fun _ => 0)) : va_E)))))
set_option maxRecDepth 20000 in
theorem kc_X4 (l : Launch) (D : va_G) (ac : Nat → ClassId) : zKc l D ac yX4_init cX4_init 1 4 [.null, .int 0, .int 0, .null, .null] { frames := 2, cells := 16, slots := 138, locals := 40 } 16 138 (zWX4 ac) := by
  refine zmet (by decide) rfl (by decide) ?_
  intro h0 p e s m args below meth c ls hx hb hr hts hown hml hin hB hl fin
  have hown : s.vm.findClass RX4 = some m.cls := hown
  have hl : lv_has ls 1 [(0, .ref h0)] := hl
  generalize zAf h0 s.heap.size = A at hB fin ⊢
  generalize hH : s.heap = H at hB ⊢
  generalize hLo : ([] : List Loc) = locs at hB ⊢
  refine lv_aload_n hx hb dX4_init_0 rfl (lv_at hl 0 rfl) ?_
  refine W.objInit hx hb hown (sw_w hts q_130) (sw_w hts q_40) (sw_w hts q_41) rfl (by rw [hml]; exact hl.1) rfl dX4_init_1 (Nat.le_of_ble_eq_true rfl) (Nat.le_of_ble_eq_true rfl) ?_
  refine W.eq (g2 := F0 m 4 ls []) rfl ?_
  refine lv_aload_n hx hb dX4_init_4 rfl (lv_at hl 0 rfl) ?_
  refine lv_bipush (v := 60) hx hb dX4_init_5 (by decide) ?_
  refine zn_a hx hb hts (atype := .char) qa_char 0 rfl rfl hB (a0 := (60, .inl (fun _ => 0))) (fun _ => rfl) (by decide) (by decide) (by decide) (Nat.le_of_ble_eq_true rfl) (Nat.le_of_ble_eq_true rfl) dX4_init_7 (fun q1 H hB => ?_)
  have hB : zBw D ac A ((h0, .inr (4, [.null, .int 0, .int 0, .null, .null])) :: [(q1, .inl (ac 0, 60, .inl (fun _ => 0)))]) s H locs := hB
  refine zn_put hx hb hts hown qf_4 tyX4 tyX4_ok nmX4 rfl hB 0 (Nat.le_of_ble_eq_true rfl) q_132 (by first | exact Or.inl rfl | exact Or.inr ⟨rfl, hin, rfl⟩) (by first | rfl | decide) (by first | rfl | decide) (Nat.le_of_ble_eq_true rfl) dX4_init_9 (fun H locs hB => ?_)
  have hB : zBw D ac A ((h0, .inr (4, [.ref q1, .int 0, .int 0, .null, .null])) :: [(q1, .inl (ac 0, 60, .inl (fun _ => 0)))]) s H locs := hB
  refine lv_aload_n hx hb dX4_init_12 rfl (lv_at hl 0 rfl) ?_
  refine lv_iconst (v := 0) hx hb dX4_init_13 (by decide) ?_
  refine zn_put hx hb hts hown qf_4 tyX4 tyX4_ok nmX4 rfl hB 1 (Nat.le_of_ble_eq_true rfl) q_133 (by first | exact Or.inl rfl | exact Or.inr ⟨rfl, hin, rfl⟩) (by first | rfl | decide) (by first | rfl | decide) (Nat.le_of_ble_eq_true rfl) dX4_init_14 (fun H locs hB => ?_)
  have hB : zBw D ac A ((h0, .inr (4, [.ref q1, .int 0, .int 0, .null, .null])) :: [(q1, .inl (ac 0, 60, .inl (fun _ => 0)))]) s H locs := hB
  refine lv_aload_n hx hb dX4_init_17 rfl (lv_at hl 0 rfl) ?_
  refine lv_iconst (v := 0) hx hb dX4_init_18 (by decide) ?_
  refine zn_put hx hb hts hown qf_4 tyX4 tyX4_ok nmX4 rfl hB 2 (Nat.le_of_ble_eq_true rfl) q_135 (by first | exact Or.inl rfl | exact Or.inr ⟨rfl, hin, rfl⟩) (by first | rfl | decide) (by first | rfl | decide) (Nat.le_of_ble_eq_true rfl) dX4_init_19 (fun H locs hB => ?_)
  have hB : zBw D ac A ((h0, .inr (4, [.ref q1, .int 0, .int 0, .null, .null])) :: [(q1, .inl (ac 0, 60, .inl (fun _ => 0)))]) s H locs := hB
  refine lv_aload_n hx hb dX4_init_22 rfl (lv_at hl 0 rfl) ?_
  refine lv_bipush (v := 13) hx hb dX4_init_23 (by decide) ?_
  refine zn_a hx hb hts (atype := .int) qa_int 1 rfl rfl hB (a0 := (13, .inl (fun _ => 0))) (fun _ => rfl) (by decide) (by decide) (by decide) (Nat.le_of_ble_eq_true rfl) (Nat.le_of_ble_eq_true rfl) dX4_init_25 (fun q2 H hB => ?_)
  have hB : zBw D ac A ((h0, .inr (4, [.ref q1, .int 0, .int 0, .null, .null])) :: [(q1, .inl (ac 0, 60, .inl (fun _ => 0))), (q2, .inl (ac 1, 13, .inl (fun _ => 0)))]) s H locs := hB
  refine zn_put hx hb hts hown qf_4 tyX4 tyX4_ok nmX4 rfl hB 3 (Nat.le_of_ble_eq_true rfl) q_137 (by first | exact Or.inl rfl | exact Or.inr ⟨rfl, hin, rfl⟩) (by first | rfl | decide) (by first | rfl | decide) (Nat.le_of_ble_eq_true rfl) dX4_init_27 (fun H locs hB => ?_)
  have hB : zBw D ac A ((h0, .inr (4, [.ref q1, .int 0, .int 0, .ref q2, .null])) :: [(q1, .inl (ac 0, 60, .inl (fun _ => 0))), (q2, .inl (ac 1, 13, .inl (fun _ => 0)))]) s H locs := hB
  refine lv_aload_n hx hb dX4_init_30 rfl (lv_at hl 0 rfl) ?_
  refine lv_bipush (v := 13) hx hb dX4_init_31 (by decide) ?_
  refine lv_iconst (v := 4) hx hb dX4_init_33 (by decide) ?_
  refine zn_m hx hb hts hown q_131 qa_int hB (N := 13) (K := 4) (by decide) (by decide) (by decide) (by decide) (by decide) (by decide) (Nat.le_of_ble_eq_true rfl) (Nat.le_of_ble_eq_true rfl) dX4_init_34 (fun q3 H locs hB => ?_)
  have hB : zBw D ac A ((h0, .inr (4, [.ref q1, .int 0, .int 0, .ref q2, .null])) :: ([(q1, .inl (ac 0, 60, .inl (fun _ => 0))), (q2, .inl (ac 1, 13, .inl (fun _ => 0)))] ++ ((q3, .inl (ac 4, 13, .inr (.inr (.inr (.inr (fun j => some (q3 + 1 + j))))))) :: (List.range 13).map (fun j => (q3 + 1 + j, (.inl (ac 1, 4, .inl (fun _ => 0)) : va_E)))))) s H locs := hB
  refine zn_put hx hb hts hown qf_4 tyX4 tyX4_ok nmX4 rfl hB 4 (Nat.le_of_ble_eq_true rfl) q_139 (by first | exact Or.inl rfl | exact Or.inr ⟨rfl, hin, rfl⟩) (by first | rfl | decide) (by first | rfl | decide) (Nat.le_of_ble_eq_true rfl) dX4_init_38 (fun H locs hB => ?_)
  have hB : zBw D ac A ((h0, .inr (4, [.ref q1, .int 0, .int 0, .ref q2, .ref q3])) :: ([(q1, .inl (ac 0, 60, .inl (fun _ => 0))), (q2, .inl (ac 1, 13, .inl (fun _ => 0)))] ++ ((q3, .inl (ac 4, 13, .inr (.inr (.inr (.inr (fun j => some (q3 + 1 + j))))))) :: (List.range 13).map (fun j => (q3 + 1 + j, (.inl (ac 1, 4, .inl (fun _ => 0)) : va_E)))))) s H locs := hB
  exact fin (fun r => ([h0, q1, q2, q3] : List Nat).getD r 0) _ _ _ _ dX4_init_41 hB
theorem ci_X4 : sw_cI yX4_init cX4_init 1 := ⟨q_128, q_7, q_129, rfl, by decide +kernel⟩
