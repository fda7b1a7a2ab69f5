/-! The History's constructor, and the Academy's. -/
def zFl (ac : Nat → ClassId) (L : List (Nat × zSB)) : va_W := L.flatMap (fun x => zWX5 ac x.1 x.2)
theorem zFl_push (ac : Nat → ClassId) (L : List (Nat × zSB)) (q : Nat) (u : zSB) : zFl ac (L ++ [(q, u)]) = zFl ac L ++ zWX5 ac q u := by
  unfold zFl
  rw [List.flatMap_append, List.flatMap_cons, List.flatMap_nil, List.append_nil]
def zHv (i : Nat) (f : Nat → Option Nat) (L : List (Nat × zSB)) : Prop := L.length = i ∧ ∀ j, j < i → f j = (L[j]?).map Prod.fst
def zHB : Type := { x : Nat × (Nat → Option Nat) × List (Nat × zSB) // zHv 9 x.2.1 x.2.2 }
def zWh (ac : Nat → ClassId) (h0 q : Nat) (f : Nat → Option Nat) (L : List (Nat × zSB)) : va_W := (h0, .inr (0, [.ref q, .int 0, .int 0])) :: (q, .inl (ac 3, 9, .inr (.inr (.inr (.inr f))))) :: zFl ac L
def zWX0 (ac : Nat → ClassId) (h0 : Nat) (x : zHB) : va_W := zWh ac h0 x.1.1 x.1.2.1 x.1.2.2
set_option maxRecDepth 20000 in
theorem kc_X0 (l : Launch) (D : va_G) (ac : Nat → ClassId) : zKc l D ac yX0_init cX0_init 2 0 [.null, .int 0, .int 0] { frames := 3, cells := 154, slots := 1188, locals := 70 } 154 1188 (zWX0 ac) := by
  refine zmet (by decide) rfl (by decide) ?_
  intro h0 p e s m args below meth c ls hx hb hr hts hown hml hin hB hl fin
  have hown : s.vm.findClass RX0 = some m.cls := hown
  have hl : lv_has ls 2 [(0, .ref h0)] := hl
  generalize zAf h0 s.heap.size = A at hB fin ⊢
  generalize hH : s.heap = H at hB ⊢
  generalize hLo : ([] : List Loc) = locs at hB ⊢
  refine lv_aload_n hx hb dX0_init_0 rfl (lv_at hl 0 rfl) ?_
  refine W.objInit hx hb hown (sw_w hts q_98) (sw_w hts q_40) (sw_w hts q_41) rfl (by rw [hml]; exact hl.1) rfl dX0_init_1 (Nat.le_of_ble_eq_true rfl) (Nat.le_of_ble_eq_true rfl) ?_
  refine W.eq (g2 := F0 m 4 ls []) rfl ?_
  refine lv_aload_n hx hb dX0_init_4 rfl (lv_at hl 0 rfl) ?_
  refine lv_bipush (v := 9) hx hb dX0_init_5 (by decide) ?_
  refine va_newq hx hb hown (sw_w hts q_99) hB.2.2.2.2.2.2.1 hB.1 hB.2.1 hB.2.2.1 hB.2.2.2.1 hB.2.2.2.2.1 (N' := 9) (by decide) (by decide) (by decide) (Nat.le_of_ble_eq_true rfl) (Nat.le_of_ble_eq_true rfl) dX0_init_7 (fun q cA H hK hP hD hS => ?_)
  have e1 := (hK.2 (zty ac).length (cA, .object RX5) (by rw [List.getElem?_append_right (Nat.le_refl _), Nat.sub_self]; rfl)).2
  have e2 := (hB.1.2 3 (ac 3, .object RX5) rfl).2
  have e : cA = ac 3 := va_RA_inj e1 e2
  subst e
  have hB : zBw D ac A ((h0, .inr (0, [.null, .int 0, .int 0])) :: [(q, .inl (ac 3, 9, .inr (.inr (.inr (.inr (fun _ => none))))))]) s H locs := ⟨hB.1, hP, hD, hS, hB.2.2.2.2⟩

  refine zn_put hx hb hts hown qf_0 tyX0 tyX0_ok nmX0 rfl hB 0 (Nat.le_of_ble_eq_true rfl) q_101 (by first | exact Or.inl rfl | exact Or.inr ⟨rfl, hin, rfl⟩) (by first | rfl | decide) (by first | rfl | decide) (Nat.le_of_ble_eq_true rfl) dX0_init_10 (fun H locs hB => ?_)
  have hB : zBw D ac A ((h0, .inr (0, [.ref q, .int 0, .int 0])) :: [(q, .inl (ac 3, 9, .inr (.inr (.inr (.inr (fun _ => none))))))]) s H locs := hB
  refine lv_aload_n hx hb dX0_init_13 rfl (lv_at hl 0 rfl) ?_
  refine lv_iconst (v := 0) hx hb dX0_init_14 (by decide) ?_
  refine zn_put hx hb hts hown qf_0 tyX0 tyX0_ok nmX0 rfl hB 1 (Nat.le_of_ble_eq_true rfl) q_102 (by first | exact Or.inl rfl | exact Or.inr ⟨rfl, hin, rfl⟩) (by first | rfl | decide) (by first | rfl | decide) (Nat.le_of_ble_eq_true rfl) dX0_init_15 (fun H locs hB => ?_)
  have hB : zBw D ac A ((h0, .inr (0, [.ref q, .int 0, .int 0])) :: [(q, .inl (ac 3, 9, .inr (.inr (.inr (.inr (fun _ => none))))))]) s H locs := hB
  refine lv_aload_n hx hb dX0_init_18 rfl (lv_at hl 0 rfl) ?_
  refine lv_iconst (v := 0) hx hb dX0_init_19 (by decide) ?_
  refine zn_put hx hb hts hown qf_0 tyX0 tyX0_ok nmX0 rfl hB 2 (Nat.le_of_ble_eq_true rfl) q_103 (by first | exact Or.inl rfl | exact Or.inr ⟨rfl, hin, rfl⟩) (by first | rfl | decide) (by first | rfl | decide) (Nat.le_of_ble_eq_true rfl) dX0_init_20 (fun H locs hB => ?_)
  have hB : zBw D ac A ((h0, .inr (0, [.ref q, .int 0, .int 0])) :: [(q, .inl (ac 3, 9, .inr (.inr (.inr (.inr (fun _ => none))))))]) s H locs := hB
  have outer : ∀ n i, i + n = 9 → ∀ (f : Nat → Option Nat) (L : List (Nat × zSB)) (H : Heap) (locs : List Loc) (ls : Array Slot), lv_has ls 2 [(1, .int (nI i)), (0, .ref h0)] → zBw D ac A (zWh ac h0 q f L) s H locs → zHv i f L → W p l e ({ frames := 3, cells := 154, slots := 1188, locals := 70 } : Room) s m args below meth c H locs (1 + i * 17) (9 + i * 131) (MQ below (va_Qv (fun _ : zHB => True) (zPo D (zWX0 ac h0) A) A) args s 154 1188 A) (F0 m 25 ls []) := by
    intro n
    induction n with
    | zero =>
      intro i hi f L H locs ls hl hB hv
      have e : i = 9 := by omega
      subst e
      refine lv_iload_n hx hb dX0_init_25 rfl (lv_at hl 0 rfl) ?_
      refine lv_bipush (v := 9) hx hb dX0_init_26 (by decide) ?_
      refine lv_icmp_ge (tgt := 50) hx hb dX0_init_28 (by decide) (fun _ => ?_) (fun z => absurd (by decide) z)
      exact fin ⟨(q, f, L), hv⟩ _ _ _ _ dX0_init_50 hB
    | succ n ih =>
      intro i hi f L H locs ls hl hB hv
      refine lv_iload_n hx hb dX0_init_25 rfl (lv_at hl 0 rfl) ?_
      refine lv_bipush (v := 9) hx hb dX0_init_26 (by decide) ?_
      refine lv_icmp_ge (tgt := 50) hx hb dX0_init_28 (by decide) (fun z => absurd z (nI_ge (show i < 9 by omega) (by decide))) (fun _ => ?_)
      refine lv_aload_n hx hb dX0_init_31 rfl (lv_at hl 1 rfl) ?_
      refine va_get hx hb hts (fun w h => List.mem_cons_of_mem _ (qf_0 w h)) hown hB.1 hB.2.1 0 rfl rfl 0 (Nat.le_of_ble_eq_true rfl) (sw_w hts q_101) (fun _ h => h) (v := .ref q) rfl dX0_init_32 ?_
      refine lv_iload_n hx hb dX0_init_35 rfl (lv_at hl 0 rfl) ?_
      refine zn_new (ci := 5) hx hb hts hown qf_5 tyX5 tyX5_ok rfl q_99 q_43 q_3 hB (fs := [.int 0, .int 0, .int 0, .int 0, .null, .null, .int 0, .null, .null, .null, .null, .null, .null, .null, .int 0, .int 0, .null]) (by decide) (by show _ ≤ 154; omega) (by show _ ≤ 1188; omega) dX0_init_36 (fun q2 H hB => ?_)
      refine lv_dup hx hb dX0_init_39 rfl ?_
      refine zn_call hx hb hml hown hts (kc_X5 l D ac) ci_X5 q_100 rfl rfl ⟨(Nat.le_of_ble_eq_true rfl), (Nat.le_of_ble_eq_true rfl)⟩ hB hl.1 (Nat.le_of_ble_eq_true rfl) dX0_init_40 ⟨by show _ ≤ 154; omega, by show _ ≤ 1188; omega⟩ (fun u H locs hB => ?_)
      refine va_astq hx hb hB.1 hB.2.1 hB.2.2.1 hB.2.2.2.1 1 3 (zWh ac h0 q f L).length 5 (r := (RX5, TX5, 17)) rfl rfl (v := q2) (vs := [.int 0, .int 0, .int 0, .int 0, .ref (u.1.1 1), .ref (u.1.1 2), .int 0, .ref (u.1.1 3), .ref (u.1.1 4), .ref (u.1.1 5), .ref (u.1.1 6), .ref (u.1.1 7), .ref (u.1.1 8), .ref (u.1.1 9), .int 10, .int 0, .ref (u.1.1 10)]) (by rw [List.getElem?_append_right (Nat.le_refl _), Nat.sub_self]; rfl) rfl (vin (show i < 9 by omega) (by decide)) dX0_init_43 (fun H locs hP hD hS => ?_)
      rw [cl (show i < 2 ^ 31 by omega)] at hP hD
      have hB : zBw D ac A (zWh ac h0 q (va_up f i (some q2)) (L ++ [(q2, u)])) s H locs := by
        unfold zWh
        rw [zFl_push]
        exact ⟨hB.1, hP, hD, hS, hB.2.2.2.2⟩
      refine lv_iinc (v := nI (i + 1)) (lv' := [(1, .int (nI (i + 1))), (0, .ref h0)]) hx hb dX0_init_44 hl (k := 0) rfl (by rw [nI_succ i]; rfl) (Nat.le_of_ble_eq_true rfl) rfl (fun ls hl => ?_)
      refine lv_goto (tgt := 25) hx hb dX0_init_47 (by decide) ?_
      have r := ih (i + 1) (by omega) _ _ H locs ls hl hB ⟨by rw [List.length_append, hv.1]; rfl, fun j hj => ?_⟩
      · rw [show 1 + (i + 1) * 17 = 1 + i * 17 + 1 + 16 by omega, show 9 + (i + 1) * 131 = 9 + i * 131 + 17 + 114 by omega] at r
        exact r
      · by_cases e : j = i
        · subst e
          rw [va_up_self, List.getElem?_append_right (by rw [hv.1]; exact Nat.le_refl _), hv.1, Nat.sub_self]; rfl
        · have hl1 : j < i := by omega
          rw [va_up_ne _ _ e, List.getElem?_append_left (by rw [hv.1]; exact hl1)]
          exact hv.2 j hl1
  refine lv_iconst (v := 0) hx hb dX0_init_23 (by decide) ?_
  refine lv_istore_n (lv' := [(1, .int (nI 0)), (0, .ref h0)]) hx hb dX0_init_24 rfl hl (Nat.le_of_ble_eq_true rfl) rfl (fun ls hl => ?_)
  exact outer 9 0 rfl (fun _ => none) [] H locs ls hl hB ⟨rfl, fun j hj => absurd hj (Nat.not_lt_zero _)⟩
theorem ci_X0 : sw_cI yX0_init cX0_init 2 := ⟨q_96, q_4, q_97, rfl, by decide +kernel⟩
