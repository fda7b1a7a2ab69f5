/-! The law's first panel. -/
def jL_firstPanel_83 (a2 : Int32) (z : zG) (x3_7 : Int32) (x4_17 : Int32) (x5_29 : Int32) (Q : Int32 → Prop) (N29 : Int32 → Prop) (t0_83 : Int32) : Prop :=
  (t0_83 = 0 → (∀ v38 : Int32, v38 = x5_29 + (1 : Int32) → (N29 v38))) ∧ (¬ t0_83 = 0 → (wL_canSit x3_7 a2  z (fun r39 => (r39 = 0 → (∀ v41 : Int32, v41 = x5_29 + (1 : Int32) → (N29 v41))) ∧ (¬ r39 = 0 → (wL_canSit x4_17 a2  z (fun r42 => (r42 = 0 → (∀ v44 : Int32, v44 = x5_29 + (1 : Int32) → (N29 v44))) ∧ (¬ r42 = 0 → (wL_canSit x5_29 a2  z (fun r45 => (r45 = 0 → (∀ v47 : Int32, v47 = x5_29 + (1 : Int32) → (N29 v47))) ∧ (¬ r45 = 0 → (Q ((((36 : Int32) * x3_7) + ((6 : Int32) * x4_17)) + x5_29))))))))))))
def lL_firstPanel_29 (a2 : Int32) (z : zG) (v1 : Int32) (x3_7 : Int32) (x4_17 : Int32) (Q : Int32 → Prop) (K29 : Prop) : Nat → Int32 → Prop
  | 0, _ => False
  | n29 + 1, x5_29 => (v1 ≤ x5_29 → (K29)) ∧ (¬ v1 ≤ x5_29 → ((s_frameOfExaminer z x3_7).1 = 0 ∧ ((s_frameOfExaminer z x4_17).1 = 0 ∧ (((nI (s_frameOfExaminer z x3_7).2.1) = (nI (s_frameOfExaminer z x4_17).2.1) → (jL_firstPanel_83 a2 z x3_7 x4_17 x5_29 Q (fun x5_29 => lL_firstPanel_29 a2 z v1 x3_7 x4_17 Q K29 n29 x5_29) (0 : Int32))) ∧ (¬ (nI (s_frameOfExaminer z x3_7).2.1) = (nI (s_frameOfExaminer z x4_17).2.1) → ((s_frameOfExaminer z x3_7).1 = 0 ∧ ((s_frameOfExaminer z x5_29).1 = 0 ∧ (((nI (s_frameOfExaminer z x3_7).2.1) = (nI (s_frameOfExaminer z x5_29).2.1) → (jL_firstPanel_83 a2 z x3_7 x4_17 x5_29 Q (fun x5_29 => lL_firstPanel_29 a2 z v1 x3_7 x4_17 Q K29 n29 x5_29) (0 : Int32))) ∧ (¬ (nI (s_frameOfExaminer z x3_7).2.1) = (nI (s_frameOfExaminer z x5_29).2.1) → ((s_frameOfExaminer z x4_17).1 = 0 ∧ ((s_frameOfExaminer z x5_29).1 = 0 ∧ (((nI (s_frameOfExaminer z x4_17).2.1) = (nI (s_frameOfExaminer z x5_29).2.1) → (jL_firstPanel_83 a2 z x3_7 x4_17 x5_29 Q (fun x5_29 => lL_firstPanel_29 a2 z v1 x3_7 x4_17 Q K29 n29 x5_29) (0 : Int32))) ∧ (¬ (nI (s_frameOfExaminer z x4_17).2.1) = (nI (s_frameOfExaminer z x5_29).2.1) → (jL_firstPanel_83 a2 z x3_7 x4_17 x5_29 Q (fun x5_29 => lL_firstPanel_29 a2 z v1 x3_7 x4_17 Q K29 n29 x5_29) (1 : Int32)))))))))))))))
def lL_firstPanel_17 (a2 : Int32) (z : zG) (v1 : Int32) (x3_7 : Int32) (Q : Int32 → Prop) (K17 : Prop) : Nat → Int32 → Prop
  | 0, _ => False
  | n17 + 1, x4_17 => (v1 ≤ x4_17 → (K17)) ∧ (¬ v1 ≤ x4_17 → (∀ v20 : Int32, v20 = (x4_17 + (1 : Int32)) → (lL_firstPanel_29 a2 z v1 x3_7 x4_17 Q (∀ v25 : Int32, v25 = x4_17 + (1 : Int32) → ((fun x4_17 => lL_firstPanel_17 a2 z v1 x3_7 Q K17 n17 x4_17) v25)) 7 v20)))
def lL_firstPanel_7 (a2 : Int32) (z : zG) (v1 : Int32) (Q : Int32 → Prop) (K7 : Prop) : Nat → Int32 → Prop
  | 0, _ => False
  | n7 + 1, x3_7 => (v1 ≤ x3_7 → (K7)) ∧ (¬ v1 ≤ x3_7 → (∀ v9 : Int32, v9 = (x3_7 + (1 : Int32)) → (lL_firstPanel_17 a2 z v1 x3_7 Q (∀ v14 : Int32, v14 = x3_7 + (1 : Int32) → ((fun x3_7 => lL_firstPanel_7 a2 z v1 Q K7 n7 x3_7) v14)) 7 v9)))
def wL_firstPanel (a2 : Int32) (z : zG) (Q : Int32 → Prop) : Prop :=
  ∀ v1 : Int32, v1 = (nI (z.1 1)) → (lL_firstPanel_7 a2 z v1 Q (Q (-1 : Int32)) 7 (0 : Int32))
theorem cs_L_firstPanel : sw_cS yL_firstPanel cL_firstPanel 7 (some .int) 2 := ⟨q_667, q_1, q_668, by decide +kernel⟩
set_option maxRecDepth 20000 in
set_option maxHeartbeats 4000000 in
theorem kL_firstPanel (l : Launch) (hst : l.stackTraces = false) (g : sG) (a2 : Int32) (z : zG) (Q : Int32 → Prop) (h : wL_firstPanel a2 z Q) : Met l yL_firstPanel (sw_ws yL_firstPanel cL_firstPanel 7 (some .int)) { frames := 10, cells := 6174, slots := 37044, locals := 182 } (va_Pc [.ref (sw_ad g 0), .int a2] (zl_Pr g z)) (va_Qi (fun r z' => Q r ∧ z' = z) (zl_Po g) (sw_A g)) 6174 37044 (sw_A g) := by
  refine zl_met (by decide) (Nat.le_of_ble_eq_true rfl) ?_
  intro p e s m args below meth c ls hx hb hr hts hown hml hlocks hW hl
  have hown : s.vm.findClass RL = some m.cls := hown
  have hl : lv_has ls 7 [(0, .ref (sw_ad g 0)), (1, .int a2)] := hl
  obtain ⟨R, hRe⟩ : ∃ R : Room, R = { frames := 10, cells := 6174, slots := 37044, locals := 182 } := ⟨_, rfl⟩
  rw [← hRe]
  have hRf : R.frames = 10 := by rw [hRe]
  have hRc : R.cells = 6174 := by rw [hRe]
  have hRs : R.slots = 37044 := by rw [hRe]
  have hRl : R.locals = 182 := by rw [hRe]
  clear hRe
  have gc0 : 0 + 6174 ≤ R.cells := by rw [hRc]; exact (Nat.le_of_ble_eq_true rfl)
  have gs0 : 0 + 37044 ≤ R.slots := by rw [hRs]; exact (Nat.le_of_ble_eq_true rfl)
  obtain ⟨Q0, hQ0⟩ : ∃ Q0 : State → Prop, Q0 = MQ below (va_Qi (fun r z' => Q r ∧ z' = z) (zl_Po g) (sw_A g)) args s 6174 37044 (sw_A g) := ⟨_, rfl⟩
  rw [← hQ0]
  generalize hHs : s.heap = H at hW ⊢
  generalize hLo : ([] : List Loc) = locs at hW ⊢
  unfold wL_firstPanel at h
  refine lv_aload_n hx hb dL_firstPanel_0 rfl (lv_at hl 0 rfl) ?_
  refine zl_ki (g := g) (rest := []) (zl_runV (g := g) (As := []) (rest := []) hx hb hml hown hts (zD_examinerCount l (zl_re g H.size) z) cv_X6_examinerCount q_491 rfl rfl ⟨by rw [hRf]; exact (Nat.le_of_ble_eq_true rfl), by rw [hRl]; exact (Nat.le_of_ble_eq_true rfl)⟩ hW (Or.inl (Nat.le_of_ble_eq_true rfl)) sl_0 rfl rfl hl.1 rfl (Nat.le_of_ble_eq_true rfl) dL_firstPanel_1 ⟨(zc1 (D := 0) gc0 (Nat.le_of_ble_eq_true rfl)), (zc1 (D := 0) gs0 (Nat.le_of_ble_eq_true rfl))⟩) hW (fun r9 z9 H locs h9 hW => ?_)
  obtain ⟨rfl, e9⟩ := h9
  rw [e9] at hW
  refine lv_topi (fun v1 ev1 => ?_)
  replace h := h v1 ev1
  refine lv_istore_n (lv' := [(2, .int v1), (0, .ref (sw_ad g 0)), (1, .int a2)]) hx hb dL_firstPanel_4 rfl hl (Nat.le_of_ble_eq_true rfl) rfl (fun ls hl => ?_)
  refine lv_iconst (v := 0) hx hb dL_firstPanel_5 (by decide) ?_
  refine lv_istore_n (lv' := [(3, .int (0 : Int32)), (2, .int v1), (0, .ref (sw_ad g 0)), (1, .int a2)]) hx hb dL_firstPanel_6 rfl hl (Nat.le_of_ble_eq_true rfl) rfl (fun ls hl => ?_)
  obtain ⟨CL7, hCL7⟩ : ∃ n : Nat, n = 0 + 0 + 6174 := ⟨_, rfl⟩
  obtain ⟨SL7, hSL7⟩ : ∃ n : Nat, n = 0 + 0 + 37044 := ⟨_, rfl⟩
  have hX7 : ∀   (H : Heap) (locs : List Loc) (ls : Array Slot) (cx7 sx7 : Nat), (Q (-1 : Int32)) → cx7 ≤ CL7 → sx7 ≤ SL7 → zl_Wd g [] z s H locs → lv_has ls 7 [] → W p l e R s m args below meth c H locs cx7 sx7 Q0 (F0 m 151 ls []) := by
    intro   H locs ls cx7 sx7 h hcx7 hsx7 hW hl
    have g2 : cx7 + 0 ≤ R.cells := zc8 (x := 0) (D := 6174) (s := 6174) (s' := 0) hcx7 hCL7 gc0 (Nat.le_of_ble_eq_true rfl)
    have g3 : sx7 + 0 ≤ R.slots := zc8 (x := 0) (D := 37044) (s := 37044) (s' := 0) hsx7 hSL7 gs0 (Nat.le_of_ble_eq_true rfl)
    refine lv_iconst (v := -1) hx hb dL_firstPanel_151 (by decide) ?_
    subst hQ0
    refine W.widen (k := 6174) (n := 37044) (Nat.le_trans (zc1 (D := 0) g2 (Nat.le_of_ble_eq_true rfl)) (Nat.le_of_eq hRc)) (Nat.le_trans (zc1 (D := 0) g3 (Nat.le_of_ble_eq_true rfl)) (Nat.le_of_eq hRs)) ?_
    exact zl_ri hx hb hr hlocks hW rfl ⟨h, rfl⟩ dL_firstPanel_152
  have key7 : ∀ (n7 : Nat) (x3_7 : Int32)  (H : Heap) (locs : List Loc) (ls : Array Slot) (cn7 sn7 : Nat), lL_firstPanel_7 a2 z v1 Q (Q (-1 : Int32)) n7 x3_7 → cn7 + n7 * 882 ≤ CL7 → sn7 + n7 * 5292 ≤ SL7 → zl_Wd g [] z s H locs → lv_has ls 7 [(0, .ref (sw_ad g 0)), (1, .int a2), (2, .int v1), (3, .int x3_7)] → W p l e R s m args below meth c H locs cn7 sn7 Q0 (F0 m 7 ls []) := by
    intro n7
    induction n7 with
    | zero =>
      intro x3_7  H locs ls cn7 sn7 h
      exact False.elim h
    | succ n7 ih7 =>
      intro x3_7  H locs ls cn7 sn7 h hcn7 hsn7 hW hl
      rw [lL_firstPanel_7.eq_2] at h
      obtain ⟨Tcn7, hTcn7⟩ : ∃ n : Nat, n = cn7 + 882 := ⟨_, rfl⟩
      obtain ⟨Tsn7, hTsn7⟩ : ∃ n : Nat, n = sn7 + 5292 := ⟨_, rfl⟩
      have g4 : cn7 + 882 ≤ Tcn7 := Nat.le_of_eq hTcn7.symm
      have g5 : sn7 + 5292 ≤ Tsn7 := Nat.le_of_eq hTsn7.symm
      have g6 : cn7 + 882 ≤ R.cells := zc9 (x := 0) (D := 6174) (s := 6174) (t := 882) hcn7 hCL7 gc0 (Nat.le_of_ble_eq_true rfl)
      have g7 : sn7 + 5292 ≤ R.slots := zc9 (x := 0) (D := 37044) (s := 37044) (t := 5292) hsn7 hSL7 gs0 (Nat.le_of_ble_eq_true rfl)
      refine lv_iload_n hx hb dL_firstPanel_7 rfl (lv_at hl 3 rfl) ?_
      refine lv_iload_n hx hb dL_firstPanel_8 rfl (lv_at hl 2 rfl) ?_
      refine lv_icmp_ge (tgt := 151) hx hb dL_firstPanel_9 (by decide) (fun k8 => ?_) (fun k8 => ?_)
      · replace h := h.1 k8
        exact hX7  _ _ _ _ _ h (zc11 (zc1 (D := 0) g4 (Nat.le_of_ble_eq_true rfl)) hTcn7 hcn7) (zc11 (zc1 (D := 0) g5 (Nat.le_of_ble_eq_true rfl)) hTsn7 hsn7) hW (lv_sub hl [] rfl)
      · replace h := h.2 k8
        refine lv_iload_n hx hb dL_firstPanel_12 rfl (lv_at hl 3 rfl) ?_
        refine lv_iconst (v := 1) hx hb dL_firstPanel_13 (by decide) ?_
        refine lv_iadd hx hb dL_firstPanel_14 ?_
        refine lv_topi (fun v9 ev9 => ?_)
        replace h := h v9 ev9
        refine lv_istore (lv' := [(4, .int v9), (0, .ref (sw_ad g 0)), (1, .int a2), (2, .int v1), (3, .int x3_7)]) hx hb dL_firstPanel_15 hl (Nat.le_of_ble_eq_true rfl) rfl (fun ls hl => ?_)
        obtain ⟨CL17, hCL17⟩ : ∃ n : Nat, n = cn7 + 882 := ⟨_, rfl⟩
        obtain ⟨SL17, hSL17⟩ : ∃ n : Nat, n = sn7 + 5292 := ⟨_, rfl⟩
        have hX17 : ∀   (H : Heap) (locs : List Loc) (ls : Array Slot) (cx17 sx17 : Nat), (∀ v14 : Int32, v14 = x3_7 + (1 : Int32) → ((fun x3_7 => lL_firstPanel_7 a2 z v1 Q (Q (-1 : Int32)) n7 x3_7) v14)) → cx17 ≤ CL17 → sx17 ≤ SL17 → zl_Wd g [] z s H locs → lv_has ls 7 [(0, .ref (sw_ad g 0)), (1, .int a2), (2, .int v1), (3, .int x3_7)] → W p l e R s m args below meth c H locs cx17 sx17 Q0 (F0 m 145 ls []) := by
          intro   H locs ls cx17 sx17 h hcx17 hsx17 hW hl
          have g10 : cx17 + 0 ≤ R.cells := zc8 (x := cn7) (D := 882) (s := 882) (s' := 0) hcx17 hCL17 g6 (Nat.le_of_ble_eq_true rfl)
          have g11 : cx17 + 0 ≤ Tcn7 := zc8 (x := cn7) (D := 882) (s := 882) (s' := 0) hcx17 hCL17 g4 (Nat.le_of_ble_eq_true rfl)
          have g12 : sx17 + 0 ≤ R.slots := zc8 (x := sn7) (D := 5292) (s := 5292) (s' := 0) hsx17 hSL17 g7 (Nat.le_of_ble_eq_true rfl)
          have g13 : sx17 + 0 ≤ Tsn7 := zc8 (x := sn7) (D := 5292) (s := 5292) (s' := 0) hsx17 hSL17 g5 (Nat.le_of_ble_eq_true rfl)
          obtain ⟨v14, ev14⟩ : ∃ z : Int32, z = x3_7 + (1 : Int32) := ⟨_, rfl⟩
          replace h := h v14 ev14
          refine lv_iinc (v := v14) (lv' := [(3, .int v14), (0, .ref (sw_ad g 0)), (1, .int a2), (2, .int v1)]) hx hb dL_firstPanel_145 hl (k := 3) rfl (by rw [ev14]; rfl) (Nat.le_of_ble_eq_true rfl) rfl (fun ls hl => ?_)
          refine lv_goto (tgt := 7) hx hb dL_firstPanel_148 (by decide) ?_
          exact ih7 v14 _ _ _ _ _ h (zc10 (zc1 (D := 0) g11 (Nat.le_of_ble_eq_true rfl)) hTcn7 hcn7) (zc10 (zc1 (D := 0) g13 (Nat.le_of_ble_eq_true rfl)) hTsn7 hsn7) hW (lv_sub hl [1, 2, 3, 0] rfl)
        have key17 : ∀ (n17 : Nat) (x4_17 : Int32)  (H : Heap) (locs : List Loc) (ls : Array Slot) (cn17 sn17 : Nat), lL_firstPanel_17 a2 z v1 x3_7 Q (∀ v14 : Int32, v14 = x3_7 + (1 : Int32) → ((fun x3_7 => lL_firstPanel_7 a2 z v1 Q (Q (-1 : Int32)) n7 x3_7) v14)) n17 x4_17 → cn17 + n17 * 126 ≤ CL17 → sn17 + n17 * 756 ≤ SL17 → zl_Wd g [] z s H locs → lv_has ls 7 [(0, .ref (sw_ad g 0)), (1, .int a2), (2, .int v1), (3, .int x3_7), (4, .int x4_17)] → W p l e R s m args below meth c H locs cn17 sn17 Q0 (F0 m 17 ls []) := by
          intro n17
          induction n17 with
          | zero =>
            intro x4_17  H locs ls cn17 sn17 h
            exact False.elim h
          | succ n17 ih17 =>
            intro x4_17  H locs ls cn17 sn17 h hcn17 hsn17 hW hl
            rw [lL_firstPanel_17.eq_2] at h
            obtain ⟨Tcn17, hTcn17⟩ : ∃ n : Nat, n = cn17 + 126 := ⟨_, rfl⟩
            obtain ⟨Tsn17, hTsn17⟩ : ∃ n : Nat, n = sn17 + 756 := ⟨_, rfl⟩
            have g15 : cn17 + 126 ≤ Tcn17 := Nat.le_of_eq hTcn17.symm
            have g16 : sn17 + 756 ≤ Tsn17 := Nat.le_of_eq hTsn17.symm
            have g17 : cn17 + 126 ≤ R.cells := zc9 (x := cn7) (D := 882) (s := 882) (t := 126) hcn17 hCL17 g6 (Nat.le_of_ble_eq_true rfl)
            have g18 : sn17 + 756 ≤ R.slots := zc9 (x := sn7) (D := 5292) (s := 5292) (t := 756) hsn17 hSL17 g7 (Nat.le_of_ble_eq_true rfl)
            refine lv_iload hx hb dL_firstPanel_17 (lv_at hl 4 rfl) ?_
            refine lv_iload_n hx hb dL_firstPanel_19 rfl (lv_at hl 2 rfl) ?_
            refine lv_icmp_ge (tgt := 145) hx hb dL_firstPanel_20 (by decide) (fun k19 => ?_) (fun k19 => ?_)
            · replace h := h.1 k19
              exact hX17  _ _ _ _ _ h (zc11 (zc1 (D := 0) g15 (Nat.le_of_ble_eq_true rfl)) hTcn17 hcn17) (zc11 (zc1 (D := 0) g16 (Nat.le_of_ble_eq_true rfl)) hTsn17 hsn17) hW (lv_sub hl [0, 1, 2, 3] rfl)
            · replace h := h.2 k19
              refine lv_iload hx hb dL_firstPanel_23 (lv_at hl 4 rfl) ?_
              refine lv_iconst (v := 1) hx hb dL_firstPanel_25 (by decide) ?_
              refine lv_iadd hx hb dL_firstPanel_26 ?_
              refine lv_topi (fun v20 ev20 => ?_)
              replace h := h v20 ev20
              refine lv_istore (lv' := [(5, .int v20), (0, .ref (sw_ad g 0)), (1, .int a2), (2, .int v1), (3, .int x3_7), (4, .int x4_17)]) hx hb dL_firstPanel_27 hl (Nat.le_of_ble_eq_true rfl) rfl (fun ls hl => ?_)
              obtain ⟨CL29, hCL29⟩ : ∃ n : Nat, n = cn17 + 126 := ⟨_, rfl⟩
              obtain ⟨SL29, hSL29⟩ : ∃ n : Nat, n = sn17 + 756 := ⟨_, rfl⟩
              have hX29 : ∀   (H : Heap) (locs : List Loc) (ls : Array Slot) (cx29 sx29 : Nat), (∀ v25 : Int32, v25 = x4_17 + (1 : Int32) → ((fun x4_17 => lL_firstPanel_17 a2 z v1 x3_7 Q (∀ v14 : Int32, v14 = x3_7 + (1 : Int32) → ((fun x3_7 => lL_firstPanel_7 a2 z v1 Q (Q (-1 : Int32)) n7 x3_7) v14)) n17 x4_17) v25)) → cx29 ≤ CL29 → sx29 ≤ SL29 → zl_Wd g [] z s H locs → lv_has ls 7 [(0, .ref (sw_ad g 0)), (1, .int a2), (2, .int v1), (3, .int x3_7), (4, .int x4_17)] → W p l e R s m args below meth c H locs cx29 sx29 Q0 (F0 m 139 ls []) := by
                intro   H locs ls cx29 sx29 h hcx29 hsx29 hW hl
                have g21 : cx29 + 0 ≤ R.cells := zc8 (x := cn17) (D := 126) (s := 126) (s' := 0) hcx29 hCL29 g17 (Nat.le_of_ble_eq_true rfl)
                have g22 : cx29 + 0 ≤ Tcn17 := zc8 (x := cn17) (D := 126) (s := 126) (s' := 0) hcx29 hCL29 g15 (Nat.le_of_ble_eq_true rfl)
                have g23 : sx29 + 0 ≤ R.slots := zc8 (x := sn17) (D := 756) (s := 756) (s' := 0) hsx29 hSL29 g18 (Nat.le_of_ble_eq_true rfl)
                have g24 : sx29 + 0 ≤ Tsn17 := zc8 (x := sn17) (D := 756) (s := 756) (s' := 0) hsx29 hSL29 g16 (Nat.le_of_ble_eq_true rfl)
                obtain ⟨v25, ev25⟩ : ∃ z : Int32, z = x4_17 + (1 : Int32) := ⟨_, rfl⟩
                replace h := h v25 ev25
                refine lv_iinc (v := v25) (lv' := [(4, .int v25), (0, .ref (sw_ad g 0)), (1, .int a2), (2, .int v1), (3, .int x3_7)]) hx hb dL_firstPanel_139 hl (k := 4) rfl (by rw [ev25]; rfl) (Nat.le_of_ble_eq_true rfl) rfl (fun ls hl => ?_)
                refine lv_goto (tgt := 17) hx hb dL_firstPanel_142 (by decide) ?_
                exact ih17 v25 _ _ _ _ _ h (zc10 (zc1 (D := 0) g22 (Nat.le_of_ble_eq_true rfl)) hTcn17 hcn17) (zc10 (zc1 (D := 0) g24 (Nat.le_of_ble_eq_true rfl)) hTsn17 hsn17) hW (lv_sub hl [1, 2, 3, 4, 0] rfl)
              have key29 : ∀ (n29 : Nat) (x5_29 : Int32)  (H : Heap) (locs : List Loc) (ls : Array Slot) (cn29 sn29 : Nat), lL_firstPanel_29 a2 z v1 x3_7 x4_17 Q (∀ v25 : Int32, v25 = x4_17 + (1 : Int32) → ((fun x4_17 => lL_firstPanel_17 a2 z v1 x3_7 Q (∀ v14 : Int32, v14 = x3_7 + (1 : Int32) → ((fun x3_7 => lL_firstPanel_7 a2 z v1 Q (Q (-1 : Int32)) n7 x3_7) v14)) n17 x4_17) v25)) n29 x5_29 → cn29 + n29 * 18 ≤ CL29 → sn29 + n29 * 108 ≤ SL29 → zl_Wd g [] z s H locs → lv_has ls 7 [(0, .ref (sw_ad g 0)), (1, .int a2), (2, .int v1), (3, .int x3_7), (4, .int x4_17), (5, .int x5_29)] → W p l e R s m args below meth c H locs cn29 sn29 Q0 (F0 m 29 ls []) := by
                intro n29
                induction n29 with
                | zero =>
                  intro x5_29  H locs ls cn29 sn29 h
                  exact False.elim h
                | succ n29 ih29 =>
                  intro x5_29  H locs ls cn29 sn29 h hcn29 hsn29 hW hl
                  rw [lL_firstPanel_29.eq_2] at h
                  obtain ⟨Tcn29, hTcn29⟩ : ∃ n : Nat, n = cn29 + 18 := ⟨_, rfl⟩
                  obtain ⟨Tsn29, hTsn29⟩ : ∃ n : Nat, n = sn29 + 108 := ⟨_, rfl⟩
                  have g26 : cn29 + 18 ≤ Tcn29 := Nat.le_of_eq hTcn29.symm
                  have g27 : sn29 + 108 ≤ Tsn29 := Nat.le_of_eq hTsn29.symm
                  have g28 : cn29 + 18 ≤ R.cells := zc9 (x := cn17) (D := 126) (s := 126) (t := 18) hcn29 hCL29 g17 (Nat.le_of_ble_eq_true rfl)
                  have g29 : sn29 + 108 ≤ R.slots := zc9 (x := sn17) (D := 756) (s := 756) (t := 108) hsn29 hSL29 g18 (Nat.le_of_ble_eq_true rfl)
                  refine lv_iload hx hb dL_firstPanel_29 (lv_at hl 5 rfl) ?_
                  refine lv_iload_n hx hb dL_firstPanel_31 rfl (lv_at hl 2 rfl) ?_
                  refine lv_icmp_ge (tgt := 139) hx hb dL_firstPanel_32 (by decide) (fun k30 => ?_) (fun k30 => ?_)
                  · replace h := h.1 k30
                    exact hX29  _ _ _ _ _ h (zc11 (zc1 (D := 0) g26 (Nat.le_of_ble_eq_true rfl)) hTcn29 hcn29) (zc11 (zc1 (D := 0) g27 (Nat.le_of_ble_eq_true rfl)) hTsn29 hsn29) hW (lv_sub hl [0, 1, 2, 3, 4] rfl)
                  · replace h := h.2 k30
                    refine lv_aload_n hx hb dL_firstPanel_35 rfl (lv_at hl 0 rfl) ?_
                    refine lv_iload_n hx hb dL_firstPanel_36 rfl (lv_at hl 3 rfl) ?_
                    have y31 := h.1
                    replace h := h.2
                    refine zl_ki (g := g) (rest := []) (zl_runV (g := g) (As := [.int x3_7]) (rest := []) hx hb hml hown hts (zD_frameOfExaminer l hst (zl_re g H.size) z x3_7 y31) cv_X6_frameOfExaminer q_613 rfl rfl ⟨by rw [hRf]; exact (Nat.le_of_ble_eq_true rfl), by rw [hRl]; exact (Nat.le_of_ble_eq_true rfl)⟩ hW (Or.inl (Nat.le_of_ble_eq_true rfl)) sl_0 rfl rfl hl.1 rfl (Nat.le_of_ble_eq_true rfl) dL_firstPanel_37 ⟨(zc1 (D := 1) g28 (Nat.le_of_ble_eq_true rfl)), (zc1 (D := 6) g29 (Nat.le_of_ble_eq_true rfl))⟩) hW (fun r9 z9 H locs h9 hW => ?_)
                    clear y31
                    obtain ⟨rfl, e9⟩ := h9
                    rw [e9, s_frameOfExaminer_z] at hW
                    refine lv_aload_n hx hb dL_firstPanel_40 rfl (lv_at hl 0 rfl) ?_
                    refine lv_iload hx hb dL_firstPanel_41 (lv_at hl 4 rfl) ?_
                    have y32 := h.1
                    replace h := h.2
                    refine zl_ki (g := g) (rest := [.int (nI (s_frameOfExaminer z x3_7).2.1)]) (zl_runV (g := g) (As := [.int x4_17]) (rest := [.int (nI (s_frameOfExaminer z x3_7).2.1)]) hx hb hml hown hts (zD_frameOfExaminer l hst (zl_re g H.size) z x4_17 y32) cv_X6_frameOfExaminer q_613 rfl rfl ⟨by rw [hRf]; exact (Nat.le_of_ble_eq_true rfl), by rw [hRl]; exact (Nat.le_of_ble_eq_true rfl)⟩ hW (Or.inl (Nat.le_of_ble_eq_true rfl)) sl_0 rfl rfl hl.1 rfl (Nat.le_of_ble_eq_true rfl) dL_firstPanel_43 ⟨(zc1 (D := 2) g28 (Nat.le_of_ble_eq_true rfl)), (zc1 (D := 12) g29 (Nat.le_of_ble_eq_true rfl))⟩) hW (fun r9 z9 H locs h9 hW => ?_)
                    clear y32
                    obtain ⟨rfl, e9⟩ := h9
                    rw [e9, s_frameOfExaminer_z] at hW
                    obtain ⟨CJ83, hCJ83⟩ : ∃ n : Nat, n = cn29 + 1 + 1 + 4 := ⟨_, rfl⟩
                    obtain ⟨SJ83, hSJ83⟩ : ∃ n : Nat, n = sn29 + 6 + 6 + 24 := ⟨_, rfl⟩
                    have hJ83 : ∀ (t0_83 : Int32) (H : Heap) (locs : List Loc) (ls : Array Slot) (cj83 sj83 : Nat), jL_firstPanel_83 a2 z x3_7 x4_17 x5_29 Q (fun x5_29 => lL_firstPanel_29 a2 z v1 x3_7 x4_17 Q (∀ v25 : Int32, v25 = x4_17 + (1 : Int32) → ((fun x4_17 => lL_firstPanel_17 a2 z v1 x3_7 Q (∀ v14 : Int32, v14 = x3_7 + (1 : Int32) → ((fun x3_7 => lL_firstPanel_7 a2 z v1 Q (Q (-1 : Int32)) n7 x3_7) v14)) n17 x4_17) v25)) n29 x5_29) t0_83 → cj83 ≤ CJ83 → sj83 ≤ SJ83 → zl_Wd g [] z s H locs → lv_has ls 7 [(0, .ref (sw_ad g 0)), (1, .int a2), (2, .int v1), (3, .int x3_7), (4, .int x4_17), (5, .int x5_29)] → W p l e R s m args below meth c H locs cj83 sj83 Q0 (F0 m 83 ls [.int t0_83]) := by
                      intro t0_83 H locs ls cj83 sj83 h hcj83 hsj83 hW hl
                      unfold jL_firstPanel_83 at h
                      have g33 : cj83 + 12 ≤ R.cells := zc8 (x := cn29) (D := 6) (s := 18) (s' := 12) hcj83 hCJ83 g28 (Nat.le_of_ble_eq_true rfl)
                      have g34 : cj83 + 12 ≤ Tcn29 := zc8 (x := cn29) (D := 6) (s := 18) (s' := 12) hcj83 hCJ83 g26 (Nat.le_of_ble_eq_true rfl)
                      have g35 : sj83 + 72 ≤ R.slots := zc8 (x := sn29) (D := 36) (s := 108) (s' := 72) hsj83 hSJ83 g29 (Nat.le_of_ble_eq_true rfl)
                      have g36 : sj83 + 72 ≤ Tsn29 := zc8 (x := sn29) (D := 36) (s := 108) (s' := 72) hsj83 hSJ83 g27 (Nat.le_of_ble_eq_true rfl)
                      refine lv_istore (lv' := [(6, .int t0_83), (0, .ref (sw_ad g 0)), (1, .int a2), (2, .int v1), (3, .int x3_7), (4, .int x4_17), (5, .int x5_29)]) hx hb dL_firstPanel_83 hl (Nat.le_of_ble_eq_true rfl) rfl (fun ls hl => ?_)
                      refine lv_iload hx hb dL_firstPanel_85 (lv_at hl 0 rfl) ?_
                      refine lv_if_eq (tgt := 133) hx hb dL_firstPanel_87 (by decide) (fun k37 => ?_) (fun k37 => ?_)
                      · replace h := h.1 k37
                        obtain ⟨v38, ev38⟩ : ∃ z : Int32, z = x5_29 + (1 : Int32) := ⟨_, rfl⟩
                        replace h := h v38 ev38
                        refine lv_iinc (v := v38) (lv' := [(5, .int v38), (6, .int t0_83), (0, .ref (sw_ad g 0)), (1, .int a2), (2, .int v1), (3, .int x3_7), (4, .int x4_17)]) hx hb dL_firstPanel_133 hl (k := 6) rfl (by rw [ev38]; rfl) (Nat.le_of_ble_eq_true rfl) rfl (fun ls hl => ?_)
                        refine lv_goto (tgt := 29) hx hb dL_firstPanel_136 (by decide) ?_
                        exact ih29 v38 _ _ _ _ _ h (zc10 (zc1 (D := 0) g34 (Nat.le_of_ble_eq_true rfl)) hTcn29 hcn29) (zc10 (zc1 (D := 0) g36 (Nat.le_of_ble_eq_true rfl)) hTsn29 hsn29) hW (lv_sub hl [2, 3, 4, 5, 6, 0] rfl)
                      · replace h := h.2 k37
                        refine lv_aload_n hx hb dL_firstPanel_90 rfl (lv_at hl 1 rfl) ?_
                        refine lv_iload_n hx hb dL_firstPanel_91 rfl (lv_at hl 4 rfl) ?_
                        refine lv_iload_n hx hb dL_firstPanel_92 rfl (lv_at hl 2 rfl) ?_
                        refine zl_ki (g := g) (rest := []) (zl_runS (g := g) (As := [.ref (sw_ad g 0), .int x3_7, .int a2]) (rest := []) hx hb hml hown hts (kL_canSit l hst (zl_re g H.size) x3_7 a2 z _ h) cs_L_canSit q_663 rfl rfl ⟨by rw [hRf]; exact (Nat.le_of_ble_eq_true rfl), by rw [hRl]; exact (Nat.le_of_ble_eq_true rfl)⟩ hW rfl hl.1 rfl (Nat.le_of_ble_eq_true rfl) dL_firstPanel_93 ⟨(zc1 (D := 4) g33 (Nat.le_of_ble_eq_true rfl)), (zc1 (D := 24) g35 (Nat.le_of_ble_eq_true rfl))⟩) hW (fun r39 z9 H locs h hW => ?_)
                        obtain ⟨h, e9⟩ := h
                        rw [e9] at hW
                        refine lv_if_eq (tgt := 133) hx hb dL_firstPanel_96 (by decide) (fun k40 => ?_) (fun k40 => ?_)
                        · replace h := h.1 k40
                          obtain ⟨v41, ev41⟩ : ∃ z : Int32, z = x5_29 + (1 : Int32) := ⟨_, rfl⟩
                          replace h := h v41 ev41
                          refine lv_iinc (v := v41) (lv' := [(5, .int v41), (6, .int t0_83), (0, .ref (sw_ad g 0)), (1, .int a2), (2, .int v1), (3, .int x3_7), (4, .int x4_17)]) hx hb dL_firstPanel_133 hl (k := 6) rfl (by rw [ev41]; rfl) (Nat.le_of_ble_eq_true rfl) rfl (fun ls hl => ?_)
                          refine lv_goto (tgt := 29) hx hb dL_firstPanel_136 (by decide) ?_
                          exact ih29 v41 _ _ _ _ _ h (zc10 (zc1 (D := 4) g34 (Nat.le_of_ble_eq_true rfl)) hTcn29 hcn29) (zc10 (zc1 (D := 24) g36 (Nat.le_of_ble_eq_true rfl)) hTsn29 hsn29) hW (lv_sub hl [2, 3, 4, 5, 6, 0] rfl)
                        · replace h := h.2 k40
                          refine lv_aload_n hx hb dL_firstPanel_99 rfl (lv_at hl 1 rfl) ?_
                          refine lv_iload hx hb dL_firstPanel_100 (lv_at hl 5 rfl) ?_
                          refine lv_iload_n hx hb dL_firstPanel_102 rfl (lv_at hl 2 rfl) ?_
                          refine zl_ki (g := g) (rest := []) (zl_runS (g := g) (As := [.ref (sw_ad g 0), .int x4_17, .int a2]) (rest := []) hx hb hml hown hts (kL_canSit l hst (zl_re g H.size) x4_17 a2 z _ h) cs_L_canSit q_663 rfl rfl ⟨by rw [hRf]; exact (Nat.le_of_ble_eq_true rfl), by rw [hRl]; exact (Nat.le_of_ble_eq_true rfl)⟩ hW rfl hl.1 rfl (Nat.le_of_ble_eq_true rfl) dL_firstPanel_103 ⟨(zc1 (D := 8) g33 (Nat.le_of_ble_eq_true rfl)), (zc1 (D := 48) g35 (Nat.le_of_ble_eq_true rfl))⟩) hW (fun r42 z9 H locs h hW => ?_)
                          obtain ⟨h, e9⟩ := h
                          rw [e9] at hW
                          refine lv_if_eq (tgt := 133) hx hb dL_firstPanel_106 (by decide) (fun k43 => ?_) (fun k43 => ?_)
                          · replace h := h.1 k43
                            obtain ⟨v44, ev44⟩ : ∃ z : Int32, z = x5_29 + (1 : Int32) := ⟨_, rfl⟩
                            replace h := h v44 ev44
                            refine lv_iinc (v := v44) (lv' := [(5, .int v44), (6, .int t0_83), (0, .ref (sw_ad g 0)), (1, .int a2), (2, .int v1), (3, .int x3_7), (4, .int x4_17)]) hx hb dL_firstPanel_133 hl (k := 6) rfl (by rw [ev44]; rfl) (Nat.le_of_ble_eq_true rfl) rfl (fun ls hl => ?_)
                            refine lv_goto (tgt := 29) hx hb dL_firstPanel_136 (by decide) ?_
                            exact ih29 v44 _ _ _ _ _ h (zc10 (zc1 (D := 8) g34 (Nat.le_of_ble_eq_true rfl)) hTcn29 hcn29) (zc10 (zc1 (D := 48) g36 (Nat.le_of_ble_eq_true rfl)) hTsn29 hsn29) hW (lv_sub hl [2, 3, 4, 5, 6, 0] rfl)
                          · replace h := h.2 k43
                            refine lv_aload_n hx hb dL_firstPanel_109 rfl (lv_at hl 1 rfl) ?_
                            refine lv_iload hx hb dL_firstPanel_110 (lv_at hl 6 rfl) ?_
                            refine lv_iload_n hx hb dL_firstPanel_112 rfl (lv_at hl 2 rfl) ?_
                            refine zl_ki (g := g) (rest := []) (zl_runS (g := g) (As := [.ref (sw_ad g 0), .int x5_29, .int a2]) (rest := []) hx hb hml hown hts (kL_canSit l hst (zl_re g H.size) x5_29 a2 z _ h) cs_L_canSit q_663 rfl rfl ⟨by rw [hRf]; exact (Nat.le_of_ble_eq_true rfl), by rw [hRl]; exact (Nat.le_of_ble_eq_true rfl)⟩ hW rfl hl.1 rfl (Nat.le_of_ble_eq_true rfl) dL_firstPanel_113 ⟨(zc1 (D := 12) g33 (Nat.le_of_ble_eq_true rfl)), (zc1 (D := 72) g35 (Nat.le_of_ble_eq_true rfl))⟩) hW (fun r45 z9 H locs h hW => ?_)
                            obtain ⟨h, e9⟩ := h
                            rw [e9] at hW
                            refine lv_if_eq (tgt := 133) hx hb dL_firstPanel_116 (by decide) (fun k46 => ?_) (fun k46 => ?_)
                            · replace h := h.1 k46
                              obtain ⟨v47, ev47⟩ : ∃ z : Int32, z = x5_29 + (1 : Int32) := ⟨_, rfl⟩
                              replace h := h v47 ev47
                              refine lv_iinc (v := v47) (lv' := [(5, .int v47), (6, .int t0_83), (0, .ref (sw_ad g 0)), (1, .int a2), (2, .int v1), (3, .int x3_7), (4, .int x4_17)]) hx hb dL_firstPanel_133 hl (k := 6) rfl (by rw [ev47]; rfl) (Nat.le_of_ble_eq_true rfl) rfl (fun ls hl => ?_)
                              refine lv_goto (tgt := 29) hx hb dL_firstPanel_136 (by decide) ?_
                              exact ih29 v47 _ _ _ _ _ h (zc10 (zc1 (D := 12) g34 (Nat.le_of_ble_eq_true rfl)) hTcn29 hcn29) (zc10 (zc1 (D := 72) g36 (Nat.le_of_ble_eq_true rfl)) hTsn29 hsn29) hW (lv_sub hl [2, 3, 4, 5, 6, 0] rfl)
                            · replace h := h.2 k46
                              refine lv_bipush (v := 36) hx hb dL_firstPanel_119 (by decide) ?_
                              refine lv_iload_n hx hb dL_firstPanel_121 rfl (lv_at hl 4 rfl) ?_
                              refine lv_imul hx hb dL_firstPanel_122 ?_
                              refine lv_bipush (v := 6) hx hb dL_firstPanel_123 (by decide) ?_
                              refine lv_iload hx hb dL_firstPanel_125 (lv_at hl 5 rfl) ?_
                              refine lv_imul hx hb dL_firstPanel_127 ?_
                              refine lv_iadd hx hb dL_firstPanel_128 ?_
                              refine lv_iload hx hb dL_firstPanel_129 (lv_at hl 6 rfl) ?_
                              refine lv_iadd hx hb dL_firstPanel_131 ?_
                              subst hQ0
                              refine W.widen (k := 6174) (n := 37044) (Nat.le_trans (zc1 (D := 12) g33 (Nat.le_of_ble_eq_true rfl)) (Nat.le_of_eq hRc)) (Nat.le_trans (zc1 (D := 72) g35 (Nat.le_of_ble_eq_true rfl)) (Nat.le_of_eq hRs)) ?_
                              exact zl_ri hx hb hr hlocks hW rfl ⟨h, rfl⟩ dL_firstPanel_132
                    have g48 : cn29 + 6 ≤ CJ83 := Nat.le_of_eq hCJ83.symm
                    have g49 : sn29 + 36 ≤ SJ83 := Nat.le_of_eq hSJ83.symm
                    refine lv_icmp_eq (tgt := 82) hx hb dL_firstPanel_46 (by decide) (fun k50 => ?_) (fun k50 => ?_)
                    · replace h := h.1 k50
                      refine lv_iconst (v := 0) hx hb dL_firstPanel_82 (by decide) ?_
                      exact hJ83 (0 : Int32) _ _ _ _ _ h (zc1 (D := 2) g48 (Nat.le_of_ble_eq_true rfl)) (zc1 (D := 12) g49 (Nat.le_of_ble_eq_true rfl)) hW (lv_sub hl [0, 1, 2, 3, 4, 5] rfl)
                    · replace h := h.2 k50
                      refine lv_aload_n hx hb dL_firstPanel_49 rfl (lv_at hl 0 rfl) ?_
                      refine lv_iload_n hx hb dL_firstPanel_50 rfl (lv_at hl 3 rfl) ?_
                      have y51 := h.1
                      replace h := h.2
                      refine zl_ki (g := g) (rest := []) (zl_runV (g := g) (As := [.int x3_7]) (rest := []) hx hb hml hown hts (zD_frameOfExaminer l hst (zl_re g H.size) z x3_7 y51) cv_X6_frameOfExaminer q_613 rfl rfl ⟨by rw [hRf]; exact (Nat.le_of_ble_eq_true rfl), by rw [hRl]; exact (Nat.le_of_ble_eq_true rfl)⟩ hW (Or.inl (Nat.le_of_ble_eq_true rfl)) sl_0 rfl rfl hl.1 rfl (Nat.le_of_ble_eq_true rfl) dL_firstPanel_51 ⟨(zc1 (D := 3) g28 (Nat.le_of_ble_eq_true rfl)), (zc1 (D := 18) g29 (Nat.le_of_ble_eq_true rfl))⟩) hW (fun r9 z9 H locs h9 hW => ?_)
                      clear y51
                      obtain ⟨rfl, e9⟩ := h9
                      rw [e9, s_frameOfExaminer_z] at hW
                      refine lv_aload_n hx hb dL_firstPanel_54 rfl (lv_at hl 0 rfl) ?_
                      refine lv_iload hx hb dL_firstPanel_55 (lv_at hl 5 rfl) ?_
                      have y52 := h.1
                      replace h := h.2
                      refine zl_ki (g := g) (rest := [.int (nI (s_frameOfExaminer z x3_7).2.1)]) (zl_runV (g := g) (As := [.int x5_29]) (rest := [.int (nI (s_frameOfExaminer z x3_7).2.1)]) hx hb hml hown hts (zD_frameOfExaminer l hst (zl_re g H.size) z x5_29 y52) cv_X6_frameOfExaminer q_613 rfl rfl ⟨by rw [hRf]; exact (Nat.le_of_ble_eq_true rfl), by rw [hRl]; exact (Nat.le_of_ble_eq_true rfl)⟩ hW (Or.inl (Nat.le_of_ble_eq_true rfl)) sl_0 rfl rfl hl.1 rfl (Nat.le_of_ble_eq_true rfl) dL_firstPanel_57 ⟨(zc1 (D := 4) g28 (Nat.le_of_ble_eq_true rfl)), (zc1 (D := 24) g29 (Nat.le_of_ble_eq_true rfl))⟩) hW (fun r9 z9 H locs h9 hW => ?_)
                      clear y52
                      obtain ⟨rfl, e9⟩ := h9
                      rw [e9, s_frameOfExaminer_z] at hW
                      refine lv_icmp_eq (tgt := 82) hx hb dL_firstPanel_60 (by decide) (fun k53 => ?_) (fun k53 => ?_)
                      · replace h := h.1 k53
                        refine lv_iconst (v := 0) hx hb dL_firstPanel_82 (by decide) ?_
                        exact hJ83 (0 : Int32) _ _ _ _ _ h (zc1 (D := 4) g48 (Nat.le_of_ble_eq_true rfl)) (zc1 (D := 24) g49 (Nat.le_of_ble_eq_true rfl)) hW (lv_sub hl [0, 1, 2, 3, 4, 5] rfl)
                      · replace h := h.2 k53
                        refine lv_aload_n hx hb dL_firstPanel_63 rfl (lv_at hl 0 rfl) ?_
                        refine lv_iload hx hb dL_firstPanel_64 (lv_at hl 4 rfl) ?_
                        have y54 := h.1
                        replace h := h.2
                        refine zl_ki (g := g) (rest := []) (zl_runV (g := g) (As := [.int x4_17]) (rest := []) hx hb hml hown hts (zD_frameOfExaminer l hst (zl_re g H.size) z x4_17 y54) cv_X6_frameOfExaminer q_613 rfl rfl ⟨by rw [hRf]; exact (Nat.le_of_ble_eq_true rfl), by rw [hRl]; exact (Nat.le_of_ble_eq_true rfl)⟩ hW (Or.inl (Nat.le_of_ble_eq_true rfl)) sl_0 rfl rfl hl.1 rfl (Nat.le_of_ble_eq_true rfl) dL_firstPanel_66 ⟨(zc1 (D := 5) g28 (Nat.le_of_ble_eq_true rfl)), (zc1 (D := 30) g29 (Nat.le_of_ble_eq_true rfl))⟩) hW (fun r9 z9 H locs h9 hW => ?_)
                        clear y54
                        obtain ⟨rfl, e9⟩ := h9
                        rw [e9, s_frameOfExaminer_z] at hW
                        refine lv_aload_n hx hb dL_firstPanel_69 rfl (lv_at hl 0 rfl) ?_
                        refine lv_iload hx hb dL_firstPanel_70 (lv_at hl 5 rfl) ?_
                        have y55 := h.1
                        replace h := h.2
                        refine zl_ki (g := g) (rest := [.int (nI (s_frameOfExaminer z x4_17).2.1)]) (zl_runV (g := g) (As := [.int x5_29]) (rest := [.int (nI (s_frameOfExaminer z x4_17).2.1)]) hx hb hml hown hts (zD_frameOfExaminer l hst (zl_re g H.size) z x5_29 y55) cv_X6_frameOfExaminer q_613 rfl rfl ⟨by rw [hRf]; exact (Nat.le_of_ble_eq_true rfl), by rw [hRl]; exact (Nat.le_of_ble_eq_true rfl)⟩ hW (Or.inl (Nat.le_of_ble_eq_true rfl)) sl_0 rfl rfl hl.1 rfl (Nat.le_of_ble_eq_true rfl) dL_firstPanel_72 ⟨(zc1 (D := 6) g28 (Nat.le_of_ble_eq_true rfl)), (zc1 (D := 36) g29 (Nat.le_of_ble_eq_true rfl))⟩) hW (fun r9 z9 H locs h9 hW => ?_)
                        clear y55
                        obtain ⟨rfl, e9⟩ := h9
                        rw [e9, s_frameOfExaminer_z] at hW
                        refine lv_icmp_eq (tgt := 82) hx hb dL_firstPanel_75 (by decide) (fun k56 => ?_) (fun k56 => ?_)
                        · replace h := h.1 k56
                          refine lv_iconst (v := 0) hx hb dL_firstPanel_82 (by decide) ?_
                          exact hJ83 (0 : Int32) _ _ _ _ _ h (zc1 (D := 6) g48 (Nat.le_of_ble_eq_true rfl)) (zc1 (D := 36) g49 (Nat.le_of_ble_eq_true rfl)) hW (lv_sub hl [0, 1, 2, 3, 4, 5] rfl)
                        · replace h := h.2 k56
                          refine lv_iconst (v := 1) hx hb dL_firstPanel_78 (by decide) ?_
                          refine lv_goto (tgt := 83) hx hb dL_firstPanel_79 (by decide) ?_
                          exact hJ83 (1 : Int32) _ _ _ _ _ h (zc1 (D := 6) g48 (Nat.le_of_ble_eq_true rfl)) (zc1 (D := 36) g49 (Nat.le_of_ble_eq_true rfl)) hW (lv_sub hl [0, 1, 2, 3, 4, 5] rfl)
              exact key29 7 v20 _ _ _ _ _ h (Nat.le_of_eq hCL29.symm) (Nat.le_of_eq hSL29.symm) hW (lv_sub hl [1, 2, 3, 4, 5, 0] rfl)
        exact key17 7 v9 _ _ _ _ _ h (Nat.le_of_eq hCL17.symm) (Nat.le_of_eq hSL17.symm) hW (lv_sub hl [1, 2, 3, 4, 0] rfl)
  exact key7 7 (0 : Int32) _ _ _ _ _ h (Nat.le_of_eq hCL7.symm) (Nat.le_of_eq hSL7.symm) hW (lv_sub hl [2, 3, 1, 0] rfl)
