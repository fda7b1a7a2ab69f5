/-! The law's methods that take a text. -/
def zRt (g : sG) (E : va_W) : zG → State → Prop := fun z' t => zl_H g E z' t.heap ∧ zl_E g E
theorem znc {ts : List Nat} (h : ztx ts) (j : Nat) : ts.getD j 0 < 65536 := Nat.lt_trans (h.2.at j) (by decide)
section ZTR
variable {p : Program} {l : Launch} {e : Env} {R : Room} {s : State} {m : MethodId} {args : Array Value} {below : List Frame} {meth : Method} {c : Code} {H : Heap} {locs : List Loc} {cells slots : Nat} {Q : State → Prop}
variable {cc : ByteArray} {pc : Nat} {ls : Array Slot} {rest st0 : List Value} {g : sG} {E : va_W} {z : zG} {mc ms : Nat}
theorem zt_ri (hx : p.tables.exec = Jvm.exec) (hb : c.code = cc) {ty : FieldType} (hr : meth.sig.returnType = some ty) (hlocks : meth.locks = false) (hW : zl_Wd g E z s H locs) {v : Int32} {Q1 : Int32 → zG → Prop} (hn : narrow ty (.int v) = .int v) (hq : Q1 v z) (hdg : decode cc pc = .ok (.ireturn, 1)) : W p l e R s m args below meth c H locs cells slots (MQ below (va_Qi Q1 (zRt g E) (sw_A g)) args s cells slots (sw_A g)) (F0 m pc ls [.int v]) :=
  W.zret hx hb hr hn (fun t ht hW' => ⟨⟨v, z, rfl, hq, by show zl_H _ _ _ _; rw [ht]; exact hW.1, hW.2.1⟩, hW.2.2.1.F ht⟩) hW.2.2.1.2.2 hdg hlocks
theorem zt_ki {a : Array Value} {Q1 : Int32 → zG → Prop} (hr : va_Run p l e R s m args below meth c H locs cells slots mc ms (F0 m pc ls st0) rest (va_Qi Q1 (zRt g E) (sw_A g) a) (sw_A g)) (hW : zl_Wd g E z s H locs)
    (kk : ∀ (r : Int32) (z' : zG) (H : Heap) (locs : List Loc), Q1 r z' → zl_Wd g E z' s H locs → W p l e R s m args below meth c H locs (cells + mc) (slots + ms) Q (F0 m (pc + 3) ls (.int r :: rest))) : W p l e R s m args below meth c H locs cells slots Q (F0 m pc ls st0) :=
  va_calli hr hW.2.2.1 (fun q _ h => h) (fun q h => h) (fun r u t H1 locs1 ht hvm hw hB hz hk hS => kk r u H1 locs1 hw ⟨by rw [← ht]; exact hB.1, hB.2, hS, hW.2.2.2⟩)
end ZTR

def lL_spells_17 (ts : List Nat) (z : zG) (K17 : Int32 → Prop) : Nat → Int32 → Int32 → Prop
  | 0, _, _ => False
  | n17 + 1, x3_17, x4_17 => ((nI ts.length) ≤ x4_17 → (K17 x3_17)) ∧ (¬ (nI ts.length) ≤ x4_17 → ((x3_17 = 0 → (K17 x3_17)) ∧ (¬ x3_17 = 0 → (∃ j13 : Nat, (j13 < ts.length ∧ x4_17 = nI j13) ∧ (((zv (s_outputAt z x4_17) [(-11)]) = (nI (ts.getD j13 0)) → (∀ v16 : Int32, v16 = x4_17 + (1 : Int32) → ((fun x3_17 x4_17 => lL_spells_17 ts z K17 n17 x3_17 x4_17) (1 : Int32) v16))) ∧ (¬ (zv (s_outputAt z x4_17) [(-11)]) = (nI (ts.getD j13 0)) → (∀ v15 : Int32, v15 = x4_17 + (1 : Int32) → ((fun x3_17 x4_17 => lL_spells_17 ts z K17 n17 x3_17 x4_17) (0 : Int32) v15))))))))
def jL_spells_13 (a2 : Int32) (ts : List Nat) (z : zG) (Q : Int32 → Prop) (t0_13 : Int32) : Prop :=
  lL_spells_17 ts z (fun x3_17k => (x3_17k = 0 → (Q (0 : Int32))) ∧ (¬ x3_17k = 0 → (((zv (s_outputAt z a2) [(-11)]) = (-11 : Int32) → (Q (1 : Int32))) ∧ (¬ (zv (s_outputAt z a2) [(-11)]) = (-11 : Int32) → (Q (0 : Int32)))))) 65 t0_13 (0 : Int32)
def wL_spells (a2 : Int32) (ts : List Nat) (z : zG) (Q : Int32 → Prop) : Prop :=
  (a2 = (nI ts.length) → (jL_spells_13 a2 ts z Q (1 : Int32))) ∧ (¬ a2 = (nI ts.length) → (jL_spells_13 a2 ts z Q (0 : Int32)))
theorem cs_L_spells : sw_cS yL_spells cL_spells 5 (some .boolean) 3 := ⟨q_1026, q_1, q_1027, by decide +kernel⟩
set_option maxRecDepth 20000 in
set_option maxHeartbeats 4000000 in
theorem kL_spells (l : Launch) (hst : l.stackTraces = false) (g : sG) (a2 : Int32) (ts : List Nat) (qs ws i1 i2 : Nat) (E : va_W) (z : zG) (Q : Int32 → Prop) (hqs : E[i1]? = some (qs, zTo g ws)) (hws : E[i2]? = some (ws, zTb g ts)) (hok : ztx ts) (h : wL_spells a2 ts z Q) : Met l yL_spells (sw_ws yL_spells cL_spells 5 (some .boolean)) { frames := 8, cells := 66, slots := 396, locals := 138 } (va_Pc [.ref (sw_ad g 0), .int a2, .ref qs] (zPe g E z)) (va_Qi (fun r z' => Q r ∧ z' = z) (zRt g E) (sw_A g)) 66 396 (sw_A g) := by
  refine je_met (by decide) (Nat.le_of_ble_eq_true rfl) ?_
  intro p e s m args below meth c ls hx hb hr hts hown hml hlocks hnm hW hl
  have hown : s.vm.findClass RL = some m.cls := hown
  have hl : lv_has ls 5 [(0, .ref (sw_ad g 0)), (1, .int a2), (2, .ref qs)] := hl
  obtain ⟨R, hRe⟩ : ∃ R : Room, R = { frames := 8, cells := 66, slots := 396, locals := 138 } := ⟨_, rfl⟩
  rw [← hRe]
  have hRf : R.frames = 8 := by rw [hRe]
  have hRc : R.cells = 66 := by rw [hRe]
  have hRs : R.slots = 396 := by rw [hRe]
  have hRl : R.locals = 138 := by rw [hRe]
  clear hRe
  have gc0 : 0 + 66 ≤ R.cells := by rw [hRc]; exact (Nat.le_of_ble_eq_true rfl)
  have gs0 : 0 + 396 ≤ R.slots := by rw [hRs]; exact (Nat.le_of_ble_eq_true rfl)
  obtain ⟨Q0, hQ0⟩ : ∃ Q0 : State → Prop, Q0 = MQ below (va_Qi (fun r z' => Q r ∧ z' = z) (zRt g E) (sw_A g)) args s 66 396 (sw_A g) := ⟨_, rfl⟩
  rw [← hQ0]
  generalize hHs : s.heap = H at hW ⊢
  generalize hLo : ([] : List Loc) = locs at hW ⊢
  unfold wL_spells at h
  refine lv_iload_n hx hb dL_spells_0 rfl (lv_at hl 1 rfl) ?_
  refine lv_aload_n hx hb dL_spells_1 rfl (lv_at hl 2 rfl) ?_
  refine je_ki (rest := [.int a2]) (je_runV (i := i1) (As := []) (rest := [.int a2]) hx hb hml hown hts (kb_lenD l g z i1 i2 qs ws ts E hqs hws) cv_J0_length_8abf5 q_1028 rfl rfl ⟨by rw [hRf]; exact (Nat.le_of_ble_eq_true rfl), by rw [hRl]; exact (Nat.le_of_ble_eq_true rfl)⟩ hW hqs rfl rfl hl.1 rfl (Nat.le_of_ble_eq_true rfl) dL_spells_2 ⟨(zc1 (D := 0) gc0 (Nat.le_of_ble_eq_true rfl)), (zc1 (D := 0) gs0 (Nat.le_of_ble_eq_true rfl))⟩) hW (fun r9 u9 H locs h9 hW => ?_)
  subst h9
  have hW : zl_Wd g E z s H locs := hW
  obtain ⟨CJ13, hCJ13⟩ : ∃ n : Nat, n = 0 + 0 + 0 := ⟨_, rfl⟩
  obtain ⟨SJ13, hSJ13⟩ : ∃ n : Nat, n = 0 + 0 + 0 := ⟨_, rfl⟩
  have hJ13 : ∀ (t0_13 : Int32) (H : Heap) (locs : List Loc) (ls : Array Slot) (cj13 sj13 : Nat), jL_spells_13 a2 ts z Q t0_13 → cj13 ≤ CJ13 → sj13 ≤ SJ13 → zl_Wd g E z s H locs → lv_has ls 5 [(0, .ref (sw_ad g 0)), (1, .int a2), (2, .ref qs)] → W p l e R s m args below meth c H locs cj13 sj13 Q0 (F0 m 13 ls [.int t0_13]) := by
    intro t0_13 H locs ls cj13 sj13 h hcj13 hsj13 hW hl
    unfold jL_spells_13 at h
    have g1 : cj13 + 66 ≤ R.cells := zc8 (x := 0) (D := 0) (s := 66) (s' := 66) hcj13 hCJ13 gc0 (Nat.le_of_ble_eq_true rfl)
    have g2 : sj13 + 396 ≤ R.slots := zc8 (x := 0) (D := 0) (s := 396) (s' := 396) hsj13 hSJ13 gs0 (Nat.le_of_ble_eq_true rfl)
    refine lv_istore_n (lv' := [(3, .int t0_13), (0, .ref (sw_ad g 0)), (1, .int a2), (2, .ref qs)]) hx hb dL_spells_13 rfl hl (Nat.le_of_ble_eq_true rfl) rfl (fun ls hl => ?_)
    refine lv_iconst (v := 0) hx hb dL_spells_14 (by decide) ?_
    refine lv_istore (lv' := [(4, .int (0 : Int32)), (3, .int t0_13), (0, .ref (sw_ad g 0)), (1, .int a2), (2, .ref qs)]) hx hb dL_spells_15 hl (Nat.le_of_ble_eq_true rfl) rfl (fun ls hl => ?_)
    obtain ⟨CL17, hCL17⟩ : ∃ n : Nat, n = cj13 + 65 := ⟨_, rfl⟩
    obtain ⟨SL17, hSL17⟩ : ∃ n : Nat, n = sj13 + 390 := ⟨_, rfl⟩
    have hX17 : ∀ (x3_17k : Int32)  (H : Heap) (locs : List Loc) (ls : Array Slot) (cx17 sx17 : Nat), ((x3_17k = 0 → (Q (0 : Int32))) ∧ (¬ x3_17k = 0 → (((zv (s_outputAt z a2) [(-11)]) = (-11 : Int32) → (Q (1 : Int32))) ∧ (¬ (zv (s_outputAt z a2) [(-11)]) = (-11 : Int32) → (Q (0 : Int32)))))) → cx17 ≤ CL17 → sx17 ≤ SL17 → zl_Wd g E z s H locs → lv_has ls 5 [(0, .ref (sw_ad g 0)), (1, .int a2), (3, .int x3_17k)] → W p l e R s m args below meth c H locs cx17 sx17 Q0 (F0 m 57 ls []) := by
      intro x3_17k  H locs ls cx17 sx17 h hcx17 hsx17 hW hl
      have g3 : cx17 + 1 ≤ R.cells := zc8 (x := cj13) (D := 65) (s := 66) (s' := 1) hcx17 hCL17 g1 (Nat.le_of_ble_eq_true rfl)
      have g4 : sx17 + 6 ≤ R.slots := zc8 (x := sj13) (D := 390) (s := 396) (s' := 6) hsx17 hSL17 g2 (Nat.le_of_ble_eq_true rfl)
      refine lv_iload_n hx hb dL_spells_57 rfl (lv_at hl 2 rfl) ?_
      refine lv_if_eq (tgt := 75) hx hb dL_spells_58 (by decide) (fun k5 => ?_) (fun k5 => ?_)
      · replace h := h.1 k5
        refine lv_iconst (v := 0) hx hb dL_spells_75 (by decide) ?_
        subst hQ0
        refine W.widen (k := 66) (n := 396) (Nat.le_trans (zc1 (D := 0) g3 (Nat.le_of_ble_eq_true rfl)) (Nat.le_of_eq hRc)) (Nat.le_trans (zc1 (D := 0) g4 (Nat.le_of_ble_eq_true rfl)) (Nat.le_of_eq hRs)) ?_
        exact zt_ri hx hb hr hlocks hW (by decide) ⟨h, rfl⟩ dL_spells_76
      · replace h := h.2 k5
        refine lv_aload_n hx hb dL_spells_61 rfl (lv_at hl 0 rfl) ?_
        refine lv_iload_n hx hb dL_spells_62 rfl (lv_at hl 1 rfl) ?_
        refine zl_ki (g := g) (rest := []) (zl_runH (g := g) (As := [.ref (sw_ad g 0), .int a2]) (rest := []) hx hb hml hown hts (kL_outputAt l hst (zl_re g H.size) z a2) ch_L_outputAt q_1029 rfl rfl ⟨by rw [hRf]; exact (Nat.le_of_ble_eq_true rfl), by rw [hRl]; exact (Nat.le_of_ble_eq_true rfl)⟩ hW rfl hl.1 rfl (Nat.le_of_ble_eq_true rfl) dL_spells_63 ⟨(zc1 (D := 1) g3 (Nat.le_of_ble_eq_true rfl)), (zc1 (D := 6) g4 (Nat.le_of_ble_eq_true rfl))⟩) hW (fun r9 z9 H locs h9 hW => ?_)
        obtain ⟨rfl, e9⟩ := h9
        rw [e9, s_outputAt_z] at hW
        refine lv_bipush (v := -11) hx hb dL_spells_66 (by decide) ?_
        refine lv_icmp_ne (tgt := 75) hx hb dL_spells_68 (by decide) (fun k6 => ?_) (fun k6 => ?_)
        · replace h := h.2 k6
          refine lv_iconst (v := 0) hx hb dL_spells_75 (by decide) ?_
          subst hQ0
          refine W.widen (k := 66) (n := 396) (Nat.le_trans (zc1 (D := 1) g3 (Nat.le_of_ble_eq_true rfl)) (Nat.le_of_eq hRc)) (Nat.le_trans (zc1 (D := 6) g4 (Nat.le_of_ble_eq_true rfl)) (Nat.le_of_eq hRs)) ?_
          exact zt_ri hx hb hr hlocks hW (by decide) ⟨h, rfl⟩ dL_spells_76
        · replace h := h.1 k6
          refine lv_iconst (v := 1) hx hb dL_spells_71 (by decide) ?_
          refine lv_goto (tgt := 76) hx hb dL_spells_72 (by decide) ?_
          subst hQ0
          refine W.widen (k := 66) (n := 396) (Nat.le_trans (zc1 (D := 1) g3 (Nat.le_of_ble_eq_true rfl)) (Nat.le_of_eq hRc)) (Nat.le_trans (zc1 (D := 6) g4 (Nat.le_of_ble_eq_true rfl)) (Nat.le_of_eq hRs)) ?_
          exact zt_ri hx hb hr hlocks hW (by decide) ⟨h, rfl⟩ dL_spells_76
    have key17 : ∀ (n17 : Nat) (x3_17 : Int32) (x4_17 : Int32)  (H : Heap) (locs : List Loc) (ls : Array Slot) (cn17 sn17 : Nat), lL_spells_17 ts z (fun x3_17k => (x3_17k = 0 → (Q (0 : Int32))) ∧ (¬ x3_17k = 0 → (((zv (s_outputAt z a2) [(-11)]) = (-11 : Int32) → (Q (1 : Int32))) ∧ (¬ (zv (s_outputAt z a2) [(-11)]) = (-11 : Int32) → (Q (0 : Int32)))))) n17 x3_17 x4_17 → cn17 + n17 * 1 ≤ CL17 → sn17 + n17 * 6 ≤ SL17 → zl_Wd g E z s H locs → lv_has ls 5 [(0, .ref (sw_ad g 0)), (1, .int a2), (2, .ref qs), (3, .int x3_17), (4, .int x4_17)] → W p l e R s m args below meth c H locs cn17 sn17 Q0 (F0 m 17 ls []) := by
      intro n17
      induction n17 with
      | zero =>
        intro x3_17 x4_17  H locs ls cn17 sn17 h
        exact False.elim h
      | succ n17 ih17 =>
        intro x3_17 x4_17  H locs ls cn17 sn17 h hcn17 hsn17 hW hl
        rw [lL_spells_17.eq_2] at h
        obtain ⟨Tcn17, hTcn17⟩ : ∃ n : Nat, n = cn17 + 1 := ⟨_, rfl⟩
        obtain ⟨Tsn17, hTsn17⟩ : ∃ n : Nat, n = sn17 + 6 := ⟨_, rfl⟩
        have g7 : cn17 + 1 ≤ Tcn17 := Nat.le_of_eq hTcn17.symm
        have g8 : sn17 + 6 ≤ Tsn17 := Nat.le_of_eq hTsn17.symm
        have g9 : cn17 + 2 ≤ R.cells := zc9 (x := cj13) (D := 65) (s := 66) (t := 2) hcn17 hCL17 g1 (Nat.le_of_ble_eq_true rfl)
        have g10 : sn17 + 12 ≤ R.slots := zc9 (x := sj13) (D := 390) (s := 396) (t := 12) hsn17 hSL17 g2 (Nat.le_of_ble_eq_true rfl)
        refine lv_iload hx hb dL_spells_17 (lv_at hl 4 rfl) ?_
        refine lv_aload_n hx hb dL_spells_19 rfl (lv_at hl 2 rfl) ?_
        refine je_ki (rest := [.int x4_17]) (je_runV (i := i1) (As := []) (rest := [.int x4_17]) hx hb hml hown hts (kb_lenD l g z i1 i2 qs ws ts E hqs hws) cv_J0_length_8abf5 q_1028 rfl rfl ⟨by rw [hRf]; exact (Nat.le_of_ble_eq_true rfl), by rw [hRl]; exact (Nat.le_of_ble_eq_true rfl)⟩ hW hqs rfl rfl hl.1 rfl (Nat.le_of_ble_eq_true rfl) dL_spells_20 ⟨(zc1 (D := 0) g9 (Nat.le_of_ble_eq_true rfl)), (zc1 (D := 0) g10 (Nat.le_of_ble_eq_true rfl))⟩) hW (fun r9 u9 H locs h9 hW => ?_)
        subst h9
        have hW : zl_Wd g E z s H locs := hW
        refine lv_icmp_ge (tgt := 57) hx hb dL_spells_23 (by decide) (fun k11 => ?_) (fun k11 => ?_)
        · replace h := h.1 k11
          exact hX17 x3_17 _ _ _ _ _ h (zc11 (zc1 (D := 0) g7 (Nat.le_of_ble_eq_true rfl)) hTcn17 hcn17) (zc11 (zc1 (D := 0) g8 (Nat.le_of_ble_eq_true rfl)) hTsn17 hsn17) hW (lv_sub hl [0, 1, 3] rfl)
        · replace h := h.2 k11
          refine lv_iload_n hx hb dL_spells_26 rfl (lv_at hl 3 rfl) ?_
          refine lv_if_eq (tgt := 57) hx hb dL_spells_27 (by decide) (fun k12 => ?_) (fun k12 => ?_)
          · replace h := h.1 k12
            exact hX17 x3_17 _ _ _ _ _ h (zc11 (zc1 (D := 0) g7 (Nat.le_of_ble_eq_true rfl)) hTcn17 hcn17) (zc11 (zc1 (D := 0) g8 (Nat.le_of_ble_eq_true rfl)) hTsn17 hsn17) hW (lv_sub hl [0, 1, 3] rfl)
          · replace h := h.2 k12
            refine lv_aload_n hx hb dL_spells_30 rfl (lv_at hl 0 rfl) ?_
            refine lv_iload hx hb dL_spells_31 (lv_at hl 4 rfl) ?_
            refine zl_ki (g := g) (rest := []) (zl_runH (g := g) (As := [.ref (sw_ad g 0), .int x4_17]) (rest := []) hx hb hml hown hts (kL_outputAt l hst (zl_re g H.size) z x4_17) ch_L_outputAt q_1029 rfl rfl ⟨by rw [hRf]; exact (Nat.le_of_ble_eq_true rfl), by rw [hRl]; exact (Nat.le_of_ble_eq_true rfl)⟩ hW rfl hl.1 rfl (Nat.le_of_ble_eq_true rfl) dL_spells_33 ⟨(zc1 (D := 1) g9 (Nat.le_of_ble_eq_true rfl)), (zc1 (D := 6) g10 (Nat.le_of_ble_eq_true rfl))⟩) hW (fun r9 z9 H locs h9 hW => ?_)
            obtain ⟨rfl, e9⟩ := h9
            rw [e9, s_outputAt_z] at hW
            refine lv_aload_n hx hb dL_spells_36 rfl (lv_at hl 2 rfl) ?_
            refine lv_iload hx hb dL_spells_37 (lv_at hl 4 rfl) ?_
            obtain ⟨j13, ⟨hj13, ej13⟩, h⟩ := h
            rw [show Value.int x4_17 = Value.int (nI j13) from congrArg Value.int ej13]
            refine je_ki (rest := [.int (zv (s_outputAt z x4_17) [(-11)])]) (je_runV (i := i1) (As := [.int (nI j13)]) (rest := [.int (zv (s_outputAt z x4_17) [(-11)])]) hx hb hml hown hts (kb_chat l g z i1 i2 qs ws j13 ts E hqs hws hok hj13) cv_J0_charAt_5068e q_1035 rfl rfl ⟨by rw [hRf]; exact (Nat.le_of_ble_eq_true rfl), by rw [hRl]; exact (Nat.le_of_ble_eq_true rfl)⟩ hW hqs rfl rfl hl.1 rfl (Nat.le_of_ble_eq_true rfl) dL_spells_39 ⟨(zc1 (D := 1) g9 (Nat.le_of_ble_eq_true rfl)), (zc1 (D := 6) g10 (Nat.le_of_ble_eq_true rfl))⟩) hW (fun r9 u9 H locs h9 hW => ?_)
            subst h9
            have hW : zl_Wd g E z s H locs := hW
            refine lv_icmp_ne (tgt := 49) hx hb dL_spells_42 (by decide) (fun k14 => ?_) (fun k14 => ?_)
            · replace h := h.2 k14
              refine lv_iconst (v := 0) hx hb dL_spells_49 (by decide) ?_
              refine lv_istore_n (lv' := [(3, .int (0 : Int32)), (0, .ref (sw_ad g 0)), (1, .int a2), (2, .ref qs), (4, .int x4_17)]) hx hb dL_spells_50 rfl hl (Nat.le_of_ble_eq_true rfl) rfl (fun ls hl => ?_)
              obtain ⟨v15, ev15⟩ : ∃ z : Int32, z = x4_17 + (1 : Int32) := ⟨_, rfl⟩
              replace h := h v15 ev15
              refine lv_iinc (v := v15) (lv' := [(4, .int v15), (3, .int (0 : Int32)), (0, .ref (sw_ad g 0)), (1, .int a2), (2, .ref qs)]) hx hb dL_spells_51 hl (k := 4) rfl (by rw [ev15]; rfl) (Nat.le_of_ble_eq_true rfl) rfl (fun ls hl => ?_)
              refine lv_goto (tgt := 17) hx hb dL_spells_54 (by decide) ?_
              exact ih17 (0 : Int32) v15 _ _ _ _ _ h (zc10 (zc1 (D := 1) g7 (Nat.le_of_ble_eq_true rfl)) hTcn17 hcn17) (zc10 (zc1 (D := 6) g8 (Nat.le_of_ble_eq_true rfl)) hTsn17 hsn17) hW (lv_sub hl [2, 3, 4, 1, 0] rfl)
            · replace h := h.1 k14
              refine lv_iconst (v := 1) hx hb dL_spells_45 (by decide) ?_
              refine lv_goto (tgt := 50) hx hb dL_spells_46 (by decide) ?_
              refine lv_istore_n (lv' := [(3, .int (1 : Int32)), (0, .ref (sw_ad g 0)), (1, .int a2), (2, .ref qs), (4, .int x4_17)]) hx hb dL_spells_50 rfl hl (Nat.le_of_ble_eq_true rfl) rfl (fun ls hl => ?_)
              obtain ⟨v16, ev16⟩ : ∃ z : Int32, z = x4_17 + (1 : Int32) := ⟨_, rfl⟩
              replace h := h v16 ev16
              refine lv_iinc (v := v16) (lv' := [(4, .int v16), (3, .int (1 : Int32)), (0, .ref (sw_ad g 0)), (1, .int a2), (2, .ref qs)]) hx hb dL_spells_51 hl (k := 4) rfl (by rw [ev16]; rfl) (Nat.le_of_ble_eq_true rfl) rfl (fun ls hl => ?_)
              refine lv_goto (tgt := 17) hx hb dL_spells_54 (by decide) ?_
              exact ih17 (1 : Int32) v16 _ _ _ _ _ h (zc10 (zc1 (D := 1) g7 (Nat.le_of_ble_eq_true rfl)) hTcn17 hcn17) (zc10 (zc1 (D := 6) g8 (Nat.le_of_ble_eq_true rfl)) hTsn17 hsn17) hW (lv_sub hl [2, 3, 4, 1, 0] rfl)
    exact key17 65 t0_13 (0 : Int32) _ _ _ _ _ h (Nat.le_of_eq hCL17.symm) (Nat.le_of_eq hSL17.symm) hW (lv_sub hl [2, 3, 4, 1, 0] rfl)
  have g17 : 0 + 0 ≤ CJ13 := Nat.le_of_eq hCJ13.symm
  have g18 : 0 + 0 ≤ SJ13 := Nat.le_of_eq hSJ13.symm
  refine lv_icmp_ne (tgt := 12) hx hb dL_spells_5 (by decide) (fun k19 => ?_) (fun k19 => ?_)
  · replace h := h.2 k19
    refine lv_iconst (v := 0) hx hb dL_spells_12 (by decide) ?_
    exact hJ13 (0 : Int32) _ _ _ _ _ h (zc1 (D := 0) g17 (Nat.le_of_ble_eq_true rfl)) (zc1 (D := 0) g18 (Nat.le_of_ble_eq_true rfl)) hW (lv_sub hl [0, 1, 2] rfl)
  · replace h := h.1 k19
    refine lv_iconst (v := 1) hx hb dL_spells_8 (by decide) ?_
    refine lv_goto (tgt := 13) hx hb dL_spells_9 (by decide) ?_
    exact hJ13 (1 : Int32) _ _ _ _ _ h (zc1 (D := 0) g17 (Nat.le_of_ble_eq_true rfl)) (zc1 (D := 0) g18 (Nat.le_of_ble_eq_true rfl)) hW (lv_sub hl [0, 1, 2] rfl)

def lL_run_2 (ts : List Nat) (Q : Int32 → zG → Prop) (K2 : zG → Prop) : Nat → Int32 → zG → Prop
  | 0, _, _ => False
  | n2 + 1, x2_2, z_2 => ((nI ts.length) ≤ x2_2 → (K2 z_2)) ∧ (¬ (nI ts.length) ≤ x2_2 → (∃ j9 : Nat, (j9 < ts.length ∧ x2_2 = nI j9) ∧ (∀ zp10 : zG, zp10 = (s_append z_2 (ts.getD j9 0)).2.2 → (((zv (s_append z_2 (ts.getD j9 0)) [(-14)]) = (x2_2 + (1 : Int32)) → (∀ v12 : Int32, v12 = x2_2 + (1 : Int32) → ((fun x2_2 z_2 => lL_run_2 ts Q K2 n2 x2_2 z_2) v12 zp10))) ∧ (¬ (zv (s_append z_2 (ts.getD j9 0)) [(-14)]) = (x2_2 + (1 : Int32)) → (Q (-9 : Int32) zp10))))))
def wT_run (ts : List Nat) (z : zG) (Q : Int32 → zG → Prop) : Prop :=
  lL_run_2 ts Q (fun z_2k => ∀ zp3 : zG, zp3 = (s_run z_2k).2.2 → (Q (zv (s_run z_2k) [(-1), (-2)]) zp3)) 65 (0 : Int32) z
theorem cs_L_run : sw_cS yL_run cL_run 3 (some .int) 2 := ⟨q_1079, q_1, q_1080, by decide +kernel⟩
set_option maxRecDepth 20000 in
set_option maxHeartbeats 4000000 in
theorem kL_run (l : Launch) (hst : l.stackTraces = false) (g : sG) (ts : List Nat) (qs ws i1 i2 : Nat) (E : va_W) (z : zG) (Q : Int32 → zG → Prop) (hqs : E[i1]? = some (qs, zTo g ws)) (hws : E[i2]? = some (ws, zTb g ts)) (hok : ztx ts) (h : wT_run ts z Q) : Met l yL_run (sw_ws yL_run cL_run 3 (some .int)) { frames := 9, cells := 66, slots := 396, locals := 220 } (va_Pc [.ref (sw_ad g 0), .ref qs] (zPe g E z)) (va_Qi Q (zRt g E) (sw_A g)) 66 396 (sw_A g) := by
  refine je_met (by decide) (Nat.le_of_ble_eq_true rfl) ?_
  intro p e s m args below meth c ls hx hb hr hts hown hml hlocks hnm hW hl
  have hown : s.vm.findClass RL = some m.cls := hown
  have hl : lv_has ls 3 [(0, .ref (sw_ad g 0)), (1, .ref qs)] := hl
  obtain ⟨R, hRe⟩ : ∃ R : Room, R = { frames := 9, cells := 66, slots := 396, locals := 220 } := ⟨_, rfl⟩
  rw [← hRe]
  have hRf : R.frames = 9 := by rw [hRe]
  have hRc : R.cells = 66 := by rw [hRe]
  have hRs : R.slots = 396 := by rw [hRe]
  have hRl : R.locals = 220 := by rw [hRe]
  clear hRe
  have gc0 : 0 + 66 ≤ R.cells := by rw [hRc]; exact (Nat.le_of_ble_eq_true rfl)
  have gs0 : 0 + 396 ≤ R.slots := by rw [hRs]; exact (Nat.le_of_ble_eq_true rfl)
  obtain ⟨Q0, hQ0⟩ : ∃ Q0 : State → Prop, Q0 = MQ below (va_Qi Q (zRt g E) (sw_A g)) args s 66 396 (sw_A g) := ⟨_, rfl⟩
  rw [← hQ0]
  generalize hHs : s.heap = H at hW ⊢
  generalize hLo : ([] : List Loc) = locs at hW ⊢
  unfold wT_run at h
  refine lv_iconst (v := 0) hx hb dL_run_0 (by decide) ?_
  refine lv_istore_n (lv' := [(2, .int (0 : Int32)), (0, .ref (sw_ad g 0)), (1, .ref qs)]) hx hb dL_run_1 rfl hl (Nat.le_of_ble_eq_true rfl) rfl (fun ls hl => ?_)
  obtain ⟨CL2, hCL2⟩ : ∃ n : Nat, n = 0 + 65 := ⟨_, rfl⟩
  obtain ⟨SL2, hSL2⟩ : ∃ n : Nat, n = 0 + 390 := ⟨_, rfl⟩
  have hX2 : ∀ (z_2k : zG)  (H : Heap) (locs : List Loc) (ls : Array Slot) (cx2 sx2 : Nat), (∀ zp3 : zG, zp3 = (s_run z_2k).2.2 → (Q (zv (s_run z_2k) [(-1), (-2)]) zp3)) → cx2 ≤ CL2 → sx2 ≤ SL2 → zl_Wd g E z_2k s H locs → lv_has ls 3 [(0, .ref (sw_ad g 0))] → W p l e R s m args below meth c H locs cx2 sx2 Q0 (F0 m 34 ls []) := by
    intro z_2k  H locs ls cx2 sx2 h hcx2 hsx2 hW hl
    have g1 : cx2 + 1 ≤ R.cells := zc8 (x := 0) (D := 65) (s := 66) (s' := 1) hcx2 hCL2 gc0 (Nat.le_of_ble_eq_true rfl)
    have g2 : sx2 + 6 ≤ R.slots := zc8 (x := 0) (D := 390) (s := 396) (s' := 6) hsx2 hSL2 gs0 (Nat.le_of_ble_eq_true rfl)
    refine lv_aload_n hx hb dL_run_34 rfl (lv_at hl 0 rfl) ?_
    refine zl_ki (g := g) (rest := []) (zl_runH (g := g) (As := [.ref (sw_ad g 0)]) (rest := []) hx hb hml hown hts (kL_runs l hst (zl_re g H.size) z_2k ) ch_L_runs q_1095 rfl rfl ⟨by rw [hRf]; exact (Nat.le_of_ble_eq_true rfl), by rw [hRl]; exact (Nat.le_of_ble_eq_true rfl)⟩ hW rfl hl.1 rfl (Nat.le_of_ble_eq_true rfl) dL_run_35 ⟨(zc1 (D := 1) g1 (Nat.le_of_ble_eq_true rfl)), (zc1 (D := 6) g2 (Nat.le_of_ble_eq_true rfl))⟩) hW (fun r9 z9 H locs h9 hW => ?_)
    obtain ⟨rfl, e9⟩ := h9
    replace h := h z9 e9
    obtain ⟨zp3, ezp3⟩ : ∃ z : zG, z = z9 := ⟨_, rfl⟩
    rw [← ezp3] at h hW
    subst hQ0
    refine W.widen (k := 66) (n := 396) (Nat.le_trans (zc1 (D := 1) g1 (Nat.le_of_ble_eq_true rfl)) (Nat.le_of_eq hRc)) (Nat.le_trans (zc1 (D := 6) g2 (Nat.le_of_ble_eq_true rfl)) (Nat.le_of_eq hRs)) ?_
    exact zt_ri hx hb hr hlocks hW rfl h dL_run_38
  have key2 : ∀ (n2 : Nat) (x2_2 : Int32) (z_2 : zG)  (H : Heap) (locs : List Loc) (ls : Array Slot) (cn2 sn2 : Nat), lL_run_2 ts Q (fun z_2k => ∀ zp3 : zG, zp3 = (s_run z_2k).2.2 → (Q (zv (s_run z_2k) [(-1), (-2)]) zp3)) n2 x2_2 z_2 → cn2 + n2 * 1 ≤ CL2 → sn2 + n2 * 6 ≤ SL2 → zl_Wd g E z_2 s H locs → lv_has ls 3 [(0, .ref (sw_ad g 0)), (1, .ref qs), (2, .int x2_2)] → W p l e R s m args below meth c H locs cn2 sn2 Q0 (F0 m 2 ls []) := by
    intro n2
    induction n2 with
    | zero =>
      intro x2_2 z_2  H locs ls cn2 sn2 h
      exact False.elim h
    | succ n2 ih2 =>
      intro x2_2 z_2  H locs ls cn2 sn2 h hcn2 hsn2 hW hl
      rw [lL_run_2.eq_2] at h
      obtain ⟨Tcn2, hTcn2⟩ : ∃ n : Nat, n = cn2 + 1 := ⟨_, rfl⟩
      obtain ⟨Tsn2, hTsn2⟩ : ∃ n : Nat, n = sn2 + 6 := ⟨_, rfl⟩
      have g4 : cn2 + 1 ≤ Tcn2 := Nat.le_of_eq hTcn2.symm
      have g5 : sn2 + 6 ≤ Tsn2 := Nat.le_of_eq hTsn2.symm
      have g6 : cn2 + 2 ≤ R.cells := zc9 (x := 0) (D := 65) (s := 66) (t := 2) hcn2 hCL2 gc0 (Nat.le_of_ble_eq_true rfl)
      have g7 : sn2 + 12 ≤ R.slots := zc9 (x := 0) (D := 390) (s := 396) (t := 12) hsn2 hSL2 gs0 (Nat.le_of_ble_eq_true rfl)
      refine lv_iload_n hx hb dL_run_2 rfl (lv_at hl 2 rfl) ?_
      refine lv_aload_n hx hb dL_run_3 rfl (lv_at hl 1 rfl) ?_
      refine je_ki (rest := [.int x2_2]) (je_runV (i := i1) (As := []) (rest := [.int x2_2]) hx hb hml hown hts (kb_lenD l g z_2 i1 i2 qs ws ts E hqs hws) cv_J0_length_8abf5 q_1028 rfl rfl ⟨by rw [hRf]; exact (Nat.le_of_ble_eq_true rfl), by rw [hRl]; exact (Nat.le_of_ble_eq_true rfl)⟩ hW hqs rfl rfl hl.1 rfl (Nat.le_of_ble_eq_true rfl) dL_run_4 ⟨(zc1 (D := 0) g6 (Nat.le_of_ble_eq_true rfl)), (zc1 (D := 0) g7 (Nat.le_of_ble_eq_true rfl))⟩) hW (fun r9 u9 H locs h9 hW => ?_)
      subst h9
      have hW : zl_Wd g E z_2 s H locs := hW
      refine lv_icmp_ge (tgt := 34) hx hb dL_run_7 (by decide) (fun k8 => ?_) (fun k8 => ?_)
      · replace h := h.1 k8
        exact hX2 z_2 _ _ _ _ _ h (zc11 (zc1 (D := 0) g4 (Nat.le_of_ble_eq_true rfl)) hTcn2 hcn2) (zc11 (zc1 (D := 0) g5 (Nat.le_of_ble_eq_true rfl)) hTsn2 hsn2) hW (lv_sub hl [0] rfl)
      · replace h := h.2 k8
        refine lv_aload_n hx hb dL_run_10 rfl (lv_at hl 0 rfl) ?_
        refine lv_aload_n hx hb dL_run_11 rfl (lv_at hl 1 rfl) ?_
        refine lv_iload_n hx hb dL_run_12 rfl (lv_at hl 2 rfl) ?_
        obtain ⟨j9, ⟨hj9, ej9⟩, h⟩ := h
        rw [show Value.int x2_2 = Value.int (nI j9) from congrArg Value.int ej9]
        refine je_ki (rest := [.ref (sw_ad g 0)]) (je_runV (i := i1) (As := [.int (nI j9)]) (rest := [.ref (sw_ad g 0)]) hx hb hml hown hts (kb_chat l g z_2 i1 i2 qs ws j9 ts E hqs hws hok hj9) cv_J0_charAt_5068e q_1035 rfl rfl ⟨by rw [hRf]; exact (Nat.le_of_ble_eq_true rfl), by rw [hRl]; exact (Nat.le_of_ble_eq_true rfl)⟩ hW hqs rfl rfl hl.1 rfl (Nat.le_of_ble_eq_true rfl) dL_run_13 ⟨(zc1 (D := 0) g6 (Nat.le_of_ble_eq_true rfl)), (zc1 (D := 0) g7 (Nat.le_of_ble_eq_true rfl))⟩) hW (fun r9 u9 H locs h9 hW => ?_)
        subst h9
        have hW : zl_Wd g E z_2 s H locs := hW
        refine zl_ki (g := g) (rest := []) (zl_runH (g := g) (As := [.ref (sw_ad g 0), .int (nI (ts.getD j9 0))]) (rest := []) hx hb hml hown hts (kL_append l hst (zl_re g H.size) z_2 (znc hok j9)) ch_L_append q_1081 rfl rfl ⟨by rw [hRf]; exact (Nat.le_of_ble_eq_true rfl), by rw [hRl]; exact (Nat.le_of_ble_eq_true rfl)⟩ hW rfl hl.1 rfl (Nat.le_of_ble_eq_true rfl) dL_run_16 ⟨(zc1 (D := 1) g6 (Nat.le_of_ble_eq_true rfl)), (zc1 (D := 6) g7 (Nat.le_of_ble_eq_true rfl))⟩) hW (fun r9 z9 H locs h9 hW => ?_)
        obtain ⟨rfl, e9⟩ := h9
        replace h := h z9 e9
        obtain ⟨zp10, ezp10⟩ : ∃ z : zG, z = z9 := ⟨_, rfl⟩
        rw [← ezp10] at h hW
        refine lv_iload_n hx hb dL_run_19 rfl (lv_at hl 2 rfl) ?_
        refine lv_iconst (v := 1) hx hb dL_run_20 (by decide) ?_
        refine lv_iadd hx hb dL_run_21 ?_
        refine lv_icmp_eq (tgt := 28) hx hb dL_run_22 (by decide) (fun k11 => ?_) (fun k11 => ?_)
        · replace h := h.1 k11
          obtain ⟨v12, ev12⟩ : ∃ z : Int32, z = x2_2 + (1 : Int32) := ⟨_, rfl⟩
          replace h := h v12 ev12
          refine lv_iinc (v := v12) (lv' := [(2, .int v12), (0, .ref (sw_ad g 0)), (1, .ref qs)]) hx hb dL_run_28 hl (k := 2) rfl (by rw [ev12]; rfl) (Nat.le_of_ble_eq_true rfl) rfl (fun ls hl => ?_)
          refine lv_goto (tgt := 2) hx hb dL_run_31 (by decide) ?_
          exact ih2 v12 zp10 _ _ _ _ _ h (zc10 (zc1 (D := 1) g4 (Nat.le_of_ble_eq_true rfl)) hTcn2 hcn2) (zc10 (zc1 (D := 6) g5 (Nat.le_of_ble_eq_true rfl)) hTsn2 hsn2) hW (lv_sub hl [1, 2, 0] rfl)
        · replace h := h.2 k11
          refine lv_bipush (v := -9) hx hb dL_run_25 (by decide) ?_
          subst hQ0
          refine W.widen (k := 66) (n := 396) (Nat.le_trans (zc1 (D := 1) g6 (Nat.le_of_ble_eq_true rfl)) (Nat.le_of_eq hRc)) (Nat.le_trans (zc1 (D := 6) g7 (Nat.le_of_ble_eq_true rfl)) (Nat.le_of_eq hRs)) ?_
          exact zt_ri hx hb hr hlocks hW rfl h dL_run_27
  exact key2 65 (0 : Int32) z _ _ _ _ _ h (Nat.le_of_eq hCL2.symm) (Nat.le_of_eq hSL2.symm) hW (lv_sub hl [1, 2, 0] rfl)
