/-! The law's check that all is undone. -/
def lL_undone_445 (f_q1_10k : (Nat → Int64)) (Q : Int32 → zG → Prop) (K445 : zG → Prop) : Nat → Int32 → zG → Prop
  | 0, _, _ => False
  | n445 + 1, x4_445, z_445 => (x4_445 < 0 → (K445 z_445)) ∧ (¬ x4_445 < 0 → (∀ zp12 : zG, zp12 = (s_undo z_445).2.2 → (((zv (s_undo z_445) [(-1)]) < 0 → (Q (0 : Int32) zp12)) ∧ (¬ (zv (s_undo z_445) [(-1)]) < 0 → (wL_sum   zp12 (fun r14 => vp_in x4_445 9 ∧ (((lg_cmp r14 (f_q1_10k (x4_445).toNatClampNeg)) = 0 → (∀ v17 : Int32, v17 = x4_445 + (-1 : Int32) → ((fun x4_445 z_445 => lL_undone_445 f_q1_10k Q K445 n445 x4_445 z_445) v17 zp12))) ∧ (¬ (lg_cmp r14 (f_q1_10k (x4_445).toNatClampNeg)) = 0 → (Q (0 : Int32) zp12)))))))))
def jL_undone_403 (x3_10 : Int32) (x4_10 : Int32) (f28 : (Nat → Int64)) (Q : Int32 → zG → Prop) (N10 : Int32 → Int32 → zG → (Nat → Int64) → Prop) (x7_403 : Int32) (z_403 : zG) : Prop :=
  (0 ≤ x7_403 → ((0 ≤ x7_403 → (∀ v36 : Int32, v36 = (x3_10 + (1 : Int32)) → (∀ v37 : Int32, v37 = x4_10 + (1 : Int32) → (N10 v36 v37 z_403 f28)))) ∧ (¬ 0 ≤ x7_403 → (∀ v38 : Int32, v38 = (x3_10 + (0 : Int32)) → (∀ v39 : Int32, v39 = x4_10 + (1 : Int32) → (N10 v38 v39 z_403 f28)))))) ∧ (¬ 0 ≤ x7_403 → (wL_sum   z_403 (fun r40 => vp_in x3_10 9 ∧ (((lg_cmp r40 (f28 (x3_10).toNatClampNeg)) = 0 → ((0 ≤ x7_403 → (∀ v44 : Int32, v44 = (x3_10 + (1 : Int32)) → (∀ v45 : Int32, v45 = x4_10 + (1 : Int32) → (N10 v44 v45 z_403 f28)))) ∧ (¬ 0 ≤ x7_403 → (∀ v46 : Int32, v46 = (x3_10 + (0 : Int32)) → (∀ v47 : Int32, v47 = x4_10 + (1 : Int32) → (N10 v46 v47 z_403 f28)))))) ∧ (¬ (lg_cmp r40 (f28 (x3_10).toNatClampNeg)) = 0 → (Q (0 : Int32) z_403))))))
def lL_undone_10 (L : Nat) (xs : Nat → Int32) (Q : Int32 → zG → Prop) (K10 : Int32 → zG → (Nat → Int64) → Prop) : Nat → Int32 → Int32 → zG → (Nat → Int64) → Prop
  | 0, _, _, _, _ => False
  | n10 + 1, x3_10, x4_10, z_10, f_q1_10 => ((7 : Int32) ≤ x4_10 → (K10 x3_10 z_10 f_q1_10)) ∧ (¬ (7 : Int32) ≤ x4_10 → (wL_cell (((33 : Int32) + x4_10)) L xs z_10 (fun r23 => ∀ v24 : Int32, v24 = ((r23).toUInt32 >>> (((1 : Int32)).toUInt32 &&& Int32.toUInt32 31)).toInt32 → (∀ v25 : Int32, v25 = ((v24).toUInt32 >>> (((4 : Int32)).toUInt32 &&& Int32.toUInt32 31)).toInt32 → (wL_sum   z_10 (fun r26 => vp_in x3_10 9 ∧ (∀ f28 : (Nat → Int64), f28 = vp_updL f_q1_10 (x3_10).toNatClampNeg r26 → (∀ v29 : Int32, v29 = (v24 - v24 / (11 : Int32) * (11 : Int32)) → ((v29 = (0 : Int32) → (((v25 - v25 / (2 : Int32) * (2 : Int32)) = 0 → (∀ v127 : Int32, v127 = ((v25).toUInt32 >>> (((1 : Int32)).toUInt32 &&& Int32.toUInt32 31)).toInt32 → (∀ v128 : Int32, v128 = ((((97 : Int32) + (v127 - v127 / (7 : Int32) * (7 : Int32)))).toUInt32 % 65536).toInt32 → (∀ v129 : Int32, v129 = ((v25).toUInt32 >>> (((4 : Int32)).toUInt32 &&& Int32.toUInt32 31)).toInt32 → (∀ zp130 : zG, zp130 = (zstep z_10 (oDoor z_10.1 v128 ((v129 - v129 / (7 : Int32) * (7 : Int32))))).2.2 → (∀ v131 : Int32, v131 = (zv (zstep z_10 (oDoor z_10.1 v128 ((v129 - v129 / (7 : Int32) * (7 : Int32))))) [(-1), (-2)]) → (jL_undone_403 x3_10 x4_10 f28 Q (fun x3_10 x4_10 z_10 f_q1_10 => lL_undone_10 L xs Q K10 n10 x3_10 x4_10 z_10 f_q1_10) v131 zp130))))))) ∧ (¬ (v25 - v25 / (2 : Int32) * (2 : Int32)) = 0 → (∀ v120 : Int32, v120 = ((v25).toUInt32 >>> (((1 : Int32)).toUInt32 &&& Int32.toUInt32 31)).toInt32 → (∀ v121 : Int32, v121 = ((((97 : Int32) + (v120 - v120 / (7 : Int32) * (7 : Int32)))).toUInt32 % 65536).toInt32 → (∀ v122 : Int32, v122 = ((v25).toUInt32 >>> (((4 : Int32)).toUInt32 &&& Int32.toUInt32 31)).toInt32 → (∀ v123 : Int32, v123 = ((v25).toUInt32 >>> (((11 : Int32)).toUInt32 &&& Int32.toUInt32 31)).toInt32 → (∀ v124 : Int32, v124 = ((v25).toUInt32 >>> (((14 : Int32)).toUInt32 &&& Int32.toUInt32 31)).toInt32 → (∀ zp125 : zG, zp125 = (zstep z_10 (oExam z_10.1 v121 ((v122 - v122 / (65 : Int32) * (65 : Int32))) ((v123 - v123 / (6 : Int32) * (6 : Int32))) ((v124 - v124 / (11 : Int32) * (11 : Int32))))).2.2 → (∀ v126 : Int32, v126 = (zv (zstep z_10 (oExam z_10.1 v121 ((v122 - v122 / (65 : Int32) * (65 : Int32))) ((v123 - v123 / (6 : Int32) * (6 : Int32))) ((v124 - v124 / (11 : Int32) * (11 : Int32))))) [(-1), (-2)]) → (jL_undone_403 x3_10 x4_10 f28 Q (fun x3_10 x4_10 z_10 f_q1_10 => lL_undone_10 L xs Q K10 n10 x3_10 x4_10 z_10 f_q1_10) v126 zp125))))))))))) ∧ (¬ v29 = (0 : Int32) → ((v29 = (1 : Int32) → (∀ v116 : Int32, v116 = ((v25).toUInt32 >>> (((3 : Int32)).toUInt32 &&& Int32.toUInt32 31)).toInt32 → (∀ zp117 : zG, zp117 = (zstep z_10 (oConf z_10.1 ((v25 - v25 / (7 : Int32) * (7 : Int32))) ((v116 - v116 / (9 : Int32) * (9 : Int32))))).2.2 → (∀ v118 : Int32, v118 = (zv (zstep z_10 (oConf z_10.1 ((v25 - v25 / (7 : Int32) * (7 : Int32))) ((v116 - v116 / (9 : Int32) * (9 : Int32))))) [(-1), (-2)]) → (jL_undone_403 x3_10 x4_10 f28 Q (fun x3_10 x4_10 z_10 f_q1_10 => lL_undone_10 L xs Q K10 n10 x3_10 x4_10 z_10 f_q1_10) v118 zp117))))) ∧ (¬ v29 = (1 : Int32) → ((v29 = (2 : Int32) → (∀ v113 : Int32, v113 = ((v25).toUInt32 >>> (((3 : Int32)).toUInt32 &&& Int32.toUInt32 31)).toInt32 → (∀ zp114 : zG, zp114 = (zstep z_10 (oAss z_10.1 ((v25 - v25 / (7 : Int32) * (7 : Int32))) ((v113 - v113 / (9 : Int32) * (9 : Int32))))).2.2 → (∀ v115 : Int32, v115 = (zv (zstep z_10 (oAss z_10.1 ((v25 - v25 / (7 : Int32) * (7 : Int32))) ((v113 - v113 / (9 : Int32) * (9 : Int32))))) [(-1), (-2), (-3)]) → (jL_undone_403 x3_10 x4_10 f28 Q (fun x3_10 x4_10 z_10 f_q1_10 => lL_undone_10 L xs Q K10 n10 x3_10 x4_10 z_10 f_q1_10) v115 zp114))))) ∧ (¬ v29 = (2 : Int32) → ((v29 = (3 : Int32) → (∀ v110 : Int32, v110 = ((v25).toUInt32 >>> (((3 : Int32)).toUInt32 &&& Int32.toUInt32 31)).toInt32 → (∀ zp111 : zG, zp111 = (zstep z_10 (oAss z_10.1 ((v25 - v25 / (7 : Int32) * (7 : Int32))) ((v110 - v110 / (9 : Int32) * (9 : Int32))))).2.2 → (∀ v112 : Int32, v112 = (zv (zstep z_10 (oAss z_10.1 ((v25 - v25 / (7 : Int32) * (7 : Int32))) ((v110 - v110 / (9 : Int32) * (9 : Int32))))) [(-1), (-2), (-3)]) → (jL_undone_403 x3_10 x4_10 f28 Q (fun x3_10 x4_10 z_10 f_q1_10 => lL_undone_10 L xs Q K10 n10 x3_10 x4_10 z_10 f_q1_10) v112 zp111))))) ∧ (¬ v29 = (3 : Int32) → ((v29 = (4 : Int32) → (∀ zp108 : zG, zp108 = (zstep z_10 (oPlan z_10.1)).2.2 → (∀ v109 : Int32, v109 = (nI (zstep z_10 (oPlan z_10.1)).2.1) → (jL_undone_403 x3_10 x4_10 f28 Q (fun x3_10 x4_10 z_10 f_q1_10 => lL_undone_10 L xs Q K10 n10 x3_10 x4_10 z_10 f_q1_10) v109 zp108)))) ∧ (¬ v29 = (4 : Int32) → ((v29 = (5 : Int32) → (∀ v104 : Int32, v104 = ((v25).toUInt32 >>> (((3 : Int32)).toUInt32 &&& Int32.toUInt32 31)).toInt32 → (∀ v105 : Int32, v105 = ((v25).toUInt32 >>> (((7 : Int32)).toUInt32 &&& Int32.toUInt32 31)).toInt32 → (∀ zp106 : zG, zp106 = (zstep z_10 (oGrad z_10.1 ((v25 - v25 / (7 : Int32) * (7 : Int32))) ((v104 - v104 / (9 : Int32) * (9 : Int32))) ((v105 - v105 / (22 : Int32) * (22 : Int32))))).2.2 → (∀ v107 : Int32, v107 = (zv (zstep z_10 (oGrad z_10.1 ((v25 - v25 / (7 : Int32) * (7 : Int32))) ((v104 - v104 / (9 : Int32) * (9 : Int32))) ((v105 - v105 / (22 : Int32) * (22 : Int32))))) [(-1), (-2), (-3)]) → (jL_undone_403 x3_10 x4_10 f28 Q (fun x3_10 x4_10 z_10 f_q1_10 => lL_undone_10 L xs Q K10 n10 x3_10 x4_10 z_10 f_q1_10) v107 zp106)))))) ∧ (¬ v29 = (5 : Int32) → ((v29 = (6 : Int32) → (∀ v100 : Int32, v100 = ((v25).toUInt32 >>> (((3 : Int32)).toUInt32 &&& Int32.toUInt32 31)).toInt32 → (∀ v101 : Int32, v101 = ((v25).toUInt32 >>> (((7 : Int32)).toUInt32 &&& Int32.toUInt32 31)).toInt32 → (∀ zp102 : zG, zp102 = (zstep z_10 (oGrad z_10.1 ((v25 - v25 / (7 : Int32) * (7 : Int32))) ((v100 - v100 / (9 : Int32) * (9 : Int32))) ((v101 - v101 / (22 : Int32) * (22 : Int32))))).2.2 → (∀ v103 : Int32, v103 = (zv (zstep z_10 (oGrad z_10.1 ((v25 - v25 / (7 : Int32) * (7 : Int32))) ((v100 - v100 / (9 : Int32) * (9 : Int32))) ((v101 - v101 / (22 : Int32) * (22 : Int32))))) [(-1), (-2), (-3)]) → (jL_undone_403 x3_10 x4_10 f28 Q (fun x3_10 x4_10 z_10 f_q1_10 => lL_undone_10 L xs Q K10 n10 x3_10 x4_10 z_10 f_q1_10) v103 zp102)))))) ∧ (¬ v29 = (6 : Int32) → ((v29 = (7 : Int32) → (∀ zp98 : zG, zp98 = (zstep z_10 (oThr z_10.1 ((v25 - v25 / (22 : Int32) * (22 : Int32))))).2.2 → (∀ v99 : Int32, v99 = (zv (zstep z_10 (oThr z_10.1 ((v25 - v25 / (22 : Int32) * (22 : Int32))))) [(-1)]) → (jL_undone_403 x3_10 x4_10 f28 Q (fun x3_10 x4_10 z_10 f_q1_10 => lL_undone_10 L xs Q K10 n10 x3_10 x4_10 z_10 f_q1_10) v99 zp98)))) ∧ (¬ v29 = (7 : Int32) → ((v29 = (8 : Int32) → (∀ zp96 : zG, zp96 = (zstep z_10 (oApp z_10.1 ((v25 - v25 / (9 : Int32) * (9 : Int32))))).2.2 → (∀ v97 : Int32, v97 = (zv (zstep z_10 (oApp z_10.1 ((v25 - v25 / (9 : Int32) * (9 : Int32))))) [(-1), (-2), (-3)]) → (jL_undone_403 x3_10 x4_10 f28 Q (fun x3_10 x4_10 z_10 f_q1_10 => lL_undone_10 L xs Q K10 n10 x3_10 x4_10 z_10 f_q1_10) v97 zp96)))) ∧ (¬ v29 = (8 : Int32) → ((v29 = (9 : Int32) → (((v25 - v25 / (2 : Int32) * (2 : Int32)) = 0 → (∀ v93 : Int32, v93 = ((v25).toUInt32 >>> (((1 : Int32)).toUInt32 &&& Int32.toUInt32 31)).toInt32 → (∀ zp94 : zG, zp94 = (zstep z_10 (oAw z_10.1 ((v93 - v93 / (9 : Int32) * (9 : Int32))))).2.2 → (∀ v95 : Int32, v95 = (zv (zstep z_10 (oAw z_10.1 ((v93 - v93 / (9 : Int32) * (9 : Int32))))) [(-1), (-2), (-3)]) → (jL_undone_403 x3_10 x4_10 f28 Q (fun x3_10 x4_10 z_10 f_q1_10 => lL_undone_10 L xs Q K10 n10 x3_10 x4_10 z_10 f_q1_10) v95 zp94))))) ∧ (¬ (v25 - v25 / (2 : Int32) * (2 : Int32)) = 0 → (∀ v90 : Int32, v90 = ((v25).toUInt32 >>> (((1 : Int32)).toUInt32 &&& Int32.toUInt32 31)).toInt32 → (∀ zp91 : zG, zp91 = (zstep z_10 (oRev z_10.1 ((v90 - v90 / (4 : Int32) * (4 : Int32))))).2.2 → (∀ v92 : Int32, v92 = (zv (zstep z_10 (oRev z_10.1 ((v90 - v90 / (4 : Int32) * (4 : Int32))))) [(-1), (-2)]) → (jL_undone_403 x3_10 x4_10 f28 Q (fun x3_10 x4_10 z_10 f_q1_10 => lL_undone_10 L xs Q K10 n10 x3_10 x4_10 z_10 f_q1_10) v92 zp91))))))) ∧ (¬ v29 = (9 : Int32) → (ztx ([] ++ (zsb 15)) ∧ (∃ n59 : Nat, (n59 < 100 ∧ (v25 - v25 / (21 : Int32) * (21 : Int32)) = nI n59 ∧ ztx (([] ++ zsb 15) ++ zdec n59)) ∧ (ztx ((([] ++ zsb 15) ++ zdec n59) ++ (zsb 16)) ∧ (∀ v63 : Int32, v63 = ((v25).toUInt32 >>> (((5 : Int32)).toUInt32 &&& Int32.toUInt32 31)).toInt32 → (∃ n67 : Nat, (n67 < 100 ∧ (v63 - v63 / (6 : Int32) * (6 : Int32)) = nI n67 ∧ ztx (((([] ++ zsb 15) ++ zdec n59) ++ zsb 16) ++ zdec n67)) ∧ (ztx ((((([] ++ zsb 15) ++ zdec n59) ++ zsb 16) ++ zdec n67) ++ (zsb 11)) ∧ (∀ v71 : Int32, v71 = ((v25).toUInt32 >>> (((8 : Int32)).toUInt32 &&& Int32.toUInt32 31)).toInt32 → (∃ n75 : Nat, (n75 < 100 ∧ (v71 - v71 / (8 : Int32) * (8 : Int32)) = nI n75 ∧ ztx (((((([] ++ zsb 15) ++ zdec n59) ++ zsb 16) ++ zdec n67) ++ zsb 11) ++ zdec n75)) ∧ (ztx ((((((([] ++ zsb 15) ++ zdec n59) ++ zsb 16) ++ zdec n67) ++ zsb 11) ++ zdec n75) ++ (zsb 17)) ∧ (∀ v79 : Int32, v79 = ((v25).toUInt32 >>> (((12 : Int32)).toUInt32 &&& Int32.toUInt32 31)).toInt32 → (∃ n83 : Nat, (n83 < 100 ∧ (v79 - v79 / (8 : Int32) * (8 : Int32)) = nI n83 ∧ ztx (((((((([] ++ zsb 15) ++ zdec n59) ++ zsb 16) ++ zdec n67) ++ zsb 11) ++ zdec n75) ++ zsb 17) ++ zdec n83)) ∧ (ztx (((((((([] ++ zsb 15) ++ zdec n59) ++ zsb 16) ++ zdec n67) ++ zsb 11) ++ zdec n75) ++ zsb 17) ++ zdec n83) ∧ (ztx (((((((([] ++ zsb 15) ++ zdec n59) ++ zsb 16) ++ zdec n67) ++ zsb 11) ++ zdec n75) ++ zsb 17) ++ zdec n83) ∧ (wT_run ((((((((([] ++ zsb 15) ++ zdec n59) ++ zsb 16) ++ zdec n67) ++ zsb 11) ++ zdec n75) ++ zsb 17) ++ zdec n83))  z_10 (fun r86 zp87 => jL_undone_403 x3_10 x4_10 f28 Q (fun x3_10 x4_10 z_10 f_q1_10 => lL_undone_10 L xs Q K10 n10 x3_10 x4_10 z_10 f_q1_10) r86 zp87)))))))))))))))))))))))))))))))))))))))))))
def wL_undone  (L : Nat) (xs : Nat → Int32) (z : zG) (Q : Int32 → zG → Prop) : Prop :=
  lL_undone_10 L xs Q (fun x3_10k z_10k f_q1_10k => ∀ v4 : Int32, v4 = (x3_10k - (1 : Int32)) → (lL_undone_445 f_q1_10k Q (fun z_445k => Q (1 : Int32) z_445k) 8 v4 z_10k)) 8 (0 : Int32) (0 : Int32) z (fun _ => 0)
theorem cs_L_undone : sw_cS yL_undone cL_undone 8 (some .boolean) 2 := ⟨q_1062, q_1, q_1063, by decide +kernel⟩
set_option maxRecDepth 20000 in
set_option maxHeartbeats 4000000 in
theorem kL_undone (l : Launch) (hst : l.stackTraces = false) (g : sG)  (b L : Nat) (xs : Nat → Int32) (z : zG) (Q : Int32 → zG → Prop) (h : wL_undone  L xs z Q) : Met l yL_undone (sw_ws yL_undone cL_undone 8 (some .boolean)) { frames := 11, cells := 12377, slots := 82585, locals := 242 } (va_Pc [.ref b, .ref (sw_ad g 0)] (zl_Ps g z b L xs)) (va_Qi Q (zl_Po g) (sw_A g)) 12377 82585 (sw_A g) := by
  refine zl_mets (by decide) (Nat.le_of_ble_eq_true rfl) ?_
  intro p e s m args below meth c ls hx hb hr hts hown hml hlocks hsc hW hl
  have hown : s.vm.findClass RL = some m.cls := hown
  have hl : lv_has ls 8 [(0, .ref b), (1, .ref (sw_ad g 0))] := hl
  obtain ⟨R, hRe⟩ : ∃ R : Room, R = { frames := 11, cells := 12377, slots := 82585, locals := 242 } := ⟨_, rfl⟩
  rw [← hRe]
  have hRf : R.frames = 11 := by rw [hRe]
  have hRc : R.cells = 12377 := by rw [hRe]
  have hRs : R.slots = 82585 := by rw [hRe]
  have hRl : R.locals = 242 := by rw [hRe]
  clear hRe
  have gc0 : 0 + 12377 ≤ R.cells := by rw [hRc]; exact (Nat.le_of_ble_eq_true rfl)
  have gs0 : 0 + 82585 ≤ R.slots := by rw [hRs]; exact (Nat.le_of_ble_eq_true rfl)
  obtain ⟨Q0, hQ0⟩ : ∃ Q0 : State → Prop, Q0 = MQ below (va_Qi Q (zl_Po g) (sw_A g)) args s 12377 82585 (sw_A g) := ⟨_, rfl⟩
  rw [← hQ0]
  generalize hHs : s.heap = H at hW ⊢
  generalize hLo : ([] : List Loc) = locs at hW ⊢
  unfold wL_undone at h
  refine lv_bipush (v := 9) hx hb dL_undone_0 (by decide) ?_
  refine zl_newa (g := g) hx hb hts (atype := .long) qa_long 5 rfl rfl hW (a0 := (9, .inr (.inl (fun _ => 0)))) (fun _ => rfl) (by decide) (by decide) (by decide) (zc1 (D := 1) gc0 (Nat.le_of_ble_eq_true rfl)) (zc1 (D := 9) gs0 (Nat.le_of_ble_eq_true rfl)) dL_undone_2 (fun q1 H hW => ?_)
  have hW : zl_Wd g [(q1, .inl (sw_ac g 5, 9, .inr (.inl (fun _ => 0))))] z s H locs := hW
  refine lv_astore_n (lv' := [(2, .ref q1), (0, .ref b), (1, .ref (sw_ad g 0))]) hx hb dL_undone_4 rfl hl (Nat.le_of_ble_eq_true rfl) rfl (fun ls hl => ?_)
  refine lv_iconst (v := 0) hx hb dL_undone_5 (by decide) ?_
  refine lv_istore_n (lv' := [(3, .int (0 : Int32)), (2, .ref q1), (0, .ref b), (1, .ref (sw_ad g 0))]) hx hb dL_undone_6 rfl hl (Nat.le_of_ble_eq_true rfl) rfl (fun ls hl => ?_)
  refine lv_iconst (v := 0) hx hb dL_undone_7 (by decide) ?_
  refine lv_istore (lv' := [(4, .int (0 : Int32)), (3, .int (0 : Int32)), (2, .ref q1), (0, .ref b), (1, .ref (sw_ad g 0))]) hx hb dL_undone_8 hl (Nat.le_of_ble_eq_true rfl) rfl (fun ls hl => ?_)
  obtain ⟨CL10, hCL10⟩ : ∃ n : Nat, n = 0 + 1 + 8480 := ⟨_, rfl⟩
  obtain ⟨SL10, hSL10⟩ : ∃ n : Nat, n = 0 + 9 + 59200 := ⟨_, rfl⟩
  have hX10 : ∀ (x3_10k : Int32) (z_10k : zG) (f_q1_10k : (Nat → Int64))  (H : Heap) (locs : List Loc) (ls : Array Slot) (cx10 sx10 : Nat), (∀ v4 : Int32, v4 = (x3_10k - (1 : Int32)) → (lL_undone_445 f_q1_10k Q (fun z_445k => Q (1 : Int32) z_445k) 8 v4 z_10k)) → cx10 ≤ CL10 → sx10 ≤ SL10 → zl_Wd g [(q1, .inl (sw_ac g 5, 9, .inr (.inl f_q1_10k)))] z_10k s H locs → lv_has ls 8 [(1, .ref (sw_ad g 0)), (2, .ref q1), (3, .int x3_10k)] → W p l e R s m args below meth c H locs cx10 sx10 Q0 (F0 m 440 ls []) := by
    intro x3_10k z_10k f_q1_10k  H locs ls cx10 sx10 h hcx10 hsx10 hW hl
    have g2 : cx10 + 3896 ≤ R.cells := zc8 (x := 0) (D := 8481) (s := 12377) (s' := 3896) hcx10 hCL10 gc0 (Nat.le_of_ble_eq_true rfl)
    have g3 : sx10 + 23376 ≤ R.slots := zc8 (x := 0) (D := 59209) (s := 82585) (s' := 23376) hsx10 hSL10 gs0 (Nat.le_of_ble_eq_true rfl)
    refine lv_iload_n hx hb dL_undone_440 rfl (lv_at hl 2 rfl) ?_
    refine lv_iconst (v := 1) hx hb dL_undone_441 (by decide) ?_
    refine lv_isub hx hb dL_undone_442 ?_
    refine lv_topi (fun v4 ev4 => ?_)
    replace h := h v4 ev4
    refine lv_istore (lv' := [(4, .int v4), (1, .ref (sw_ad g 0)), (2, .ref q1), (3, .int x3_10k)]) hx hb dL_undone_443 hl (Nat.le_of_ble_eq_true rfl) rfl (fun ls hl => ?_)
    obtain ⟨CL445, hCL445⟩ : ∃ n : Nat, n = cx10 + 3896 := ⟨_, rfl⟩
    obtain ⟨SL445, hSL445⟩ : ∃ n : Nat, n = sx10 + 23376 := ⟨_, rfl⟩
    have hX445 : ∀ (z_445k : zG)  (H : Heap) (locs : List Loc) (ls : Array Slot) (cx445 sx445 : Nat), (Q (1 : Int32) z_445k) → cx445 ≤ CL445 → sx445 ≤ SL445 → zl_Wd g [(q1, .inl (sw_ac g 5, 9, .inr (.inl f_q1_10k)))] z_445k s H locs → lv_has ls 8 [] → W p l e R s m args below meth c H locs cx445 sx445 Q0 (F0 m 477 ls []) := by
      intro z_445k  H locs ls cx445 sx445 h hcx445 hsx445 hW hl
      have g5 : cx445 + 0 ≤ R.cells := zc8 (x := cx10) (D := 3896) (s := 3896) (s' := 0) hcx445 hCL445 g2 (Nat.le_of_ble_eq_true rfl)
      have g6 : sx445 + 0 ≤ R.slots := zc8 (x := sx10) (D := 23376) (s := 23376) (s' := 0) hsx445 hSL445 g3 (Nat.le_of_ble_eq_true rfl)
      refine lv_iconst (v := 1) hx hb dL_undone_477 (by decide) ?_
      subst hQ0
      refine W.widen (k := 12377) (n := 82585) (Nat.le_trans (zc1 (D := 0) g5 (Nat.le_of_ble_eq_true rfl)) (Nat.le_of_eq hRc)) (Nat.le_trans (zc1 (D := 0) g6 (Nat.le_of_ble_eq_true rfl)) (Nat.le_of_eq hRs)) ?_
      exact zl_ri hx hb hr hlocks hW (by decide) h dL_undone_478
    have key445 : ∀ (n445 : Nat) (x4_445 : Int32) (z_445 : zG)  (H : Heap) (locs : List Loc) (ls : Array Slot) (cn445 sn445 : Nat), lL_undone_445 f_q1_10k Q (fun z_445k => Q (1 : Int32) z_445k) n445 x4_445 z_445 → cn445 + n445 * 487 ≤ CL445 → sn445 + n445 * 2922 ≤ SL445 → zl_Wd g [(q1, .inl (sw_ac g 5, 9, .inr (.inl f_q1_10k)))] z_445 s H locs → lv_has ls 8 [(1, .ref (sw_ad g 0)), (2, .ref q1), (4, .int x4_445)] → W p l e R s m args below meth c H locs cn445 sn445 Q0 (F0 m 445 ls []) := by
      intro n445
      induction n445 with
      | zero =>
        intro x4_445 z_445  H locs ls cn445 sn445 h
        exact False.elim h
      | succ n445 ih445 =>
        intro x4_445 z_445  H locs ls cn445 sn445 h hcn445 hsn445 hW hl
        rw [lL_undone_445.eq_2] at h
        obtain ⟨Tcn445, hTcn445⟩ : ∃ n : Nat, n = cn445 + 487 := ⟨_, rfl⟩
        obtain ⟨Tsn445, hTsn445⟩ : ∃ n : Nat, n = sn445 + 2922 := ⟨_, rfl⟩
        have g7 : cn445 + 487 ≤ Tcn445 := Nat.le_of_eq hTcn445.symm
        have g8 : sn445 + 2922 ≤ Tsn445 := Nat.le_of_eq hTsn445.symm
        have g9 : cn445 + 487 ≤ R.cells := zc9 (x := cx10) (D := 3896) (s := 3896) (t := 487) hcn445 hCL445 g2 (Nat.le_of_ble_eq_true rfl)
        have g10 : sn445 + 2922 ≤ R.slots := zc9 (x := sx10) (D := 23376) (s := 23376) (t := 2922) hsn445 hSL445 g3 (Nat.le_of_ble_eq_true rfl)
        refine lv_iload hx hb dL_undone_445 (lv_at hl 2 rfl) ?_
        refine lv_if_lt (tgt := 477) hx hb dL_undone_447 (by decide) (fun k11 => ?_) (fun k11 => ?_)
        · replace h := h.1 k11
          exact hX445 z_445 _ _ _ _ _ h (zc11 (zc1 (D := 0) g7 (Nat.le_of_ble_eq_true rfl)) hTcn445 hcn445) (zc11 (zc1 (D := 0) g8 (Nat.le_of_ble_eq_true rfl)) hTsn445 hsn445) hW (lv_sub hl [] rfl)
        · replace h := h.2 k11
          refine lv_aload_n hx hb dL_undone_450 rfl (lv_at hl 0 rfl) ?_
          refine zl_ki (g := g) (rest := []) (zl_runH (g := g) (As := [.ref (sw_ad g 0)]) (rest := []) hx hb hml hown hts (kL_undo l hst (zl_re g H.size) z_445 ) ch_L_undo q_1143 rfl rfl ⟨by rw [hRf]; exact (Nat.le_of_ble_eq_true rfl), by rw [hRl]; exact (Nat.le_of_ble_eq_true rfl)⟩ hW rfl hl.1 rfl (Nat.le_of_ble_eq_true rfl) dL_undone_451 ⟨(zc1 (D := 1) g9 (Nat.le_of_ble_eq_true rfl)), (zc1 (D := 6) g10 (Nat.le_of_ble_eq_true rfl))⟩) hW (fun r9 z9 H locs h9 hW => ?_)
          obtain ⟨rfl, e9⟩ := h9
          replace h := h z9 e9
          obtain ⟨zp12, ezp12⟩ : ∃ z : zG, z = z9 := ⟨_, rfl⟩
          rw [← ezp12] at h hW
          refine lv_if_lt (tgt := 469) hx hb dL_undone_454 (by decide) (fun k13 => ?_) (fun k13 => ?_)
          · replace h := h.1 k13
            refine lv_iconst (v := 0) hx hb dL_undone_469 (by decide) ?_
            subst hQ0
            refine W.widen (k := 12377) (n := 82585) (Nat.le_trans (zc1 (D := 1) g9 (Nat.le_of_ble_eq_true rfl)) (Nat.le_of_eq hRc)) (Nat.le_trans (zc1 (D := 6) g10 (Nat.le_of_ble_eq_true rfl)) (Nat.le_of_eq hRs)) ?_
            exact zl_ri hx hb hr hlocks hW (by decide) h dL_undone_470
          · replace h := h.2 k13
            refine lv_aload_n hx hb dL_undone_457 rfl (lv_at hl 0 rfl) ?_
            refine zl_kl (g := g) (rest := []) (zl_runS (g := g) (As := [.ref (sw_ad g 0)]) (rest := []) hx hb hml hown hts (kL_sum l hst (zl_re g H.size)  zp12 _ h) cs_L_sum q_1064 rfl rfl ⟨by rw [hRf]; exact (Nat.le_of_ble_eq_true rfl), by rw [hRl]; exact (Nat.le_of_ble_eq_true rfl)⟩ hW rfl hl.1 rfl (Nat.le_of_ble_eq_true rfl) dL_undone_458 ⟨(zc1 (D := 487) g9 (Nat.le_of_ble_eq_true rfl)), (zc1 (D := 2922) g10 (Nat.le_of_ble_eq_true rfl))⟩) hW (fun r14 z9 H locs h hW => ?_)
            obtain ⟨h, e9⟩ := h
            rw [e9] at hW
            refine lv_aload_n hx hb dL_undone_461 rfl (lv_at hl 1 rfl) ?_
            refine lv_iload hx hb dL_undone_462 (lv_at hl 2 rfl) ?_
            have b15 := h.1
            replace h := h.2
            refine zl_la (N := 9) hx hb hW 0 rfl b15 dL_undone_464 ?_
            refine W.lcmp hx hb dL_undone_465 ?_
            refine lv_if_eq (tgt := 471) hx hb dL_undone_466 (by decide) (fun k16 => ?_) (fun k16 => ?_)
            · replace h := h.1 k16
              obtain ⟨v17, ev17⟩ : ∃ z : Int32, z = x4_445 + (-1 : Int32) := ⟨_, rfl⟩
              replace h := h v17 ev17
              refine lv_iinc (v := v17) (lv' := [(4, .int v17), (1, .ref (sw_ad g 0)), (2, .ref q1)]) hx hb dL_undone_471 hl (k := 2) rfl (by rw [ev17]; rfl) (Nat.le_of_ble_eq_true rfl) rfl (fun ls hl => ?_)
              refine lv_goto (tgt := 445) hx hb dL_undone_474 (by decide) ?_
              exact ih445 v17 zp12 _ _ _ _ _ h (zc10 (zc1 (D := 487) g7 (Nat.le_of_ble_eq_true rfl)) hTcn445 hcn445) (zc10 (zc1 (D := 2922) g8 (Nat.le_of_ble_eq_true rfl)) hTsn445 hsn445) hW (lv_sub hl [1, 2, 0] rfl)
            · replace h := h.2 k16
              refine lv_iconst (v := 0) hx hb dL_undone_469 (by decide) ?_
              subst hQ0
              refine W.widen (k := 12377) (n := 82585) (Nat.le_trans (zc1 (D := 487) g9 (Nat.le_of_ble_eq_true rfl)) (Nat.le_of_eq hRc)) (Nat.le_trans (zc1 (D := 2922) g10 (Nat.le_of_ble_eq_true rfl)) (Nat.le_of_eq hRs)) ?_
              exact zl_ri hx hb hr hlocks hW (by decide) h dL_undone_470
    exact key445 8 v4 z_10k _ _ _ _ _ h (Nat.le_of_eq hCL445.symm) (Nat.le_of_eq hSL445.symm) hW (lv_sub hl [1, 2, 0] rfl)
  have key10 : ∀ (n10 : Nat) (x3_10 : Int32) (x4_10 : Int32) (z_10 : zG) (f_q1_10 : (Nat → Int64))  (H : Heap) (locs : List Loc) (ls : Array Slot) (cn10 sn10 : Nat), lL_undone_10 L xs Q (fun x3_10k z_10k f_q1_10k => ∀ v4 : Int32, v4 = (x3_10k - (1 : Int32)) → (lL_undone_445 f_q1_10k Q (fun z_445k => Q (1 : Int32) z_445k) 8 v4 z_10k)) n10 x3_10 x4_10 z_10 f_q1_10 → cn10 + n10 * 1060 ≤ CL10 → sn10 + n10 * 7400 ≤ SL10 → zl_Wd g [(q1, .inl (sw_ac g 5, 9, .inr (.inl f_q1_10)))] z_10 s H locs → lv_has ls 8 [(0, .ref b), (1, .ref (sw_ad g 0)), (2, .ref q1), (3, .int x3_10), (4, .int x4_10)] → W p l e R s m args below meth c H locs cn10 sn10 Q0 (F0 m 10 ls []) := by
    intro n10
    induction n10 with
    | zero =>
      intro x3_10 x4_10 z_10 f_q1_10  H locs ls cn10 sn10 h
      exact False.elim h
    | succ n10 ih10 =>
      intro x3_10 x4_10 z_10 f_q1_10  H locs ls cn10 sn10 h hcn10 hsn10 hW hl
      rw [lL_undone_10.eq_2] at h
      obtain ⟨Tcn10, hTcn10⟩ : ∃ n : Nat, n = cn10 + 1060 := ⟨_, rfl⟩
      obtain ⟨Tsn10, hTsn10⟩ : ∃ n : Nat, n = sn10 + 7400 := ⟨_, rfl⟩
      have g18 : cn10 + 1060 ≤ Tcn10 := Nat.le_of_eq hTcn10.symm
      have g19 : sn10 + 7400 ≤ Tsn10 := Nat.le_of_eq hTsn10.symm
      have g20 : cn10 + 4956 ≤ R.cells := zc9 (x := 0) (D := 8481) (s := 12377) (t := 4956) hcn10 hCL10 gc0 (Nat.le_of_ble_eq_true rfl)
      have g21 : sn10 + 30776 ≤ R.slots := zc9 (x := 0) (D := 59209) (s := 82585) (t := 30776) hsn10 hSL10 gs0 (Nat.le_of_ble_eq_true rfl)
      refine lv_iload hx hb dL_undone_10 (lv_at hl 4 rfl) ?_
      refine lv_bipush (v := 7) hx hb dL_undone_12 (by decide) ?_
      refine lv_icmp_ge (tgt := 440) hx hb dL_undone_14 (by decide) (fun k22 => ?_) (fun k22 => ?_)
      · replace h := h.1 k22
        exact hX10 x3_10 z_10 f_q1_10 _ _ _ _ _ h (zc11 (zc1 (D := 0) g18 (Nat.le_of_ble_eq_true rfl)) hTcn10 hcn10) (zc11 (zc1 (D := 0) g19 (Nat.le_of_ble_eq_true rfl)) hTsn10 hsn10) hW (lv_sub hl [1, 2, 3] rfl)
      · replace h := h.2 k22
        refine lv_aload_n hx hb dL_undone_17 rfl (lv_at hl 0 rfl) ?_
        refine lv_bipush (v := 33) hx hb dL_undone_18 (by decide) ?_
        refine lv_iload hx hb dL_undone_20 (lv_at hl 4 rfl) ?_
        refine lv_iadd hx hb dL_undone_22 ?_
        refine zl_ki (g := g) (rest := []) (zl_runSs (g := g) (As := [.ref b, .int ((33 : Int32) + x4_10)]) (rest := []) hx hb hml hown hts (kL_cell l hst (zl_re g H.size) (((33 : Int32) + x4_10)) b L xs z_10 _ h) cs_L_cell q_160 rfl rfl ⟨by rw [hRf]; exact (Nat.le_of_ble_eq_true rfl), by rw [hRl]; exact (Nat.le_of_ble_eq_true rfl)⟩ hW hsc rfl hl.1 rfl (Nat.le_of_ble_eq_true rfl) dL_undone_23 ⟨(zc1 (D := 0) g20 (Nat.le_of_ble_eq_true rfl)), (zc1 (D := 0) g21 (Nat.le_of_ble_eq_true rfl))⟩) hW (fun r23 z9 H locs h hW => ?_)
        obtain ⟨h, e9⟩ := h
        rw [e9] at hW
        refine lv_iconst (v := 1) hx hb dL_undone_26 (by decide) ?_
        refine lv_iushr hx hb dL_undone_27 rfl ?_
        refine lv_topi (fun v24 ev24 => ?_)
        replace h := h v24 ev24
        refine lv_istore (lv' := [(5, .int v24), (0, .ref b), (1, .ref (sw_ad g 0)), (2, .ref q1), (3, .int x3_10), (4, .int x4_10)]) hx hb dL_undone_28 hl (Nat.le_of_ble_eq_true rfl) rfl (fun ls hl => ?_)
        refine lv_iload hx hb dL_undone_30 (lv_at hl 0 rfl) ?_
        refine lv_iconst (v := 4) hx hb dL_undone_32 (by decide) ?_
        refine lv_iushr hx hb dL_undone_33 rfl ?_
        refine lv_topi (fun v25 ev25 => ?_)
        replace h := h v25 ev25
        refine lv_istore (lv' := [(6, .int v25), (5, .int v24), (0, .ref b), (1, .ref (sw_ad g 0)), (2, .ref q1), (3, .int x3_10), (4, .int x4_10)]) hx hb dL_undone_34 hl (Nat.le_of_ble_eq_true rfl) rfl (fun ls hl => ?_)
        refine lv_aload_n hx hb dL_undone_36 rfl (lv_at hl 4 rfl) ?_
        refine lv_iload_n hx hb dL_undone_37 rfl (lv_at hl 5 rfl) ?_
        refine lv_aload_n hx hb dL_undone_38 rfl (lv_at hl 3 rfl) ?_
        refine zl_kl (g := g) (rest := [.int x3_10, .ref q1]) (zl_runS (g := g) (As := [.ref (sw_ad g 0)]) (rest := [.int x3_10, .ref q1]) hx hb hml hown hts (kL_sum l hst (zl_re g H.size)  z_10 _ h) cs_L_sum q_1064 rfl rfl ⟨by rw [hRf]; exact (Nat.le_of_ble_eq_true rfl), by rw [hRl]; exact (Nat.le_of_ble_eq_true rfl)⟩ hW rfl hl.1 rfl (Nat.le_of_ble_eq_true rfl) dL_undone_39 ⟨(zc1 (D := 486) g20 (Nat.le_of_ble_eq_true rfl)), (zc1 (D := 2916) g21 (Nat.le_of_ble_eq_true rfl))⟩) hW (fun r26 z9 H locs h hW => ?_)
        obtain ⟨h, e9⟩ := h
        rw [e9] at hW
        have b27 := h.1
        replace h := h.2
        obtain ⟨f28, ef28⟩ : ∃ z : (Nat → Int64), z = vp_updL f_q1_10 (x3_10).toNatClampNeg r26 := ⟨_, rfl⟩
        replace h := h f28 ef28
        refine zl_ls (N := 9) hx hb hW 0 rfl b27 dL_undone_42 (fun H locs hW => ?_)
        rw [← ef28] at hW
        have hW : zl_Wd g [(q1, .inl (sw_ac g 5, 9, .inr (.inl f28)))] z_10 s H locs := hW
        refine lv_iload hx hb dL_undone_43 (lv_at hl 1 rfl) ?_
        refine lv_bipush (v := 11) hx hb dL_undone_45 (by decide) ?_
        refine lv_irem hx hb dL_undone_47 (by decide) ?_
        refine lv_topi (fun v29 ev29 => ?_)
        replace h := h v29 ev29
        obtain ⟨CJ403, hCJ403⟩ : ∃ n : Nat, n = cn10 + 0 + 486 + 88 := ⟨_, rfl⟩
        obtain ⟨SJ403, hSJ403⟩ : ∃ n : Nat, n = sn10 + 0 + 2916 + 1568 := ⟨_, rfl⟩
        have hJ403 : ∀ (x7_403 : Int32) (z_403 : zG) (H : Heap) (locs : List Loc) (ls : Array Slot) (cj403 sj403 : Nat), jL_undone_403 x3_10 x4_10 f28 Q (fun x3_10 x4_10 z_10 f_q1_10 => lL_undone_10 L xs Q (fun x3_10k z_10k f_q1_10k => ∀ v4 : Int32, v4 = (x3_10k - (1 : Int32)) → (lL_undone_445 f_q1_10k Q (fun z_445k => Q (1 : Int32) z_445k) 8 v4 z_10k)) n10 x3_10 x4_10 z_10 f_q1_10) x7_403 z_403 → cj403 ≤ CJ403 → sj403 ≤ SJ403 → zl_Wd g [(q1, .inl (sw_ac g 5, 9, .inr (.inl f28)))] z_403 s H locs → lv_has ls 8 [(0, .ref b), (1, .ref (sw_ad g 0)), (2, .ref q1), (3, .int x3_10), (4, .int x4_10), (7, .int x7_403)] → W p l e R s m args below meth c H locs cj403 sj403 Q0 (F0 m 403 ls []) := by
          intro x7_403 z_403 H locs ls cj403 sj403 h hcj403 hsj403 hW hl
          unfold jL_undone_403 at h
          have g30 : cj403 + 4382 ≤ R.cells := zc8 (x := cn10) (D := 574) (s := 4956) (s' := 4382) hcj403 hCJ403 g20 (Nat.le_of_ble_eq_true rfl)
          have g31 : cj403 + 486 ≤ Tcn10 := zc8 (x := cn10) (D := 574) (s := 1060) (s' := 486) hcj403 hCJ403 g18 (Nat.le_of_ble_eq_true rfl)
          have g32 : sj403 + 26292 ≤ R.slots := zc8 (x := sn10) (D := 4484) (s := 30776) (s' := 26292) hsj403 hSJ403 g21 (Nat.le_of_ble_eq_true rfl)
          have g33 : sj403 + 2916 ≤ Tsn10 := zc8 (x := sn10) (D := 4484) (s := 7400) (s' := 2916) hsj403 hSJ403 g19 (Nat.le_of_ble_eq_true rfl)
          refine lv_iload hx hb dL_undone_403 (lv_at hl 5 rfl) ?_
          refine lv_if_ge (tgt := 421) hx hb dL_undone_405 (by decide) (fun k34 => ?_) (fun k34 => ?_)
          · replace h := h.1 k34
            refine lv_iload_n hx hb dL_undone_421 rfl (lv_at hl 3 rfl) ?_
            refine lv_iload hx hb dL_undone_422 (lv_at hl 5 rfl) ?_
            refine lv_if_ge (tgt := 431) hx hb dL_undone_424 (by decide) (fun k35 => ?_) (fun k35 => ?_)
            · replace h := h.1 k35
              refine lv_iconst (v := 1) hx hb dL_undone_431 (by decide) ?_
              refine lv_iadd hx hb dL_undone_432 ?_
              refine lv_topi (fun v36 ev36 => ?_)
              replace h := h v36 ev36
              refine lv_istore_n (lv' := [(3, .int v36), (0, .ref b), (1, .ref (sw_ad g 0)), (2, .ref q1), (4, .int x4_10), (7, .int x7_403)]) hx hb dL_undone_433 rfl hl (Nat.le_of_ble_eq_true rfl) rfl (fun ls hl => ?_)
              obtain ⟨v37, ev37⟩ : ∃ z : Int32, z = x4_10 + (1 : Int32) := ⟨_, rfl⟩
              replace h := h v37 ev37
              refine lv_iinc (v := v37) (lv' := [(4, .int v37), (3, .int v36), (0, .ref b), (1, .ref (sw_ad g 0)), (2, .ref q1), (7, .int x7_403)]) hx hb dL_undone_434 hl (k := 4) rfl (by rw [ev37]; rfl) (Nat.le_of_ble_eq_true rfl) rfl (fun ls hl => ?_)
              refine lv_goto (tgt := 10) hx hb dL_undone_437 (by decide) ?_
              exact ih10 v36 v37 z_403 f28 _ _ _ _ _ h (zc10 (zc1 (D := 0) g31 (Nat.le_of_ble_eq_true rfl)) hTcn10 hcn10) (zc10 (zc1 (D := 0) g33 (Nat.le_of_ble_eq_true rfl)) hTsn10 hsn10) hW (lv_sub hl [2, 3, 4, 1, 0] rfl)
            · replace h := h.2 k35
              refine lv_iconst (v := 0) hx hb dL_undone_427 (by decide) ?_
              refine lv_goto (tgt := 432) hx hb dL_undone_428 (by decide) ?_
              refine lv_iadd hx hb dL_undone_432 ?_
              refine lv_topi (fun v38 ev38 => ?_)
              replace h := h v38 ev38
              refine lv_istore_n (lv' := [(3, .int v38), (0, .ref b), (1, .ref (sw_ad g 0)), (2, .ref q1), (4, .int x4_10), (7, .int x7_403)]) hx hb dL_undone_433 rfl hl (Nat.le_of_ble_eq_true rfl) rfl (fun ls hl => ?_)
              obtain ⟨v39, ev39⟩ : ∃ z : Int32, z = x4_10 + (1 : Int32) := ⟨_, rfl⟩
              replace h := h v39 ev39
              refine lv_iinc (v := v39) (lv' := [(4, .int v39), (3, .int v38), (0, .ref b), (1, .ref (sw_ad g 0)), (2, .ref q1), (7, .int x7_403)]) hx hb dL_undone_434 hl (k := 4) rfl (by rw [ev39]; rfl) (Nat.le_of_ble_eq_true rfl) rfl (fun ls hl => ?_)
              refine lv_goto (tgt := 10) hx hb dL_undone_437 (by decide) ?_
              exact ih10 v38 v39 z_403 f28 _ _ _ _ _ h (zc10 (zc1 (D := 0) g31 (Nat.le_of_ble_eq_true rfl)) hTcn10 hcn10) (zc10 (zc1 (D := 0) g33 (Nat.le_of_ble_eq_true rfl)) hTsn10 hsn10) hW (lv_sub hl [2, 3, 4, 1, 0] rfl)
          · replace h := h.2 k34
            refine lv_aload_n hx hb dL_undone_408 rfl (lv_at hl 1 rfl) ?_
            refine zl_kl (g := g) (rest := []) (zl_runS (g := g) (As := [.ref (sw_ad g 0)]) (rest := []) hx hb hml hown hts (kL_sum l hst (zl_re g H.size)  z_403 _ h) cs_L_sum q_1064 rfl rfl ⟨by rw [hRf]; exact (Nat.le_of_ble_eq_true rfl), by rw [hRl]; exact (Nat.le_of_ble_eq_true rfl)⟩ hW rfl hl.1 rfl (Nat.le_of_ble_eq_true rfl) dL_undone_409 ⟨(zc1 (D := 486) g30 (Nat.le_of_ble_eq_true rfl)), (zc1 (D := 2916) g32 (Nat.le_of_ble_eq_true rfl))⟩) hW (fun r40 z9 H locs h hW => ?_)
            obtain ⟨h, e9⟩ := h
            rw [e9] at hW
            refine lv_aload_n hx hb dL_undone_412 rfl (lv_at hl 2 rfl) ?_
            refine lv_iload_n hx hb dL_undone_413 rfl (lv_at hl 3 rfl) ?_
            have b41 := h.1
            replace h := h.2
            refine zl_la (N := 9) hx hb hW 0 rfl b41 dL_undone_414 ?_
            refine W.lcmp hx hb dL_undone_415 ?_
            refine lv_if_eq (tgt := 421) hx hb dL_undone_416 (by decide) (fun k42 => ?_) (fun k42 => ?_)
            · replace h := h.1 k42
              refine lv_iload_n hx hb dL_undone_421 rfl (lv_at hl 3 rfl) ?_
              refine lv_iload hx hb dL_undone_422 (lv_at hl 5 rfl) ?_
              refine lv_if_ge (tgt := 431) hx hb dL_undone_424 (by decide) (fun k43 => ?_) (fun k43 => ?_)
              · replace h := h.1 k43
                refine lv_iconst (v := 1) hx hb dL_undone_431 (by decide) ?_
                refine lv_iadd hx hb dL_undone_432 ?_
                refine lv_topi (fun v44 ev44 => ?_)
                replace h := h v44 ev44
                refine lv_istore_n (lv' := [(3, .int v44), (0, .ref b), (1, .ref (sw_ad g 0)), (2, .ref q1), (4, .int x4_10), (7, .int x7_403)]) hx hb dL_undone_433 rfl hl (Nat.le_of_ble_eq_true rfl) rfl (fun ls hl => ?_)
                obtain ⟨v45, ev45⟩ : ∃ z : Int32, z = x4_10 + (1 : Int32) := ⟨_, rfl⟩
                replace h := h v45 ev45
                refine lv_iinc (v := v45) (lv' := [(4, .int v45), (3, .int v44), (0, .ref b), (1, .ref (sw_ad g 0)), (2, .ref q1), (7, .int x7_403)]) hx hb dL_undone_434 hl (k := 4) rfl (by rw [ev45]; rfl) (Nat.le_of_ble_eq_true rfl) rfl (fun ls hl => ?_)
                refine lv_goto (tgt := 10) hx hb dL_undone_437 (by decide) ?_
                exact ih10 v44 v45 z_403 f28 _ _ _ _ _ h (zc10 (zc1 (D := 486) g31 (Nat.le_of_ble_eq_true rfl)) hTcn10 hcn10) (zc10 (zc1 (D := 2916) g33 (Nat.le_of_ble_eq_true rfl)) hTsn10 hsn10) hW (lv_sub hl [2, 3, 4, 1, 0] rfl)
              · replace h := h.2 k43
                refine lv_iconst (v := 0) hx hb dL_undone_427 (by decide) ?_
                refine lv_goto (tgt := 432) hx hb dL_undone_428 (by decide) ?_
                refine lv_iadd hx hb dL_undone_432 ?_
                refine lv_topi (fun v46 ev46 => ?_)
                replace h := h v46 ev46
                refine lv_istore_n (lv' := [(3, .int v46), (0, .ref b), (1, .ref (sw_ad g 0)), (2, .ref q1), (4, .int x4_10), (7, .int x7_403)]) hx hb dL_undone_433 rfl hl (Nat.le_of_ble_eq_true rfl) rfl (fun ls hl => ?_)
                obtain ⟨v47, ev47⟩ : ∃ z : Int32, z = x4_10 + (1 : Int32) := ⟨_, rfl⟩
                replace h := h v47 ev47
                refine lv_iinc (v := v47) (lv' := [(4, .int v47), (3, .int v46), (0, .ref b), (1, .ref (sw_ad g 0)), (2, .ref q1), (7, .int x7_403)]) hx hb dL_undone_434 hl (k := 4) rfl (by rw [ev47]; rfl) (Nat.le_of_ble_eq_true rfl) rfl (fun ls hl => ?_)
                refine lv_goto (tgt := 10) hx hb dL_undone_437 (by decide) ?_
                exact ih10 v46 v47 z_403 f28 _ _ _ _ _ h (zc10 (zc1 (D := 486) g31 (Nat.le_of_ble_eq_true rfl)) hTcn10 hcn10) (zc10 (zc1 (D := 2916) g33 (Nat.le_of_ble_eq_true rfl)) hTsn10 hsn10) hW (lv_sub hl [2, 3, 4, 1, 0] rfl)
            · replace h := h.2 k42
              refine lv_iconst (v := 0) hx hb dL_undone_419 (by decide) ?_
              subst hQ0
              refine W.widen (k := 12377) (n := 82585) (Nat.le_trans (zc1 (D := 486) g30 (Nat.le_of_ble_eq_true rfl)) (Nat.le_of_eq hRc)) (Nat.le_trans (zc1 (D := 2916) g32 (Nat.le_of_ble_eq_true rfl)) (Nat.le_of_eq hRs)) ?_
              exact zl_ri hx hb hr hlocks hW (by decide) h dL_undone_420
        have g48 : cn10 + 574 ≤ CJ403 := Nat.le_of_eq hCJ403.symm
        have g49 : sn10 + 4484 ≤ SJ403 := Nat.le_of_eq hSJ403.symm
        by_cases k88_0 : v29 = (0 : Int32)
        · replace h := h.1 k88_0
          refine lv_tableIn (tgt := 104) hx hb dL_undone_48 (by rw [k88_0]; decide) (by rw [k88_0]; decide) (by rw [k88_0]; rfl) (by decide) ?_
          refine lv_iload hx hb dL_undone_104 (lv_at hl 0 rfl) ?_
          refine lv_iconst (v := 2) hx hb dL_undone_106 (by decide) ?_
          refine lv_irem hx hb dL_undone_107 (by decide) ?_
          refine lv_if_ne (tgt := 136) hx hb dL_undone_108 (by decide) (fun k119 => ?_) (fun k119 => ?_)
          · replace h := h.2 k119
            refine lv_aload_n hx hb dL_undone_136 rfl (lv_at hl 3 rfl) ?_
            refine lv_bipush (v := 97) hx hb dL_undone_137 (by decide) ?_
            refine lv_iload hx hb dL_undone_139 (lv_at hl 0 rfl) ?_
            refine lv_iconst (v := 1) hx hb dL_undone_141 (by decide) ?_
            refine lv_iushr hx hb dL_undone_142 rfl ?_
            refine lv_topi (fun v120 ev120 => ?_)
            replace h := h v120 ev120
            refine lv_bipush (v := 7) hx hb dL_undone_143 (by decide) ?_
            refine lv_irem hx hb dL_undone_145 (by decide) ?_
            refine lv_iadd hx hb dL_undone_146 ?_
            refine lv_i2c hx hb dL_undone_147 rfl ?_
            refine lv_topi (fun v121 ev121 => ?_)
            replace h := h v121 ev121
            refine lv_iload hx hb dL_undone_148 (lv_at hl 0 rfl) ?_
            refine lv_iconst (v := 4) hx hb dL_undone_150 (by decide) ?_
            refine lv_iushr hx hb dL_undone_151 rfl ?_
            refine lv_topi (fun v122 ev122 => ?_)
            replace h := h v122 ev122
            refine lv_bipush (v := 65) hx hb dL_undone_152 (by decide) ?_
            refine lv_irem hx hb dL_undone_154 (by decide) ?_
            refine lv_iload hx hb dL_undone_155 (lv_at hl 0 rfl) ?_
            refine lv_bipush (v := 11) hx hb dL_undone_157 (by decide) ?_
            refine lv_iushr hx hb dL_undone_159 rfl ?_
            refine lv_topi (fun v123 ev123 => ?_)
            replace h := h v123 ev123
            refine lv_bipush (v := 6) hx hb dL_undone_160 (by decide) ?_
            refine lv_irem hx hb dL_undone_162 (by decide) ?_
            refine lv_iload hx hb dL_undone_163 (lv_at hl 0 rfl) ?_
            refine lv_bipush (v := 14) hx hb dL_undone_165 (by decide) ?_
            refine lv_iushr hx hb dL_undone_167 rfl ?_
            refine lv_topi (fun v124 ev124 => ?_)
            replace h := h v124 ev124
            refine lv_bipush (v := 11) hx hb dL_undone_168 (by decide) ?_
            refine lv_irem hx hb dL_undone_170 (by decide) ?_
            refine zl_ki (g := g) (rest := []) (zl_runH (g := g) (As := [.ref (sw_ad g 0), .int v121, .int (v122 - v122 / (65 : Int32) * (65 : Int32)), .int (v123 - v123 / (6 : Int32) * (6 : Int32)), .int (v124 - v124 / (11 : Int32) * (11 : Int32))]) (rest := []) hx hb hml hown hts (kL_addExaminer l hst (zl_re g H.size) z_10 v121 ((v122 - v122 / (65 : Int32) * (65 : Int32))) ((v123 - v123 / (6 : Int32) * (6 : Int32))) ((v124 - v124 / (11 : Int32) * (11 : Int32)))) ch_L_addExaminer q_263 rfl rfl ⟨by rw [hRf]; exact (Nat.le_of_ble_eq_true rfl), by rw [hRl]; exact (Nat.le_of_ble_eq_true rfl)⟩ hW rfl hl.1 rfl (Nat.le_of_ble_eq_true rfl) dL_undone_171 ⟨(zc1 (D := 487) g20 (Nat.le_of_ble_eq_true rfl)), (zc1 (D := 2922) g21 (Nat.le_of_ble_eq_true rfl))⟩) hW (fun r9 z9 H locs h9 hW => ?_)
            obtain ⟨rfl, e9⟩ := h9
            replace h := h z9 e9
            obtain ⟨zp125, ezp125⟩ : ∃ z : zG, z = z9 := ⟨_, rfl⟩
            rw [← ezp125] at h hW
            refine lv_topi (fun v126 ev126 => ?_)
            replace h := h v126 ev126
            refine lv_istore (lv' := [(7, .int v126), (6, .int v25), (5, .int v24), (0, .ref b), (1, .ref (sw_ad g 0)), (2, .ref q1), (3, .int x3_10), (4, .int x4_10)]) hx hb dL_undone_174 hl (Nat.le_of_ble_eq_true rfl) rfl (fun ls hl => ?_)
            refine lv_goto (tgt := 403) hx hb dL_undone_176 (by decide) ?_
            exact hJ403 v126 zp125 _ _ _ _ _ h (zc1 (D := 487) g48 (Nat.le_of_ble_eq_true rfl)) (zc1 (D := 2922) g49 (Nat.le_of_ble_eq_true rfl)) hW (lv_sub hl [3, 4, 5, 6, 7, 0] rfl)
          · replace h := h.1 k119
            refine lv_aload_n hx hb dL_undone_111 rfl (lv_at hl 3 rfl) ?_
            refine lv_bipush (v := 97) hx hb dL_undone_112 (by decide) ?_
            refine lv_iload hx hb dL_undone_114 (lv_at hl 0 rfl) ?_
            refine lv_iconst (v := 1) hx hb dL_undone_116 (by decide) ?_
            refine lv_iushr hx hb dL_undone_117 rfl ?_
            refine lv_topi (fun v127 ev127 => ?_)
            replace h := h v127 ev127
            refine lv_bipush (v := 7) hx hb dL_undone_118 (by decide) ?_
            refine lv_irem hx hb dL_undone_120 (by decide) ?_
            refine lv_iadd hx hb dL_undone_121 ?_
            refine lv_i2c hx hb dL_undone_122 rfl ?_
            refine lv_topi (fun v128 ev128 => ?_)
            replace h := h v128 ev128
            refine lv_iload hx hb dL_undone_123 (lv_at hl 0 rfl) ?_
            refine lv_iconst (v := 4) hx hb dL_undone_125 (by decide) ?_
            refine lv_iushr hx hb dL_undone_126 rfl ?_
            refine lv_topi (fun v129 ev129 => ?_)
            replace h := h v129 ev129
            refine lv_bipush (v := 7) hx hb dL_undone_127 (by decide) ?_
            refine lv_irem hx hb dL_undone_129 (by decide) ?_
            refine zl_ki (g := g) (rest := []) (zl_runH (g := g) (As := [.ref (sw_ad g 0), .int v128, .int (v129 - v129 / (7 : Int32) * (7 : Int32))]) (rest := []) hx hb hml hown hts (kL_addDoor l hst (zl_re g H.size) z_10 v128 ((v129 - v129 / (7 : Int32) * (7 : Int32)))) ch_L_addDoor q_164 rfl rfl ⟨by rw [hRf]; exact (Nat.le_of_ble_eq_true rfl), by rw [hRl]; exact (Nat.le_of_ble_eq_true rfl)⟩ hW rfl hl.1 rfl (Nat.le_of_ble_eq_true rfl) dL_undone_130 ⟨(zc1 (D := 487) g20 (Nat.le_of_ble_eq_true rfl)), (zc1 (D := 2922) g21 (Nat.le_of_ble_eq_true rfl))⟩) hW (fun r9 z9 H locs h9 hW => ?_)
            obtain ⟨rfl, e9⟩ := h9
            replace h := h z9 e9
            obtain ⟨zp130, ezp130⟩ : ∃ z : zG, z = z9 := ⟨_, rfl⟩
            rw [← ezp130] at h hW
            refine lv_goto (tgt := 174) hx hb dL_undone_133 (by decide) ?_
            refine lv_topi (fun v131 ev131 => ?_)
            replace h := h v131 ev131
            refine lv_istore (lv' := [(7, .int v131), (6, .int v25), (5, .int v24), (0, .ref b), (1, .ref (sw_ad g 0)), (2, .ref q1), (3, .int x3_10), (4, .int x4_10)]) hx hb dL_undone_174 hl (Nat.le_of_ble_eq_true rfl) rfl (fun ls hl => ?_)
            refine lv_goto (tgt := 403) hx hb dL_undone_176 (by decide) ?_
            exact hJ403 v131 zp130 _ _ _ _ _ h (zc1 (D := 487) g48 (Nat.le_of_ble_eq_true rfl)) (zc1 (D := 2922) g49 (Nat.le_of_ble_eq_true rfl)) hW (lv_sub hl [3, 4, 5, 6, 7, 0] rfl)
        · replace h := h.2 k88_0
          by_cases k88_1 : v29 = (1 : Int32)
          · replace h := h.1 k88_1
            refine lv_tableIn (tgt := 179) hx hb dL_undone_48 (by rw [k88_1]; decide) (by rw [k88_1]; decide) (by rw [k88_1]; rfl) (by decide) ?_
            refine lv_aload_n hx hb dL_undone_179 rfl (lv_at hl 3 rfl) ?_
            refine lv_iload hx hb dL_undone_180 (lv_at hl 0 rfl) ?_
            refine lv_bipush (v := 7) hx hb dL_undone_182 (by decide) ?_
            refine lv_irem hx hb dL_undone_184 (by decide) ?_
            refine lv_iload hx hb dL_undone_185 (lv_at hl 0 rfl) ?_
            refine lv_iconst (v := 3) hx hb dL_undone_187 (by decide) ?_
            refine lv_iushr hx hb dL_undone_188 rfl ?_
            refine lv_topi (fun v116 ev116 => ?_)
            replace h := h v116 ev116
            refine lv_bipush (v := 9) hx hb dL_undone_189 (by decide) ?_
            refine lv_irem hx hb dL_undone_191 (by decide) ?_
            refine zl_ki (g := g) (rest := []) (zl_runH (g := g) (As := [.ref (sw_ad g 0), .int (v25 - v25 / (7 : Int32) * (7 : Int32)), .int (v116 - v116 / (9 : Int32) * (9 : Int32))]) (rest := []) hx hb hml hown hts (kL_conflict l hst (zl_re g H.size) z_10 ((v25 - v25 / (7 : Int32) * (7 : Int32))) ((v116 - v116 / (9 : Int32) * (9 : Int32)))) ch_L_conflict q_384 rfl rfl ⟨by rw [hRf]; exact (Nat.le_of_ble_eq_true rfl), by rw [hRl]; exact (Nat.le_of_ble_eq_true rfl)⟩ hW rfl hl.1 rfl (Nat.le_of_ble_eq_true rfl) dL_undone_192 ⟨(zc1 (D := 487) g20 (Nat.le_of_ble_eq_true rfl)), (zc1 (D := 2922) g21 (Nat.le_of_ble_eq_true rfl))⟩) hW (fun r9 z9 H locs h9 hW => ?_)
            obtain ⟨rfl, e9⟩ := h9
            replace h := h z9 e9
            obtain ⟨zp117, ezp117⟩ : ∃ z : zG, z = z9 := ⟨_, rfl⟩
            rw [← ezp117] at h hW
            refine lv_topi (fun v118 ev118 => ?_)
            replace h := h v118 ev118
            refine lv_istore (lv' := [(7, .int v118), (6, .int v25), (5, .int v24), (0, .ref b), (1, .ref (sw_ad g 0)), (2, .ref q1), (3, .int x3_10), (4, .int x4_10)]) hx hb dL_undone_195 hl (Nat.le_of_ble_eq_true rfl) rfl (fun ls hl => ?_)
            refine lv_goto (tgt := 403) hx hb dL_undone_197 (by decide) ?_
            exact hJ403 v118 zp117 _ _ _ _ _ h (zc1 (D := 487) g48 (Nat.le_of_ble_eq_true rfl)) (zc1 (D := 2922) g49 (Nat.le_of_ble_eq_true rfl)) hW (lv_sub hl [3, 4, 5, 6, 7, 0] rfl)
          · replace h := h.2 k88_1
            by_cases k88_2 : v29 = (2 : Int32)
            · replace h := h.1 k88_2
              refine lv_tableIn (tgt := 200) hx hb dL_undone_48 (by rw [k88_2]; decide) (by rw [k88_2]; decide) (by rw [k88_2]; rfl) (by decide) ?_
              refine lv_aload_n hx hb dL_undone_200 rfl (lv_at hl 3 rfl) ?_
              refine lv_iload hx hb dL_undone_201 (lv_at hl 0 rfl) ?_
              refine lv_bipush (v := 7) hx hb dL_undone_203 (by decide) ?_
              refine lv_irem hx hb dL_undone_205 (by decide) ?_
              refine lv_iload hx hb dL_undone_206 (lv_at hl 0 rfl) ?_
              refine lv_iconst (v := 3) hx hb dL_undone_208 (by decide) ?_
              refine lv_iushr hx hb dL_undone_209 rfl ?_
              refine lv_topi (fun v113 ev113 => ?_)
              replace h := h v113 ev113
              refine lv_bipush (v := 9) hx hb dL_undone_210 (by decide) ?_
              refine lv_irem hx hb dL_undone_212 (by decide) ?_
              refine zl_ki (g := g) (rest := []) (zl_runH (g := g) (As := [.ref (sw_ad g 0), .int (v25 - v25 / (7 : Int32) * (7 : Int32)), .int (v113 - v113 / (9 : Int32) * (9 : Int32))]) (rest := []) hx hb hml hown hts (kL_assign l hst (zl_re g H.size) z_10 ((v25 - v25 / (7 : Int32) * (7 : Int32))) ((v113 - v113 / (9 : Int32) * (9 : Int32)))) ch_L_assign q_273 rfl rfl ⟨by rw [hRf]; exact (Nat.le_of_ble_eq_true rfl), by rw [hRl]; exact (Nat.le_of_ble_eq_true rfl)⟩ hW rfl hl.1 rfl (Nat.le_of_ble_eq_true rfl) dL_undone_213 ⟨(zc1 (D := 487) g20 (Nat.le_of_ble_eq_true rfl)), (zc1 (D := 2922) g21 (Nat.le_of_ble_eq_true rfl))⟩) hW (fun r9 z9 H locs h9 hW => ?_)
              obtain ⟨rfl, e9⟩ := h9
              replace h := h z9 e9
              obtain ⟨zp114, ezp114⟩ : ∃ z : zG, z = z9 := ⟨_, rfl⟩
              rw [← ezp114] at h hW
              refine lv_topi (fun v115 ev115 => ?_)
              replace h := h v115 ev115
              refine lv_istore (lv' := [(7, .int v115), (6, .int v25), (5, .int v24), (0, .ref b), (1, .ref (sw_ad g 0)), (2, .ref q1), (3, .int x3_10), (4, .int x4_10)]) hx hb dL_undone_216 hl (Nat.le_of_ble_eq_true rfl) rfl (fun ls hl => ?_)
              refine lv_goto (tgt := 403) hx hb dL_undone_218 (by decide) ?_
              exact hJ403 v115 zp114 _ _ _ _ _ h (zc1 (D := 487) g48 (Nat.le_of_ble_eq_true rfl)) (zc1 (D := 2922) g49 (Nat.le_of_ble_eq_true rfl)) hW (lv_sub hl [3, 4, 5, 6, 7, 0] rfl)
            · replace h := h.2 k88_2
              by_cases k88_3 : v29 = (3 : Int32)
              · replace h := h.1 k88_3
                refine lv_tableIn (tgt := 200) hx hb dL_undone_48 (by rw [k88_3]; decide) (by rw [k88_3]; decide) (by rw [k88_3]; rfl) (by decide) ?_
                refine lv_aload_n hx hb dL_undone_200 rfl (lv_at hl 3 rfl) ?_
                refine lv_iload hx hb dL_undone_201 (lv_at hl 0 rfl) ?_
                refine lv_bipush (v := 7) hx hb dL_undone_203 (by decide) ?_
                refine lv_irem hx hb dL_undone_205 (by decide) ?_
                refine lv_iload hx hb dL_undone_206 (lv_at hl 0 rfl) ?_
                refine lv_iconst (v := 3) hx hb dL_undone_208 (by decide) ?_
                refine lv_iushr hx hb dL_undone_209 rfl ?_
                refine lv_topi (fun v110 ev110 => ?_)
                replace h := h v110 ev110
                refine lv_bipush (v := 9) hx hb dL_undone_210 (by decide) ?_
                refine lv_irem hx hb dL_undone_212 (by decide) ?_
                refine zl_ki (g := g) (rest := []) (zl_runH (g := g) (As := [.ref (sw_ad g 0), .int (v25 - v25 / (7 : Int32) * (7 : Int32)), .int (v110 - v110 / (9 : Int32) * (9 : Int32))]) (rest := []) hx hb hml hown hts (kL_assign l hst (zl_re g H.size) z_10 ((v25 - v25 / (7 : Int32) * (7 : Int32))) ((v110 - v110 / (9 : Int32) * (9 : Int32)))) ch_L_assign q_273 rfl rfl ⟨by rw [hRf]; exact (Nat.le_of_ble_eq_true rfl), by rw [hRl]; exact (Nat.le_of_ble_eq_true rfl)⟩ hW rfl hl.1 rfl (Nat.le_of_ble_eq_true rfl) dL_undone_213 ⟨(zc1 (D := 487) g20 (Nat.le_of_ble_eq_true rfl)), (zc1 (D := 2922) g21 (Nat.le_of_ble_eq_true rfl))⟩) hW (fun r9 z9 H locs h9 hW => ?_)
                obtain ⟨rfl, e9⟩ := h9
                replace h := h z9 e9
                obtain ⟨zp111, ezp111⟩ : ∃ z : zG, z = z9 := ⟨_, rfl⟩
                rw [← ezp111] at h hW
                refine lv_topi (fun v112 ev112 => ?_)
                replace h := h v112 ev112
                refine lv_istore (lv' := [(7, .int v112), (6, .int v25), (5, .int v24), (0, .ref b), (1, .ref (sw_ad g 0)), (2, .ref q1), (3, .int x3_10), (4, .int x4_10)]) hx hb dL_undone_216 hl (Nat.le_of_ble_eq_true rfl) rfl (fun ls hl => ?_)
                refine lv_goto (tgt := 403) hx hb dL_undone_218 (by decide) ?_
                exact hJ403 v112 zp111 _ _ _ _ _ h (zc1 (D := 487) g48 (Nat.le_of_ble_eq_true rfl)) (zc1 (D := 2922) g49 (Nat.le_of_ble_eq_true rfl)) hW (lv_sub hl [3, 4, 5, 6, 7, 0] rfl)
              · replace h := h.2 k88_3
                by_cases k88_4 : v29 = (4 : Int32)
                · replace h := h.1 k88_4
                  refine lv_tableIn (tgt := 221) hx hb dL_undone_48 (by rw [k88_4]; decide) (by rw [k88_4]; decide) (by rw [k88_4]; rfl) (by decide) ?_
                  refine lv_aload_n hx hb dL_undone_221 rfl (lv_at hl 3 rfl) ?_
                  refine zl_ki (g := g) (rest := []) (zl_runV (g := g) (As := []) (rest := []) hx hb hml hown hts (zD_carryOutPlan l hst (zl_re g H.size) z_10) cv_X6_carryOutPlan q_346 rfl rfl ⟨by rw [hRf]; exact (Nat.le_of_ble_eq_true rfl), by rw [hRl]; exact (Nat.le_of_ble_eq_true rfl)⟩ hW (Or.inl (Nat.le_of_ble_eq_true rfl)) sl_0 rfl rfl hl.1 rfl (Nat.le_of_ble_eq_true rfl) dL_undone_222 ⟨(zc1 (D := 487) g20 (Nat.le_of_ble_eq_true rfl)), (zc1 (D := 2922) g21 (Nat.le_of_ble_eq_true rfl))⟩) hW (fun r9 z9 H locs h9 hW => ?_)
                  obtain ⟨rfl, e9⟩ := h9
                  replace h := h z9 e9
                  obtain ⟨zp108, ezp108⟩ : ∃ z : zG, z = z9 := ⟨_, rfl⟩
                  rw [← ezp108] at h hW
                  refine lv_topi (fun v109 ev109 => ?_)
                  replace h := h v109 ev109
                  refine lv_istore (lv' := [(7, .int v109), (6, .int v25), (5, .int v24), (0, .ref b), (1, .ref (sw_ad g 0)), (2, .ref q1), (3, .int x3_10), (4, .int x4_10)]) hx hb dL_undone_225 hl (Nat.le_of_ble_eq_true rfl) rfl (fun ls hl => ?_)
                  refine lv_goto (tgt := 403) hx hb dL_undone_227 (by decide) ?_
                  exact hJ403 v109 zp108 _ _ _ _ _ h (zc1 (D := 487) g48 (Nat.le_of_ble_eq_true rfl)) (zc1 (D := 2922) g49 (Nat.le_of_ble_eq_true rfl)) hW (lv_sub hl [3, 4, 5, 6, 7, 0] rfl)
                · replace h := h.2 k88_4
                  by_cases k88_5 : v29 = (5 : Int32)
                  · replace h := h.1 k88_5
                    refine lv_tableIn (tgt := 230) hx hb dL_undone_48 (by rw [k88_5]; decide) (by rw [k88_5]; decide) (by rw [k88_5]; rfl) (by decide) ?_
                    refine lv_aload_n hx hb dL_undone_230 rfl (lv_at hl 3 rfl) ?_
                    refine lv_iload hx hb dL_undone_231 (lv_at hl 0 rfl) ?_
                    refine lv_bipush (v := 7) hx hb dL_undone_233 (by decide) ?_
                    refine lv_irem hx hb dL_undone_235 (by decide) ?_
                    refine lv_iload hx hb dL_undone_236 (lv_at hl 0 rfl) ?_
                    refine lv_iconst (v := 3) hx hb dL_undone_238 (by decide) ?_
                    refine lv_iushr hx hb dL_undone_239 rfl ?_
                    refine lv_topi (fun v104 ev104 => ?_)
                    replace h := h v104 ev104
                    refine lv_bipush (v := 9) hx hb dL_undone_240 (by decide) ?_
                    refine lv_irem hx hb dL_undone_242 (by decide) ?_
                    refine lv_iload hx hb dL_undone_243 (lv_at hl 0 rfl) ?_
                    refine lv_bipush (v := 7) hx hb dL_undone_245 (by decide) ?_
                    refine lv_iushr hx hb dL_undone_247 rfl ?_
                    refine lv_topi (fun v105 ev105 => ?_)
                    replace h := h v105 ev105
                    refine lv_bipush (v := 22) hx hb dL_undone_248 (by decide) ?_
                    refine lv_irem hx hb dL_undone_250 (by decide) ?_
                    refine zl_ki (g := g) (rest := []) (zl_runH (g := g) (As := [.ref (sw_ad g 0), .int (v25 - v25 / (7 : Int32) * (7 : Int32)), .int (v104 - v104 / (9 : Int32) * (9 : Int32)), .int (v105 - v105 / (22 : Int32) * (22 : Int32))]) (rest := []) hx hb hml hown hts (kL_grade l hst (zl_re g H.size) z_10 ((v25 - v25 / (7 : Int32) * (7 : Int32))) ((v104 - v104 / (9 : Int32) * (9 : Int32))) ((v105 - v105 / (22 : Int32) * (22 : Int32)))) ch_L_grade q_398 rfl rfl ⟨by rw [hRf]; exact (Nat.le_of_ble_eq_true rfl), by rw [hRl]; exact (Nat.le_of_ble_eq_true rfl)⟩ hW rfl hl.1 rfl (Nat.le_of_ble_eq_true rfl) dL_undone_251 ⟨(zc1 (D := 487) g20 (Nat.le_of_ble_eq_true rfl)), (zc1 (D := 2922) g21 (Nat.le_of_ble_eq_true rfl))⟩) hW (fun r9 z9 H locs h9 hW => ?_)
                    obtain ⟨rfl, e9⟩ := h9
                    replace h := h z9 e9
                    obtain ⟨zp106, ezp106⟩ : ∃ z : zG, z = z9 := ⟨_, rfl⟩
                    rw [← ezp106] at h hW
                    refine lv_topi (fun v107 ev107 => ?_)
                    replace h := h v107 ev107
                    refine lv_istore (lv' := [(7, .int v107), (6, .int v25), (5, .int v24), (0, .ref b), (1, .ref (sw_ad g 0)), (2, .ref q1), (3, .int x3_10), (4, .int x4_10)]) hx hb dL_undone_254 hl (Nat.le_of_ble_eq_true rfl) rfl (fun ls hl => ?_)
                    refine lv_goto (tgt := 403) hx hb dL_undone_256 (by decide) ?_
                    exact hJ403 v107 zp106 _ _ _ _ _ h (zc1 (D := 487) g48 (Nat.le_of_ble_eq_true rfl)) (zc1 (D := 2922) g49 (Nat.le_of_ble_eq_true rfl)) hW (lv_sub hl [3, 4, 5, 6, 7, 0] rfl)
                  · replace h := h.2 k88_5
                    by_cases k88_6 : v29 = (6 : Int32)
                    · replace h := h.1 k88_6
                      refine lv_tableIn (tgt := 230) hx hb dL_undone_48 (by rw [k88_6]; decide) (by rw [k88_6]; decide) (by rw [k88_6]; rfl) (by decide) ?_
                      refine lv_aload_n hx hb dL_undone_230 rfl (lv_at hl 3 rfl) ?_
                      refine lv_iload hx hb dL_undone_231 (lv_at hl 0 rfl) ?_
                      refine lv_bipush (v := 7) hx hb dL_undone_233 (by decide) ?_
                      refine lv_irem hx hb dL_undone_235 (by decide) ?_
                      refine lv_iload hx hb dL_undone_236 (lv_at hl 0 rfl) ?_
                      refine lv_iconst (v := 3) hx hb dL_undone_238 (by decide) ?_
                      refine lv_iushr hx hb dL_undone_239 rfl ?_
                      refine lv_topi (fun v100 ev100 => ?_)
                      replace h := h v100 ev100
                      refine lv_bipush (v := 9) hx hb dL_undone_240 (by decide) ?_
                      refine lv_irem hx hb dL_undone_242 (by decide) ?_
                      refine lv_iload hx hb dL_undone_243 (lv_at hl 0 rfl) ?_
                      refine lv_bipush (v := 7) hx hb dL_undone_245 (by decide) ?_
                      refine lv_iushr hx hb dL_undone_247 rfl ?_
                      refine lv_topi (fun v101 ev101 => ?_)
                      replace h := h v101 ev101
                      refine lv_bipush (v := 22) hx hb dL_undone_248 (by decide) ?_
                      refine lv_irem hx hb dL_undone_250 (by decide) ?_
                      refine zl_ki (g := g) (rest := []) (zl_runH (g := g) (As := [.ref (sw_ad g 0), .int (v25 - v25 / (7 : Int32) * (7 : Int32)), .int (v100 - v100 / (9 : Int32) * (9 : Int32)), .int (v101 - v101 / (22 : Int32) * (22 : Int32))]) (rest := []) hx hb hml hown hts (kL_grade l hst (zl_re g H.size) z_10 ((v25 - v25 / (7 : Int32) * (7 : Int32))) ((v100 - v100 / (9 : Int32) * (9 : Int32))) ((v101 - v101 / (22 : Int32) * (22 : Int32)))) ch_L_grade q_398 rfl rfl ⟨by rw [hRf]; exact (Nat.le_of_ble_eq_true rfl), by rw [hRl]; exact (Nat.le_of_ble_eq_true rfl)⟩ hW rfl hl.1 rfl (Nat.le_of_ble_eq_true rfl) dL_undone_251 ⟨(zc1 (D := 487) g20 (Nat.le_of_ble_eq_true rfl)), (zc1 (D := 2922) g21 (Nat.le_of_ble_eq_true rfl))⟩) hW (fun r9 z9 H locs h9 hW => ?_)
                      obtain ⟨rfl, e9⟩ := h9
                      replace h := h z9 e9
                      obtain ⟨zp102, ezp102⟩ : ∃ z : zG, z = z9 := ⟨_, rfl⟩
                      rw [← ezp102] at h hW
                      refine lv_topi (fun v103 ev103 => ?_)
                      replace h := h v103 ev103
                      refine lv_istore (lv' := [(7, .int v103), (6, .int v25), (5, .int v24), (0, .ref b), (1, .ref (sw_ad g 0)), (2, .ref q1), (3, .int x3_10), (4, .int x4_10)]) hx hb dL_undone_254 hl (Nat.le_of_ble_eq_true rfl) rfl (fun ls hl => ?_)
                      refine lv_goto (tgt := 403) hx hb dL_undone_256 (by decide) ?_
                      exact hJ403 v103 zp102 _ _ _ _ _ h (zc1 (D := 487) g48 (Nat.le_of_ble_eq_true rfl)) (zc1 (D := 2922) g49 (Nat.le_of_ble_eq_true rfl)) hW (lv_sub hl [3, 4, 5, 6, 7, 0] rfl)
                    · replace h := h.2 k88_6
                      by_cases k88_7 : v29 = (7 : Int32)
                      · replace h := h.1 k88_7
                        refine lv_tableIn (tgt := 259) hx hb dL_undone_48 (by rw [k88_7]; decide) (by rw [k88_7]; decide) (by rw [k88_7]; rfl) (by decide) ?_
                        refine lv_aload_n hx hb dL_undone_259 rfl (lv_at hl 3 rfl) ?_
                        refine lv_iload hx hb dL_undone_260 (lv_at hl 0 rfl) ?_
                        refine lv_bipush (v := 22) hx hb dL_undone_262 (by decide) ?_
                        refine lv_irem hx hb dL_undone_264 (by decide) ?_
                        refine zl_ki (g := g) (rest := []) (zl_runH (g := g) (As := [.ref (sw_ad g 0), .int (v25 - v25 / (22 : Int32) * (22 : Int32))]) (rest := []) hx hb hml hown hts (kL_setThreshold l hst (zl_re g H.size) z_10 ((v25 - v25 / (22 : Int32) * (22 : Int32)))) ch_L_setThreshold q_412 rfl rfl ⟨by rw [hRf]; exact (Nat.le_of_ble_eq_true rfl), by rw [hRl]; exact (Nat.le_of_ble_eq_true rfl)⟩ hW rfl hl.1 rfl (Nat.le_of_ble_eq_true rfl) dL_undone_265 ⟨(zc1 (D := 487) g20 (Nat.le_of_ble_eq_true rfl)), (zc1 (D := 2922) g21 (Nat.le_of_ble_eq_true rfl))⟩) hW (fun r9 z9 H locs h9 hW => ?_)
                        obtain ⟨rfl, e9⟩ := h9
                        replace h := h z9 e9
                        obtain ⟨zp98, ezp98⟩ : ∃ z : zG, z = z9 := ⟨_, rfl⟩
                        rw [← ezp98] at h hW
                        refine lv_topi (fun v99 ev99 => ?_)
                        replace h := h v99 ev99
                        refine lv_istore (lv' := [(7, .int v99), (6, .int v25), (5, .int v24), (0, .ref b), (1, .ref (sw_ad g 0)), (2, .ref q1), (3, .int x3_10), (4, .int x4_10)]) hx hb dL_undone_268 hl (Nat.le_of_ble_eq_true rfl) rfl (fun ls hl => ?_)
                        refine lv_goto (tgt := 403) hx hb dL_undone_270 (by decide) ?_
                        exact hJ403 v99 zp98 _ _ _ _ _ h (zc1 (D := 487) g48 (Nat.le_of_ble_eq_true rfl)) (zc1 (D := 2922) g49 (Nat.le_of_ble_eq_true rfl)) hW (lv_sub hl [3, 4, 5, 6, 7, 0] rfl)
                      · replace h := h.2 k88_7
                        by_cases k88_8 : v29 = (8 : Int32)
                        · replace h := h.1 k88_8
                          refine lv_tableIn (tgt := 273) hx hb dL_undone_48 (by rw [k88_8]; decide) (by rw [k88_8]; decide) (by rw [k88_8]; rfl) (by decide) ?_
                          refine lv_aload_n hx hb dL_undone_273 rfl (lv_at hl 3 rfl) ?_
                          refine lv_iload hx hb dL_undone_274 (lv_at hl 0 rfl) ?_
                          refine lv_bipush (v := 9) hx hb dL_undone_276 (by decide) ?_
                          refine lv_irem hx hb dL_undone_278 (by decide) ?_
                          refine zl_ki (g := g) (rest := []) (zl_runH (g := g) (As := [.ref (sw_ad g 0), .int (v25 - v25 / (9 : Int32) * (9 : Int32))]) (rest := []) hx hb hml hown hts (kL_appeal l hst (zl_re g H.size) z_10 ((v25 - v25 / (9 : Int32) * (9 : Int32)))) ch_L_appeal q_422 rfl rfl ⟨by rw [hRf]; exact (Nat.le_of_ble_eq_true rfl), by rw [hRl]; exact (Nat.le_of_ble_eq_true rfl)⟩ hW rfl hl.1 rfl (Nat.le_of_ble_eq_true rfl) dL_undone_279 ⟨(zc1 (D := 487) g20 (Nat.le_of_ble_eq_true rfl)), (zc1 (D := 2922) g21 (Nat.le_of_ble_eq_true rfl))⟩) hW (fun r9 z9 H locs h9 hW => ?_)
                          obtain ⟨rfl, e9⟩ := h9
                          replace h := h z9 e9
                          obtain ⟨zp96, ezp96⟩ : ∃ z : zG, z = z9 := ⟨_, rfl⟩
                          rw [← ezp96] at h hW
                          refine lv_topi (fun v97 ev97 => ?_)
                          replace h := h v97 ev97
                          refine lv_istore (lv' := [(7, .int v97), (6, .int v25), (5, .int v24), (0, .ref b), (1, .ref (sw_ad g 0)), (2, .ref q1), (3, .int x3_10), (4, .int x4_10)]) hx hb dL_undone_282 hl (Nat.le_of_ble_eq_true rfl) rfl (fun ls hl => ?_)
                          refine lv_goto (tgt := 403) hx hb dL_undone_284 (by decide) ?_
                          exact hJ403 v97 zp96 _ _ _ _ _ h (zc1 (D := 487) g48 (Nat.le_of_ble_eq_true rfl)) (zc1 (D := 2922) g49 (Nat.le_of_ble_eq_true rfl)) hW (lv_sub hl [3, 4, 5, 6, 7, 0] rfl)
                        · replace h := h.2 k88_8
                          by_cases k88_9 : v29 = (9 : Int32)
                          · replace h := h.1 k88_9
                            refine lv_tableIn (tgt := 287) hx hb dL_undone_48 (by rw [k88_9]; decide) (by rw [k88_9]; decide) (by rw [k88_9]; rfl) (by decide) ?_
                            refine lv_iload hx hb dL_undone_287 (lv_at hl 0 rfl) ?_
                            refine lv_iconst (v := 2) hx hb dL_undone_289 (by decide) ?_
                            refine lv_irem hx hb dL_undone_290 (by decide) ?_
                            refine lv_if_ne (tgt := 308) hx hb dL_undone_291 (by decide) (fun k89 => ?_) (fun k89 => ?_)
                            · replace h := h.2 k89
                              refine lv_aload_n hx hb dL_undone_308 rfl (lv_at hl 3 rfl) ?_
                              refine lv_iload hx hb dL_undone_309 (lv_at hl 0 rfl) ?_
                              refine lv_iconst (v := 1) hx hb dL_undone_311 (by decide) ?_
                              refine lv_iushr hx hb dL_undone_312 rfl ?_
                              refine lv_topi (fun v90 ev90 => ?_)
                              replace h := h v90 ev90
                              refine lv_iconst (v := 4) hx hb dL_undone_313 (by decide) ?_
                              refine lv_irem hx hb dL_undone_314 (by decide) ?_
                              refine zl_ki (g := g) (rest := []) (zl_runH (g := g) (As := [.ref (sw_ad g 0), .int (v90 - v90 / (4 : Int32) * (4 : Int32))]) (rest := []) hx hb hml hown hts (kL_revoke l hst (zl_re g H.size) z_10 ((v90 - v90 / (4 : Int32) * (4 : Int32)))) ch_L_revoke q_1067 rfl rfl ⟨by rw [hRf]; exact (Nat.le_of_ble_eq_true rfl), by rw [hRl]; exact (Nat.le_of_ble_eq_true rfl)⟩ hW rfl hl.1 rfl (Nat.le_of_ble_eq_true rfl) dL_undone_315 ⟨(zc1 (D := 487) g20 (Nat.le_of_ble_eq_true rfl)), (zc1 (D := 2922) g21 (Nat.le_of_ble_eq_true rfl))⟩) hW (fun r9 z9 H locs h9 hW => ?_)
                              obtain ⟨rfl, e9⟩ := h9
                              replace h := h z9 e9
                              obtain ⟨zp91, ezp91⟩ : ∃ z : zG, z = z9 := ⟨_, rfl⟩
                              rw [← ezp91] at h hW
                              refine lv_topi (fun v92 ev92 => ?_)
                              replace h := h v92 ev92
                              refine lv_istore (lv' := [(7, .int v92), (6, .int v25), (5, .int v24), (0, .ref b), (1, .ref (sw_ad g 0)), (2, .ref q1), (3, .int x3_10), (4, .int x4_10)]) hx hb dL_undone_318 hl (Nat.le_of_ble_eq_true rfl) rfl (fun ls hl => ?_)
                              refine lv_goto (tgt := 403) hx hb dL_undone_320 (by decide) ?_
                              exact hJ403 v92 zp91 _ _ _ _ _ h (zc1 (D := 487) g48 (Nat.le_of_ble_eq_true rfl)) (zc1 (D := 2922) g49 (Nat.le_of_ble_eq_true rfl)) hW (lv_sub hl [3, 4, 5, 6, 7, 0] rfl)
                            · replace h := h.1 k89
                              refine lv_aload_n hx hb dL_undone_294 rfl (lv_at hl 3 rfl) ?_
                              refine lv_iload hx hb dL_undone_295 (lv_at hl 0 rfl) ?_
                              refine lv_iconst (v := 1) hx hb dL_undone_297 (by decide) ?_
                              refine lv_iushr hx hb dL_undone_298 rfl ?_
                              refine lv_topi (fun v93 ev93 => ?_)
                              replace h := h v93 ev93
                              refine lv_bipush (v := 9) hx hb dL_undone_299 (by decide) ?_
                              refine lv_irem hx hb dL_undone_301 (by decide) ?_
                              refine zl_ki (g := g) (rest := []) (zl_runH (g := g) (As := [.ref (sw_ad g 0), .int (v93 - v93 / (9 : Int32) * (9 : Int32))]) (rest := []) hx hb hml hown hts (kL_award l hst (zl_re g H.size) z_10 ((v93 - v93 / (9 : Int32) * (9 : Int32)))) ch_L_award q_461 rfl rfl ⟨by rw [hRf]; exact (Nat.le_of_ble_eq_true rfl), by rw [hRl]; exact (Nat.le_of_ble_eq_true rfl)⟩ hW rfl hl.1 rfl (Nat.le_of_ble_eq_true rfl) dL_undone_302 ⟨(zc1 (D := 487) g20 (Nat.le_of_ble_eq_true rfl)), (zc1 (D := 2922) g21 (Nat.le_of_ble_eq_true rfl))⟩) hW (fun r9 z9 H locs h9 hW => ?_)
                              obtain ⟨rfl, e9⟩ := h9
                              replace h := h z9 e9
                              obtain ⟨zp94, ezp94⟩ : ∃ z : zG, z = z9 := ⟨_, rfl⟩
                              rw [← ezp94] at h hW
                              refine lv_goto (tgt := 318) hx hb dL_undone_305 (by decide) ?_
                              refine lv_topi (fun v95 ev95 => ?_)
                              replace h := h v95 ev95
                              refine lv_istore (lv' := [(7, .int v95), (6, .int v25), (5, .int v24), (0, .ref b), (1, .ref (sw_ad g 0)), (2, .ref q1), (3, .int x3_10), (4, .int x4_10)]) hx hb dL_undone_318 hl (Nat.le_of_ble_eq_true rfl) rfl (fun ls hl => ?_)
                              refine lv_goto (tgt := 403) hx hb dL_undone_320 (by decide) ?_
                              exact hJ403 v95 zp94 _ _ _ _ _ h (zc1 (D := 487) g48 (Nat.le_of_ble_eq_true rfl)) (zc1 (D := 2922) g49 (Nat.le_of_ble_eq_true rfl)) hW (lv_sub hl [3, 4, 5, 6, 7, 0] rfl)
                          · replace h := h.2 k88_9
                            refine sw_tdef (tgt := 323) hx hb dL_undone_48 (by intro hz; exfalso; have e0 := lv_neT k88_0 (by decide : ((0) : Int32).toInt = 0); have e1 := lv_neT k88_1 (by decide : ((1) : Int32).toInt = 1); have e2 := lv_neT k88_2 (by decide : ((2) : Int32).toInt = 2); have e3 := lv_neT k88_3 (by decide : ((3) : Int32).toInt = 3); have e4 := lv_neT k88_4 (by decide : ((4) : Int32).toInt = 4); have e5 := lv_neT k88_5 (by decide : ((5) : Int32).toInt = 5); have e6 := lv_neT k88_6 (by decide : ((6) : Int32).toInt = 6); have e7 := lv_neT k88_7 (by decide : ((7) : Int32).toInt = 7); have e8 := lv_neT k88_8 (by decide : ((8) : Int32).toInt = 8); have e9 := lv_neT k88_9 (by decide : ((9) : Int32).toInt = 9); omega) (by decide) ?_
                            refine lv_aload_n hx hb dL_undone_323 rfl (lv_at hl 3 rfl) ?_
                            refine je_new (ci := 8) hx hb hts hown qf_B tyJ4 tyJ4_ok rfl q_773 q_774 q_24 hW (fs := [.null, .int 0, .int 0, .int 0]) (by intro j hj; have h9 : j = 0 ∨ j = 1 ∨ j = 2 ∨ j = 3 := (by omega); rcases h9 with rfl | rfl | rfl | rfl <;> rfl) (zc1 (D := 487) g20 (Nat.le_of_ble_eq_true rfl)) (zc1 (D := 2920) g21 (Nat.le_of_ble_eq_true rfl)) dL_undone_324 (fun q50 H hW => ?_)
                            replace hW := je_mv0 (E1 := [(q1, .inl (sw_ac g 5, 9, .inr (.inl f28)))]) hW
                            have hW : zl_Wd g [(q50, .inr (8, [.null, .int 0, .int 0, .int 0])), (q1, .inl (sw_ac g 5, 9, .inr (.inl f28)))] z_10 s H locs := hW
                            refine lv_dup hx hb dL_undone_327 rfl ?_
                            refine je_kv (rest := [.ref q50, .ref (sw_ad g 0)]) (je_runI (As := []) (rest := [.ref q50, .ref (sw_ad g 0)]) hx hb hml hown hts (kc_sb l g z_10 q50 [(q1, .inl (sw_ac g 5, 9, .inr (.inl f28)))]) ci_J4_init_da8c8 q_775 rfl rfl ⟨by rw [hRf]; exact (Nat.le_of_ble_eq_true rfl), by rw [hRl]; exact (Nat.le_of_ble_eq_true rfl)⟩ hW rfl hl.1 rfl (Nat.le_of_ble_eq_true rfl) dL_undone_328 ⟨(zc1 (D := 488) g20 (Nat.le_of_ble_eq_true rfl)), (zc1 (D := 2936) g21 (Nat.le_of_ble_eq_true rfl))⟩) hW (fun b51 H locs h9 hW => ?_)
                            have hW : zl_Wd g [(q50, zSo g b51 0), (b51, zBb g 16 []), (q1, .inl (sw_ac g 5, 9, .inr (.inl f28)))] z_10 s H locs := hW
                            have hbd52 : zbd [] 16 := ⟨by decide, by decide⟩
                            refine sw_ldcW hx hb hown (hW.2.2.2.2.2.2.2.2.2.1 15 (Nat.le_of_ble_eq_true rfl)).2.2.2.2 dL_undone_331 ?_
                            have hk9 := h.1
                            replace h := h.2
                            refine je_kr (rest := [.ref (sw_ad g 0)]) (je_runV (i := 0) (As := [.ref (sw_sk g 15)]) (rest := [.ref (sw_ad g 0)]) hx hb hml hown hts (kd_appC l g z_10 q50 b51 16 [] 15 (Nat.le_of_ble_eq_true rfl) hbd52 hk9 [(q1, .inl (sw_ac g 5, 9, .inr (.inl f28)))]) cw_J4_append_15ec4 q_794 rfl rfl ⟨by rw [hRf]; exact (Nat.le_of_ble_eq_true rfl), by rw [hRl]; exact (Nat.le_of_ble_eq_true rfl)⟩ hW rfl rfl rfl hl.1 rfl (Nat.le_of_ble_eq_true rfl) dL_undone_334 ⟨(zc1 (D := 489) g20 (Nat.le_of_ble_eq_true rfl)), (zc1 (D := 3064) g21 (Nat.le_of_ble_eq_true rfl))⟩) hW (fun u9 H locs h9 hW => ?_)
                            clear hk9
                            obtain ⟨b53, c54⟩ := u9
                            have hbd55 : zbd ([] ++ zsb 15) c54 := h9
                            show W _ _ _ _ _ _ _ _ _ _ _ _ _ _ _ (F0 m _ ls [.ref q50, .ref (sw_ad g 0)])
                            have hW : zl_Wd g [(q50, zSo g b53 ([] ++ zsb 15).length), (b53, zBb g c54 ([] ++ zsb 15)), (q1, .inl (sw_ac g 5, 9, .inr (.inl f28)))] z_10 s H locs := hW
                            refine lv_iload hx hb dL_undone_337 (lv_at hl 0 rfl) ?_
                            refine lv_bipush (v := 21) hx hb dL_undone_339 (by decide) ?_
                            refine lv_irem hx hb dL_undone_341 (by decide) ?_
                            obtain ⟨n59, ⟨hn59, en59, hk9⟩, h⟩ := h
                            rw [show Value.int (v25 - v25 / (21 : Int32) * (21 : Int32)) = Value.int (nI n59) from congrArg Value.int en59]
                            refine je_kr (rest := [.ref (sw_ad g 0)]) (je_runV (i := 0) (As := [.int (nI n59)]) (rest := [.ref (sw_ad g 0)]) hx hb hml hown hts (kd_appi l g z_10 q50 b53 c54 ([] ++ zsb 15) n59 hn59 hbd55 hk9 [(q1, .inl (sw_ac g 5, 9, .inr (.inl f28)))]) cw_J4_append_bf812 q_919 rfl rfl ⟨by rw [hRf]; exact (Nat.le_of_ble_eq_true rfl), by rw [hRl]; exact (Nat.le_of_ble_eq_true rfl)⟩ hW rfl rfl rfl hl.1 rfl (Nat.le_of_ble_eq_true rfl) dL_undone_342 ⟨(zc1 (D := 490) g20 (Nat.le_of_ble_eq_true rfl)), (zc1 (D := 3192) g21 (Nat.le_of_ble_eq_true rfl))⟩) hW (fun u9 H locs h9 hW => ?_)
                            clear hk9
                            obtain ⟨b56, c57⟩ := u9
                            have hbd58 : zbd (([] ++ zsb 15) ++ zdec n59) c57 := h9
                            show W _ _ _ _ _ _ _ _ _ _ _ _ _ _ _ (F0 m _ ls [.ref q50, .ref (sw_ad g 0)])
                            have hW : zl_Wd g [(q50, zSo g b56 (([] ++ zsb 15) ++ zdec n59).length), (b56, zBb g c57 (([] ++ zsb 15) ++ zdec n59)), (q1, .inl (sw_ac g 5, 9, .inr (.inl f28)))] z_10 s H locs := hW
                            refine sw_ldcW hx hb hown (hW.2.2.2.2.2.2.2.2.2.1 16 (Nat.le_of_ble_eq_true rfl)).2.2.2.2 dL_undone_345 ?_
                            have hk9 := h.1
                            replace h := h.2
                            refine je_kr (rest := [.ref (sw_ad g 0)]) (je_runV (i := 0) (As := [.ref (sw_sk g 16)]) (rest := [.ref (sw_ad g 0)]) hx hb hml hown hts (kd_appC l g z_10 q50 b56 c57 (([] ++ zsb 15) ++ zdec n59) 16 (Nat.le_of_ble_eq_true rfl) hbd58 hk9 [(q1, .inl (sw_ac g 5, 9, .inr (.inl f28)))]) cw_J4_append_15ec4 q_794 rfl rfl ⟨by rw [hRf]; exact (Nat.le_of_ble_eq_true rfl), by rw [hRl]; exact (Nat.le_of_ble_eq_true rfl)⟩ hW rfl rfl rfl hl.1 rfl (Nat.le_of_ble_eq_true rfl) dL_undone_348 ⟨(zc1 (D := 491) g20 (Nat.le_of_ble_eq_true rfl)), (zc1 (D := 3320) g21 (Nat.le_of_ble_eq_true rfl))⟩) hW (fun u9 H locs h9 hW => ?_)
                            clear hk9
                            obtain ⟨b60, c61⟩ := u9
                            have hbd62 : zbd ((([] ++ zsb 15) ++ zdec n59) ++ zsb 16) c61 := h9
                            show W _ _ _ _ _ _ _ _ _ _ _ _ _ _ _ (F0 m _ ls [.ref q50, .ref (sw_ad g 0)])
                            have hW : zl_Wd g [(q50, zSo g b60 ((([] ++ zsb 15) ++ zdec n59) ++ zsb 16).length), (b60, zBb g c61 ((([] ++ zsb 15) ++ zdec n59) ++ zsb 16)), (q1, .inl (sw_ac g 5, 9, .inr (.inl f28)))] z_10 s H locs := hW
                            refine lv_iload hx hb dL_undone_351 (lv_at hl 0 rfl) ?_
                            refine lv_iconst (v := 5) hx hb dL_undone_353 (by decide) ?_
                            refine lv_iushr hx hb dL_undone_354 rfl ?_
                            refine lv_topi (fun v63 ev63 => ?_)
                            replace h := h v63 ev63
                            refine lv_bipush (v := 6) hx hb dL_undone_355 (by decide) ?_
                            refine lv_irem hx hb dL_undone_357 (by decide) ?_
                            obtain ⟨n67, ⟨hn67, en67, hk9⟩, h⟩ := h
                            rw [show Value.int (v63 - v63 / (6 : Int32) * (6 : Int32)) = Value.int (nI n67) from congrArg Value.int en67]
                            refine je_kr (rest := [.ref (sw_ad g 0)]) (je_runV (i := 0) (As := [.int (nI n67)]) (rest := [.ref (sw_ad g 0)]) hx hb hml hown hts (kd_appi l g z_10 q50 b60 c61 ((([] ++ zsb 15) ++ zdec n59) ++ zsb 16) n67 hn67 hbd62 hk9 [(q1, .inl (sw_ac g 5, 9, .inr (.inl f28)))]) cw_J4_append_bf812 q_919 rfl rfl ⟨by rw [hRf]; exact (Nat.le_of_ble_eq_true rfl), by rw [hRl]; exact (Nat.le_of_ble_eq_true rfl)⟩ hW rfl rfl rfl hl.1 rfl (Nat.le_of_ble_eq_true rfl) dL_undone_358 ⟨(zc1 (D := 492) g20 (Nat.le_of_ble_eq_true rfl)), (zc1 (D := 3448) g21 (Nat.le_of_ble_eq_true rfl))⟩) hW (fun u9 H locs h9 hW => ?_)
                            clear hk9
                            obtain ⟨b64, c65⟩ := u9
                            have hbd66 : zbd (((([] ++ zsb 15) ++ zdec n59) ++ zsb 16) ++ zdec n67) c65 := h9
                            show W _ _ _ _ _ _ _ _ _ _ _ _ _ _ _ (F0 m _ ls [.ref q50, .ref (sw_ad g 0)])
                            have hW : zl_Wd g [(q50, zSo g b64 (((([] ++ zsb 15) ++ zdec n59) ++ zsb 16) ++ zdec n67).length), (b64, zBb g c65 (((([] ++ zsb 15) ++ zdec n59) ++ zsb 16) ++ zdec n67)), (q1, .inl (sw_ac g 5, 9, .inr (.inl f28)))] z_10 s H locs := hW
                            refine sw_ldcW hx hb hown (hW.2.2.2.2.2.2.2.2.2.1 11 (Nat.le_of_ble_eq_true rfl)).2.2.2.2 dL_undone_361 ?_
                            have hk9 := h.1
                            replace h := h.2
                            refine je_kr (rest := [.ref (sw_ad g 0)]) (je_runV (i := 0) (As := [.ref (sw_sk g 11)]) (rest := [.ref (sw_ad g 0)]) hx hb hml hown hts (kd_appC l g z_10 q50 b64 c65 (((([] ++ zsb 15) ++ zdec n59) ++ zsb 16) ++ zdec n67) 11 (Nat.le_of_ble_eq_true rfl) hbd66 hk9 [(q1, .inl (sw_ac g 5, 9, .inr (.inl f28)))]) cw_J4_append_15ec4 q_794 rfl rfl ⟨by rw [hRf]; exact (Nat.le_of_ble_eq_true rfl), by rw [hRl]; exact (Nat.le_of_ble_eq_true rfl)⟩ hW rfl rfl rfl hl.1 rfl (Nat.le_of_ble_eq_true rfl) dL_undone_364 ⟨(zc1 (D := 493) g20 (Nat.le_of_ble_eq_true rfl)), (zc1 (D := 3576) g21 (Nat.le_of_ble_eq_true rfl))⟩) hW (fun u9 H locs h9 hW => ?_)
                            clear hk9
                            obtain ⟨b68, c69⟩ := u9
                            have hbd70 : zbd ((((([] ++ zsb 15) ++ zdec n59) ++ zsb 16) ++ zdec n67) ++ zsb 11) c69 := h9
                            show W _ _ _ _ _ _ _ _ _ _ _ _ _ _ _ (F0 m _ ls [.ref q50, .ref (sw_ad g 0)])
                            have hW : zl_Wd g [(q50, zSo g b68 ((((([] ++ zsb 15) ++ zdec n59) ++ zsb 16) ++ zdec n67) ++ zsb 11).length), (b68, zBb g c69 ((((([] ++ zsb 15) ++ zdec n59) ++ zsb 16) ++ zdec n67) ++ zsb 11)), (q1, .inl (sw_ac g 5, 9, .inr (.inl f28)))] z_10 s H locs := hW
                            refine lv_iload hx hb dL_undone_367 (lv_at hl 0 rfl) ?_
                            refine lv_bipush (v := 8) hx hb dL_undone_369 (by decide) ?_
                            refine lv_iushr hx hb dL_undone_371 rfl ?_
                            refine lv_topi (fun v71 ev71 => ?_)
                            replace h := h v71 ev71
                            refine lv_bipush (v := 8) hx hb dL_undone_372 (by decide) ?_
                            refine lv_irem hx hb dL_undone_374 (by decide) ?_
                            obtain ⟨n75, ⟨hn75, en75, hk9⟩, h⟩ := h
                            rw [show Value.int (v71 - v71 / (8 : Int32) * (8 : Int32)) = Value.int (nI n75) from congrArg Value.int en75]
                            refine je_kr (rest := [.ref (sw_ad g 0)]) (je_runV (i := 0) (As := [.int (nI n75)]) (rest := [.ref (sw_ad g 0)]) hx hb hml hown hts (kd_appi l g z_10 q50 b68 c69 ((((([] ++ zsb 15) ++ zdec n59) ++ zsb 16) ++ zdec n67) ++ zsb 11) n75 hn75 hbd70 hk9 [(q1, .inl (sw_ac g 5, 9, .inr (.inl f28)))]) cw_J4_append_bf812 q_919 rfl rfl ⟨by rw [hRf]; exact (Nat.le_of_ble_eq_true rfl), by rw [hRl]; exact (Nat.le_of_ble_eq_true rfl)⟩ hW rfl rfl rfl hl.1 rfl (Nat.le_of_ble_eq_true rfl) dL_undone_375 ⟨(zc1 (D := 494) g20 (Nat.le_of_ble_eq_true rfl)), (zc1 (D := 3704) g21 (Nat.le_of_ble_eq_true rfl))⟩) hW (fun u9 H locs h9 hW => ?_)
                            clear hk9
                            obtain ⟨b72, c73⟩ := u9
                            have hbd74 : zbd (((((([] ++ zsb 15) ++ zdec n59) ++ zsb 16) ++ zdec n67) ++ zsb 11) ++ zdec n75) c73 := h9
                            show W _ _ _ _ _ _ _ _ _ _ _ _ _ _ _ (F0 m _ ls [.ref q50, .ref (sw_ad g 0)])
                            have hW : zl_Wd g [(q50, zSo g b72 (((((([] ++ zsb 15) ++ zdec n59) ++ zsb 16) ++ zdec n67) ++ zsb 11) ++ zdec n75).length), (b72, zBb g c73 (((((([] ++ zsb 15) ++ zdec n59) ++ zsb 16) ++ zdec n67) ++ zsb 11) ++ zdec n75)), (q1, .inl (sw_ac g 5, 9, .inr (.inl f28)))] z_10 s H locs := hW
                            refine sw_ldcW hx hb hown (hW.2.2.2.2.2.2.2.2.2.1 17 (Nat.le_of_ble_eq_true rfl)).2.2.2.2 dL_undone_378 ?_
                            have hk9 := h.1
                            replace h := h.2
                            refine je_kr (rest := [.ref (sw_ad g 0)]) (je_runV (i := 0) (As := [.ref (sw_sk g 17)]) (rest := [.ref (sw_ad g 0)]) hx hb hml hown hts (kd_appC l g z_10 q50 b72 c73 (((((([] ++ zsb 15) ++ zdec n59) ++ zsb 16) ++ zdec n67) ++ zsb 11) ++ zdec n75) 17 (Nat.le_of_ble_eq_true rfl) hbd74 hk9 [(q1, .inl (sw_ac g 5, 9, .inr (.inl f28)))]) cw_J4_append_15ec4 q_794 rfl rfl ⟨by rw [hRf]; exact (Nat.le_of_ble_eq_true rfl), by rw [hRl]; exact (Nat.le_of_ble_eq_true rfl)⟩ hW rfl rfl rfl hl.1 rfl (Nat.le_of_ble_eq_true rfl) dL_undone_381 ⟨(zc1 (D := 495) g20 (Nat.le_of_ble_eq_true rfl)), (zc1 (D := 3832) g21 (Nat.le_of_ble_eq_true rfl))⟩) hW (fun u9 H locs h9 hW => ?_)
                            clear hk9
                            obtain ⟨b76, c77⟩ := u9
                            have hbd78 : zbd ((((((([] ++ zsb 15) ++ zdec n59) ++ zsb 16) ++ zdec n67) ++ zsb 11) ++ zdec n75) ++ zsb 17) c77 := h9
                            show W _ _ _ _ _ _ _ _ _ _ _ _ _ _ _ (F0 m _ ls [.ref q50, .ref (sw_ad g 0)])
                            have hW : zl_Wd g [(q50, zSo g b76 ((((((([] ++ zsb 15) ++ zdec n59) ++ zsb 16) ++ zdec n67) ++ zsb 11) ++ zdec n75) ++ zsb 17).length), (b76, zBb g c77 ((((((([] ++ zsb 15) ++ zdec n59) ++ zsb 16) ++ zdec n67) ++ zsb 11) ++ zdec n75) ++ zsb 17)), (q1, .inl (sw_ac g 5, 9, .inr (.inl f28)))] z_10 s H locs := hW
                            refine lv_iload hx hb dL_undone_384 (lv_at hl 0 rfl) ?_
                            refine lv_bipush (v := 12) hx hb dL_undone_386 (by decide) ?_
                            refine lv_iushr hx hb dL_undone_388 rfl ?_
                            refine lv_topi (fun v79 ev79 => ?_)
                            replace h := h v79 ev79
                            refine lv_bipush (v := 8) hx hb dL_undone_389 (by decide) ?_
                            refine lv_irem hx hb dL_undone_391 (by decide) ?_
                            obtain ⟨n83, ⟨hn83, en83, hk9⟩, h⟩ := h
                            rw [show Value.int (v79 - v79 / (8 : Int32) * (8 : Int32)) = Value.int (nI n83) from congrArg Value.int en83]
                            refine je_kr (rest := [.ref (sw_ad g 0)]) (je_runV (i := 0) (As := [.int (nI n83)]) (rest := [.ref (sw_ad g 0)]) hx hb hml hown hts (kd_appi l g z_10 q50 b76 c77 ((((((([] ++ zsb 15) ++ zdec n59) ++ zsb 16) ++ zdec n67) ++ zsb 11) ++ zdec n75) ++ zsb 17) n83 hn83 hbd78 hk9 [(q1, .inl (sw_ac g 5, 9, .inr (.inl f28)))]) cw_J4_append_bf812 q_919 rfl rfl ⟨by rw [hRf]; exact (Nat.le_of_ble_eq_true rfl), by rw [hRl]; exact (Nat.le_of_ble_eq_true rfl)⟩ hW rfl rfl rfl hl.1 rfl (Nat.le_of_ble_eq_true rfl) dL_undone_392 ⟨(zc1 (D := 496) g20 (Nat.le_of_ble_eq_true rfl)), (zc1 (D := 3960) g21 (Nat.le_of_ble_eq_true rfl))⟩) hW (fun u9 H locs h9 hW => ?_)
                            clear hk9
                            obtain ⟨b80, c81⟩ := u9
                            have hbd82 : zbd (((((((([] ++ zsb 15) ++ zdec n59) ++ zsb 16) ++ zdec n67) ++ zsb 11) ++ zdec n75) ++ zsb 17) ++ zdec n83) c81 := h9
                            show W _ _ _ _ _ _ _ _ _ _ _ _ _ _ _ (F0 m _ ls [.ref q50, .ref (sw_ad g 0)])
                            have hW : zl_Wd g [(q50, zSo g b80 (((((((([] ++ zsb 15) ++ zdec n59) ++ zsb 16) ++ zdec n67) ++ zsb 11) ++ zdec n75) ++ zsb 17) ++ zdec n83).length), (b80, zBb g c81 (((((((([] ++ zsb 15) ++ zdec n59) ++ zsb 16) ++ zdec n67) ++ zsb 11) ++ zdec n75) ++ zsb 17) ++ zdec n83)), (q1, .inl (sw_ac g 5, 9, .inr (.inl f28)))] z_10 s H locs := hW
                            have hk9 := h.1
                            replace h := h.2
                            refine je_kr (rest := [.ref (sw_ad g 0)]) (je_runV (i := 0) (As := []) (rest := [.ref (sw_ad g 0)]) hx hb hml hown hts (kd_str l g z_10 q50 b80 c81 (((((((([] ++ zsb 15) ++ zdec n59) ++ zsb 16) ++ zdec n67) ++ zsb 11) ++ zdec n75) ++ zsb 17) ++ zdec n83) hk9 hbd82 [(q1, .inl (sw_ac g 5, 9, .inr (.inl f28)))]) cw_J4_toString_0e30d q_942 rfl rfl ⟨by rw [hRf]; exact (Nat.le_of_ble_eq_true rfl), by rw [hRl]; exact (Nat.le_of_ble_eq_true rfl)⟩ hW rfl rfl rfl hl.1 rfl (Nat.le_of_ble_eq_true rfl) dL_undone_395 ⟨(zc1 (D := 498) g20 (Nat.le_of_ble_eq_true rfl)), (zc1 (D := 4028) g21 (Nat.le_of_ble_eq_true rfl))⟩) hW (fun u9 H locs h9 hW => ?_)
                            clear hk9
                            obtain ⟨v84, w85⟩ := u9
                            show W _ _ _ _ _ _ _ _ _ _ _ _ _ _ _ (F0 m _ ls [.ref v84, .ref (sw_ad g 0)])
                            have hW : zl_Wd g [(v84, zTo g w85), (w85, zTb g (((((((([] ++ zsb 15) ++ zdec n59) ++ zsb 16) ++ zdec n67) ++ zsb 11) ++ zdec n75) ++ zsb 17) ++ zdec n83)), (q1, .inl (sw_ac g 5, 9, .inr (.inl f28)))] z_10 s H locs := hW
                            have hk9 := h.1
                            replace h := h.2
                            refine zt_ki (g := g) (rest := []) (je_runS (As := [.ref (sw_ad g 0), .ref v84]) (rest := []) hx hb hml hown hts (kL_run l hst g  (((((((([] ++ zsb 15) ++ zdec n59) ++ zsb 16) ++ zdec n67) ++ zsb 11) ++ zdec n75) ++ zsb 17) ++ zdec n83) v84 w85 0 1 [(v84, zTo g w85), (w85, zTb g (((((((([] ++ zsb 15) ++ zdec n59) ++ zsb 16) ++ zdec n67) ++ zsb 11) ++ zdec n75) ++ zsb 17) ++ zdec n83)), (q1, .inl (sw_ac g 5, 9, .inr (.inl f28)))] z_10 _ rfl rfl hk9 h) cs_L_run q_1078 rfl rfl ⟨by rw [hRf]; exact (Nat.le_of_ble_eq_true rfl), by rw [hRl]; exact (Nat.le_of_ble_eq_true rfl)⟩ hW rfl hl.1 rfl (Nat.le_of_ble_eq_true rfl) dL_undone_398 ⟨(zc1 (D := 564) g20 (Nat.le_of_ble_eq_true rfl)), (zc1 (D := 4424) g21 (Nat.le_of_ble_eq_true rfl))⟩) hW (fun r86 z9 H locs h hW => ?_)
                            clear hk9
                            obtain ⟨zp87, ezp87⟩ : ∃ z : zG, z = z9 := ⟨_, rfl⟩
                            rw [← ezp87] at h hW
                            refine lv_istore (lv' := [(7, .int r86), (6, .int v25), (5, .int v24), (0, .ref b), (1, .ref (sw_ad g 0)), (2, .ref q1), (3, .int x3_10), (4, .int x4_10)]) hx hb dL_undone_401 hl (Nat.le_of_ble_eq_true rfl) rfl (fun ls hl => ?_)
                            have hW := zl_sub (E' := [(q1, .inl (sw_ac g 5, 9, .inr (.inl f28)))]) hW [2] (by decide) rfl
                            exact hJ403 r86 zp87 _ _ _ _ _ h (zc1 (D := 564) g48 (Nat.le_of_ble_eq_true rfl)) (zc1 (D := 4424) g49 (Nat.le_of_ble_eq_true rfl)) hW (lv_sub hl [3, 4, 5, 6, 7, 0] rfl)
  exact key10 8 (0 : Int32) (0 : Int32) z (fun _ => 0) _ _ _ _ _ h (Nat.le_of_eq hCL10.symm) (Nat.le_of_eq hSL10.symm) hW (lv_sub hl [3, 4, 2, 1, 0] rfl)
