/-! Each answer is a small number. -/
def vOK (s : Nat × Nat × zG) : Prop := s.1 ≤ 3 ∧ s.2.1 < 2 ^ 31 ∧ GI s.2.2
theorem v_ok {g : zG} (hG : GI g) {v : Nat} (hv : v < 2 ^ 31) : vOK (0, v, g) := ⟨Nat.zero_le _, hv, hG⟩
theorem v_no {g : zG} (hG : GI g) {c : Nat} (hc : c ≤ 3) : vOK (c, 0, g) := ⟨hc, (show 0 < 2 ^ 31 by decide), hG⟩
theorem v_S {g : zG} (hG : GI g) {o : Nat × Nat × (Nat → Nat)} {q : Prop} {n : Nat} (hc : o.1 ≤ n ∧ q) (hn : n ≤ 3) (hv : o.2.1 < 2 ^ 31) (hB : rB o.2.2) : vOK (zstep g o) := ⟨Nat.le_trans hc.1 hn, hv, GI_chg hG hB⟩
theorem v_b {p : Prop} [Decidable p] : (if p then 1 else 0) < 2 ^ 31 := by split <;> omega
theorem v_D {g : zG} (hG : GI g) {x : Int32} (h : zok x (g.1 0)) : x.toNatClampNeg < 8 := by
  have hD := rB_D hG.1
  obtain ⟨k, hk, rfl⟩ := zok_t h (by omega)
  rw [cl (by omega)]; omega
theorem v_E {g : zG} (hG : GI g) {x : Int32} (h : zok x (g.1 1)) : x.toNatClampNeg < 6 := by
  have hD := rB_E hG.1
  obtain ⟨k, hk, rfl⟩ := zok_t h (by omega)
  rw [cl (by omega)]; omega
theorem v_N {g : zG} (hG : GI g) {x : Int32} (h : zen x (g.1 3)) : x.toNatClampNeg - 1 < 8 := by
  have hD := rB_N hG.1
  obtain ⟨k, hk, rfl⟩ := zen_t h (by omega)
  rw [cl (by omega)]; omega
theorem v_topic {g : zG} (hG : GI g) (x : Int32) : vOK (s_topic g x) := by
  unfold s_topic; split
  · rename_i z; have b := hG.1.2.1 _ (v_D hG z); exact v_ok hG (by omega)
  · exact v_no hG (by decide)
theorem v_frameOfDoor {g : zG} (hG : GI g) (x : Int32) : vOK (s_frameOfDoor g x) := by
  unfold s_frameOfDoor; split
  · rename_i z; have b := hG.1.2.1 _ (v_D hG z); exact v_ok hG (by omega)
  · exact v_no hG (by decide)
theorem v_examinersOf {g : zG} (hG : GI g) (x : Int32) : vOK (s_examinersOf g x) := by
  unfold s_examinersOf; split
  · rename_i z; have b := zcnt_le hG.1 (v_D hG z); exact v_ok hG (by omega)
  · exact v_no hG (by decide)
theorem v_gradesOf {g : zG} (hG : GI g) (x : Int32) : vOK (s_gradesOf g x) := by
  unfold s_gradesOf; split
  · rename_i z; have b := zgc_le hG.1 (v_D hG z); exact v_ok hG (by omega)
  · exact v_no hG (by decide)
theorem v_passes {g : zG} (hG : GI g) (x : Int32) : vOK (s_passes g x) := by
  unfold s_passes; split
  · exact v_ok hG v_b
  · exact v_no hG (by decide)
theorem v_isEntitled {g : zG} (hG : GI g) (x : Int32) : vOK (s_isEntitled g x) := by
  unfold s_isEntitled; split
  · exact v_ok hG v_b
  · exact v_no hG (by decide)
theorem v_wasGranted {g : zG} (hG : GI g) (x : Int32) : vOK (s_wasGranted g x) := by
  unfold s_wasGranted; split
  · exact v_ok hG v_b
  · exact v_no hG (by decide)
theorem v_load {g : zG} (hG : GI g) (x : Int32) : vOK (s_load g x) := by
  unfold s_load; split
  · rename_i z; have b := zload_le hG.1 (v_E hG z); have b2 := hG.1.2.2.1 _ (v_E hG z); exact v_ok hG (by omega)
  · exact v_no hG (by decide)
theorem v_frameOfExaminer {g : zG} (hG : GI g) (x : Int32) : vOK (s_frameOfExaminer g x) := by
  unfold s_frameOfExaminer; split
  · rename_i z; have b2 := hG.1.2.2.1 _ (v_E hG z); exact v_ok hG (by omega)
  · exact v_no hG (by decide)
theorem v_isNeutral {g : zG} (hG : GI g) (x y : Int32) : vOK (s_isNeutral g x y) := by
  unfold s_isNeutral; split
  · exact v_ok hG v_b
  · exact v_no hG (by decide)
theorem v_mayJudge {g : zG} (hG : GI g) (x y : Int32) : vOK (s_mayJudge g x y) := by
  unfold s_mayJudge; split
  · exact v_ok hG v_b
  · exact v_no hG (by decide)
theorem v_isAssigned {g : zG} (hG : GI g) (x y : Int32) : vOK (s_isAssigned g x y) := by
  unfold s_isAssigned; split
  · exact v_ok hG v_b
  · exact v_no hG (by decide)
theorem v_result {g : zG} (hG : GI g) (x : Int32) : vOK (s_result g x) := by
  unfold s_result; split
  · rename_i z; have b := zres_le hG.1 (v_D hG z)
    split
    · exact v_no hG (by decide)
    · exact v_ok hG (by omega)
  · exact v_no hG (by decide)
theorem v_gradeBy {g : zG} (hG : GI g) (x y : Int32) : vOK (s_gradeBy g x y) := by
  unfold s_gradeBy; split
  · rename_i z; have b := hG.1.2.2.2.1 _ _ (v_E hG z.1) (v_D hG z.2)
    split
    · exact v_no hG (by decide)
    · exact v_ok hG (by omega)
  · exact v_no hG (by decide)
theorem v_doorOf {g : zG} (hG : GI g) (x : Int32) : vOK (s_doorOf g x) := by
  unfold s_doorOf; split
  · rename_i z; have b := hG.1.2.2.2.2.1 _ (v_N hG z); exact v_ok hG (by omega)
  · exact v_no hG (by decide)
theorem v_isRevoked {g : zG} (hG : GI g) (x : Int32) : vOK (s_isRevoked g x) := by
  unfold s_isRevoked; split
  · exact v_ok hG v_b
  · exact v_no hG (by decide)
theorem v_doorAtRank {g : zG} (hG : GI g) (x : Int32) : vOK (s_doorAtRank g x) := by
  have hD := rB_D hG.1
  unfold s_doorAtRank; split
  · have b := zs_bound (f := fun k => if zrk g.1 k = x.toNatClampNeg then k else 0) (c := 8) (n := g.1 0) (fun k hk => by show (if _ then k else 0) ≤ 8; split <;> omega)
    have b2 : zat g.1 x.toNatClampNeg (g.1 0) ≤ _ := b
    exact v_ok hG (by omega)
  · exact v_no hG (by decide)
theorem v_writeDoor {g : zG} (hG : GI g) (x : Int32) : vOK (s_writeDoor g x) := by
  refine ⟨?_, ?_, s_writeDoor_G hG x⟩
  · unfold s_writeDoor; split <;> simp
  · unfold s_writeDoor; split
    · rename_i z; have lk := (zwd_k hG.1 (v_D hG z)).1; show (zwd g.1 _).1 < _; omega
    · show 0 < _; decide
theorem v_writeExaminer {g : zG} (hG : GI g) (x : Int32) : vOK (s_writeExaminer g x) := by
  refine ⟨?_, ?_, s_writeExaminer_G hG x⟩
  · unfold s_writeExaminer; split <;> simp
  · unfold s_writeExaminer; split
    · rename_i z; have lk := (zwx_k hG.1 (v_E hG z)).1; show (zwx g.1 _).1 < _; omega
    · show 0 < _; decide
theorem v_append {g : zG} (hG : GI g) {c : Nat} (hc : c < 65536) : vOK (s_append g c) := by
  have b := hG.2.2.2.1.1
  refine ⟨?_, ?_, s_append_G hG hc⟩
  · unfold s_append; split <;> simp
  · unfold s_append; split
    · show 0 < _; decide
    · show g.2.2.2.1.1 + 1 < _; omega
theorem v_told {g : zG} (hG : GI g) {e : Int32} (he : -1 ≤ e.toInt) : vOK (s_told g e) := by
  unfold s_told; split
  · exact v_no hG (by decide)
  · rename_i z
    obtain ⟨n, hn, rfl⟩ := told_n he z
    rw [cl hn]
    exact v_ok hG hn
theorem v_outputAt {g : zG} (hG : GI g) (x : Int32) : vOK (s_outputAt g x) := by
  have b := hG.2.2.2.2.2.1
  unfold s_outputAt; split
  · rename_i z
    obtain ⟨k, hk, rfl⟩ := zok_t z (by omega)
    rw [cl (by omega)]
    have b2 := hG.2.2.2.2.2.2 k hk
    exact v_ok hG (by omega)
  · exact v_no hG (by decide)
theorem v_undo {g : zG} (hG : GI g) : vOK (s_undo g) := by
  have b := hG.2.1.1
  refine ⟨?_, ?_, s_undo_G hG⟩
  · unfold s_undo; split <;> simp
  · unfold s_undo; split
    · show 0 < _; decide
    · show g.2.1.1 - 1 < _; omega
theorem v_restore {g : zG} (hG : GI g) : vOK (s_restore g) := by
  refine ⟨?_, ?_, s_restore_G hG⟩
  · unfold s_restore; split <;> simp
  · unfold s_restore; split
    · show 0 < _; decide
    · show 0 < _; decide
theorem v_planned {g : zG} (hG : GI g) (x : Int32) : vOK (s_planned g x) := by
  unfold s_planned; split
  · have b : zpe g.1 x.toNatClampNeg ≤ 6 := zbp_6
    split
    · exact v_no hG (by decide)
    · exact v_ok hG (by omega)
  · exact v_no hG (by decide)
theorem v_panelCount {g : zG} (hG : GI g) (x : Int32) : vOK (s_panelCount g x) := by
  unfold s_panelCount; split
  · have b := zpc_216 g.1 x.toNatClampNeg
    exact v_ok hG (by omega)
  · exact v_no hG (by decide)
theorem v_panelMember {g : zG} (hG : GI g) (x p : Int32) : vOK (s_panelMember g x p) := by
  unfold s_panelMember; split
  · split
    · split
      · exact v_no hG (by decide)
      · have b : zmb g.1 x.toNatClampNeg p.toNatClampNeg < 6 := zmb_6
        exact v_ok hG (by omega)
    · exact v_no hG (by decide)
  · exact v_no hG (by decide)
theorem v_run {g : zG} (hG : GI g) : vOK (s_run g) := by
  have l2 := zps_len (t := g.2.2.2.1.2) (n := g.2.2.2.1.1) 13 0
  have l3 := zex_i (zP g).2 g.1 0
  have l2 : (zP g).2.length ≤ 13 := l2
  refine ⟨?_, ?_, s_run_G hG⟩
  · unfold s_run
    split
    · simp
    · split <;> simp
  · unfold s_run
    split
    · show 0 < _; decide
    · split
      · show 0 < _; decide
      · show _ < 2 ^ 31
        first | omega | (dsimp only; omega)
