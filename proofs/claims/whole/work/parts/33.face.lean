/-! Text buffer, errors told, output, undo, save, restore; the changing calls at the face. -/
def ztext (g : zG) (n : Nat) (t : Nat → Nat) : zG := (g.1, g.2.1, g.2.2.1, (n, t), g.2.2.2.2)
def s_append (g : zG) (c : Nat) : Nat × Nat × zG := if g.2.2.2.1.1 = 60 then (1, 0, g) else (0, g.2.2.2.1.1 + 1, ztext g (g.2.2.2.1.1 + 1) (fun j => if j = g.2.2.2.1.1 then c else g.2.2.2.1.2 j))
theorem s_append_G {g : zG} (h : GI g) {c : Nat} (hc : c < 65536) : GI (s_append g c).2.2 := by
  unfold s_append
  split
  · exact h
  · rename_i z
    have h60 := h.2.2.2.1.1
    refine ⟨h.1, h.2.1, h.2.2.1, ⟨?_, fun j hj => ?_⟩, h.2.2.2.2⟩
    · show g.2.2.2.1.1 + 1 ≤ 60; omega
    · show (if j = g.2.2.2.1.1 then c else g.2.2.2.1.2 j) < 65536
      have hj : j < g.2.2.2.1.1 + 1 := hj
      split
      · exact hc
      · exact h.2.2.2.1.2 j (by omega)
theorem L_append {M : sM} {g : zG} (hC : CI M g) (hG : GI g) {c : Nat} (hc : c < 65536) {o : sO} {d : sE} {Q : Int32 → sM → sO → sE → Prop} (h : kC M (s_append g c) d Q) : wL_append (nI c) M o d Q := by
  have h60 := hG.2.2.2.1.1
  have e14 : M 14 1 = nI g.2.2.2.1.1 := hC.2.2.2.1.1
  unfold wL_append wX6_append wX4_isFull
  rw [e14]
  by_cases z : g.2.2.2.1.1 = 60
  · rw [show s_append g c = (1, 0, g) from if_pos z] at h
    rw [z]
    exact brf (nI_nlt (a := 60) (b := 60) (Nat.le_refl _) (by decide)) (br1 (brt rfl (kC_no h (by decide) hC)))
  · rw [show s_append g c = _ from if_neg z] at h
    refine brt (nI_lt (b := 60) (by omega) (by decide)) (br0 ?_)
    unfold wX4_extend
    rw [e14, cl (by omega), nar_c hc]
    refine brf (nI_ge (b := 60) (by omega) (by decide)) ⟨vin (by omega) (by decide), ?_⟩
    intro M3 e3 M4 e4
    have q : M3 14 1 = nI g.2.2.2.1.1 := by rw [e3, sw_ms_n _ _ _ (by decide)]; exact e14
    rw [q, ia1] at e4
    have q4 : M4 14 1 = nI (g.2.2.2.1.1 + 1) := by rw [e4, ms_e]
    rw [q4]
    have f : fr 14 16 M M4 := fr_t (e3 ▸ fr_s M _ _ (by decide)) (e4 ▸ fr_s M3 _ _ (by decide))
    refine kC_w2 h (show g.2.2.2.1.1 + 1 < _ by omega) (fun k a b => f k (by omega)) ?_
    obtain ⟨h1, ⟨h2, s, h3, h4, h5⟩, h6, h7, h8, h9⟩ := hC
    refine ⟨rS_fr h1 (fun b _ => f _ (by unfold sw_st; omega)), ⟨?_, s, h3, ?_, fun j hj => rS_fr (h5 j hj) (fun b _ => f _ (by unfold sw_st; omega))⟩, ⟨?_, fun z => rS_fr (h6.2 z) (fun b _ => f _ (by unfold sw_st; omega))⟩, ⟨q4, fun j hj => ?_⟩, ?_, ?_⟩
    · rw [f 1 (by decide)]; exact h2
    · rw [f 1 (by decide)]; exact h4
    · rw [f 0 (by decide)]; exact h6.1
    · rw [e4, sw_ms_n _ _ _ (by decide), e3]
      show sw_ms M 15 g.2.2.2.1.1 (nI c) 15 j = nI (if j = g.2.2.2.1.1 then c else g.2.2.2.1.2 j)
      have hj : j < g.2.2.2.1.1 + 1 := hj
      by_cases w : j = g.2.2.2.1.1
      · rw [w, ms_e, if_pos rfl]
      · rw [ms_j _ _ _ w, if_neg w]; exact h7.2 j (by omega)
    · rw [f 0 (by decide)]; exact h8
    · rw [f 31 (by decide), f 32 (by decide)]; exact h9
theorem m_append {M : sM} {g : zG} (hM : MI M g) (hG : GI g) {c : Nat} (hc : c < 65536) {Q : Int32 → sM → Prop} (h : kM M (s_append g c) Q) : wX7_append (nI c) M Q := by
  have h60 := hG.2.2.2.1.1
  have e13 : M 33 13 = nI g.2.2.2.1.1 := hM.2.2.2.1.1
  unfold wX7_append
  rw [e13]
  by_cases z : g.2.2.2.1.1 = 60
  · rw [show s_append g c = (1, 0, g) from if_pos z] at h
    rw [z]
    refine brt rfl ?_
    unfold jX7_append_15
    intro M1 e1
    subst e1
    rw [ms_e]
    exact brf (by decide) (kM_no h (by decide) (fM_6 M _) (MI_6 hM _) (ms_e _ _ _ _) _)
  · rw [show s_append g c = _ from if_neg z] at h
    refine brf (fun w => z ((nI_eq (b := 60) (by omega) (by decide)).mp w)) ?_
    unfold jX7_append_15
    intro M1 e1
    have i1 := MI_6 hM (0 : Int32)
    have f1 := fM_6 M (0 : Int32)
    rw [← e1] at i1 f1
    have t1 : M1 33 6 = 0 := by rw [e1, ms_e]
    rw [t1, i1.2.2.2.1.1, cl (by omega), nar_c hc]
    refine brt (nI_le (a := 0) (b := 0) (Nat.le_refl _) (by decide)) ⟨vin (by omega) (by decide), ?_⟩
    intro M4 e4 M5 e5
    have q : M4 33 13 = nI g.2.2.2.1.1 := by rw [e4, sw_ms_n _ _ _ (by decide)]; exact i1.2.2.2.1.1
    rw [q, ia1] at e5
    have q5 : M5 33 13 = nI (g.2.2.2.1.1 + 1) := by rw [e5, ms_e]
    have nk : ∀ k, k ≠ 33 → k ≠ 43 → M5 k = M1 k := fun k a b => by rw [e5, sw_ms_n _ _ _ a, e4, sw_ms_n _ _ _ b]
    have nj : ∀ j, j ≠ 13 → M5 33 j = M1 33 j := fun j hj => by rw [e5, ms_j _ _ _ hj, e4, sw_ms_n _ _ _ (by decide)]
    rw [q5]
    refine h M5 _ (fM_t f1 (fun k hk => nk k (by omega) (by omega))) ?_ (by rw [nj 6 (by decide)]; exact t1) (fun _ => rfl)
    obtain ⟨h1, h2, h3, h4, h5, h6⟩ := i1
    refine ⟨rM_fr h1 (nk 34 (by decide) (by decide)), ?_, ?_, ⟨q5, fun j hj => ?_⟩, ?_, ?_⟩
    · rw [nj 5 (by decide), nk 37 (by decide) (by decide)]; exact h2
    · rw [nj 3 (by decide), nk 36 (by decide) (by decide)]; exact h3
    · rw [e5, sw_ms_n _ _ _ (by decide), e4]
      show sw_ms M1 43 g.2.2.2.1.1 (nI c) 43 j = nI (if j = g.2.2.2.1.1 then c else g.2.2.2.1.2 j)
      have hj : j < g.2.2.2.1.1 + 1 := hj
      by_cases w : j = g.2.2.2.1.1
      · rw [w, ms_e, if_pos rfl]
      · rw [ms_j _ _ _ w, if_neg w]; exact h4.2 j (by omega)
    · rw [nj 16 (by decide), nj 17 (by decide)]; exact h5
    · rw [nj 21 (by decide), nk 45 (by decide) (by decide)]; exact h6
theorem im1 : ((-1 : Int32)).toInt = -1 := by decide
/-- a number that may be none -/
def s_told (g : zG) (e : Int32) : Nat × Nat × zG := if e = -1 then (1, 0, g) else (0, e.toNatClampNeg, g)
theorem s_told_G {g : zG} (h : GI g) (x : Int32) : GI (s_told g x).2.2 := by unfold s_told; split <;> exact h
theorem told_n {e : Int32} (h : -1 ≤ e.toInt) (h2 : ¬ e = -1) : ∃ n : Nat, n < 2 ^ 31 ∧ e = nI n := by
  refine zI_nat ?_
  have : e.toInt ≠ -1 := fun z => h2 (by rw [zI_eq, im1]; exact z)
  omega
theorem L_told {M : sM} {g : zG} (hC : CI M g) {e : Int32} (he : -1 ≤ e.toInt) {o : sO} {d : sE} {Q : Int32 → sM → sO → sE → Prop} (h : kC M (s_told g e) d Q) : wX6_requireThere e (fun r1 => ∀ o2 : sO, o2 = vp_updL o ((0 : Int32)).toNatClampNeg ((r1).toInt64) → (Q (0 : Int32) M o2 d)) (fun E9 => (E9 = "java/util/NoSuchElementException" → (Q (1 : Int32) M o d)) ∧ (¬ E9 = "java/util/NoSuchElementException" → (False))) := by
  unfold wX6_requireThere
  by_cases z : e = -1
  · rw [show s_told g e = (1, 0, g) from if_pos z] at h
    exact brt z (brt rfl (kC_no h (by decide) hC))
  · rw [show s_told g e = _ from if_neg z] at h
    obtain ⟨n, hn, rfl⟩ := told_n he z
    rw [cl hn] at h
    exact brf z (kC_ok h hC hn)
theorem L_errorPosition {M : sM} {g : zG} (hC : CI M g) (hG : GI g) {o : sO} {d : sE} {Q : Int32 → sM → sO → sE → Prop} (h : kC M (s_told g g.2.2.2.2.1.1) d Q) : wL_errorPosition M o d Q := by
  unfold wL_errorPosition wX6_errorPosition
  rw [hC.2.2.2.2.1.1]
  exact L_told hC hG.2.2.2.2.1.1 h
theorem L_failedCommand {M : sM} {g : zG} (hC : CI M g) (hG : GI g) {o : sO} {d : sE} {Q : Int32 → sM → sO → sE → Prop} (h : kC M (s_told g g.2.2.2.2.1.2) d Q) : wL_failedCommand M o d Q := by
  unfold wL_failedCommand wX6_failedCommand
  rw [hC.2.2.2.2.1.2]
  exact L_told hC hG.2.2.2.2.1.2 h
theorem m_errorPosition {M : sM} {g : zG} (hM : MI M g) (hG : GI g) {Q : Int32 → sM → Prop} (h : kM M (s_told g g.2.2.2.2.1.1) Q) : wX7_errorPosition M Q := by
  have he := hG.2.2.2.2.1.1
  unfold wX7_errorPosition
  rw [hM.2.2.2.2.1.1]
  by_cases z : g.2.2.2.2.1.1 = -1
  · rw [show s_told g g.2.2.2.2.1.1 = (1, 0, g) from if_pos z] at h
    rw [z]
    refine brt (by decide) ?_
    unfold jX7_errorPosition_13
    exact m_there0 hM (fun M3 f3 i3 t3 => br0 (kM_no h (by decide) f3 i3 t3 _))
  · rw [show s_told g g.2.2.2.2.1.1 = _ from if_neg z] at h
    obtain ⟨n, hn, en⟩ := told_n he z
    rw [en, cl hn] at h
    rw [en]
    refine brf (nI_pos hn) ?_
    unfold jX7_errorPosition_13
    refine m_there1 hM (fun M3 f3 i3 t3 => br1 ?_)
    rw [i3.2.2.2.2.1.1, en]
    exact kM_ok h f3 i3 t3
theorem m_failedCommand {M : sM} {g : zG} (hM : MI M g) (hG : GI g) {Q : Int32 → sM → Prop} (h : kM M (s_told g g.2.2.2.2.1.2) Q) : wX7_failedCommand M Q := by
  have he := hG.2.2.2.2.1.2
  unfold wX7_failedCommand
  rw [hM.2.2.2.2.1.2]
  by_cases z : g.2.2.2.2.1.2 = -1
  · rw [show s_told g g.2.2.2.2.1.2 = (1, 0, g) from if_pos z] at h
    rw [z]
    refine brt (by decide) ?_
    unfold jX7_failedCommand_13
    exact m_there0 hM (fun M3 f3 i3 t3 => br0 (kM_no h (by decide) f3 i3 t3 _))
  · rw [show s_told g g.2.2.2.2.1.2 = _ from if_neg z] at h
    obtain ⟨n, hn, en⟩ := told_n he z
    rw [en, cl hn] at h
    rw [en]
    refine brf (nI_pos hn) ?_
    unfold jX7_failedCommand_13
    refine m_there1 hM (fun M3 f3 i3 t3 => br1 ?_)
    rw [i3.2.2.2.2.1.2, en]
    exact kM_ok h f3 i3 t3
def s_outputAt (g : zG) (x : Int32) : Nat × Nat × zG := if zok x g.2.2.2.2.2.1 then (0, g.2.2.2.2.2.2 x.toNatClampNeg, g) else (1, 0, g)
theorem s_outputAt_G {g : zG} (h : GI g) (x : Int32) : GI (s_outputAt g x).2.2 := by unfold s_outputAt; split <;> exact h
theorem L_outputAt {M : sM} {g : zG} (hC : CI M g) (hG : GI g) (x : Int32) {o : sO} {d : sE} {Q : Int32 → sM → sO → sE → Prop} (h : kC M (s_outputAt g x) d Q) : wL_outputAt x M o d Q := by
  have hl := hG.2.2.2.2.2.1
  unfold wL_outputAt wX6_outputAt
  rw [hC.2.2.2.2.2.1]
  by_cases hv : zok x g.2.2.2.2.2.1
  · obtain ⟨k, hk, rfl⟩ := zok_t hv (by omega)
    rw [show s_outputAt g (nI k) = (0, g.2.2.2.2.2.2 k, g) by unfold s_outputAt; rw [if_pos hv, cl (by omega)]] at h
    have hc := hG.2.2.2.2.2.2 k hk
    rw [cl (by omega), hC.2.2.2.2.2.2 k hk]
    exact brf (nI_pos (by omega)) (brt (nI_lt hk (by omega)) ⟨vin (by omega) (by decide), (pk_charN hc).1, kC_ok h hC (by omega)⟩)
  · rw [show s_outputAt g x = (1, 0, g) from if_neg hv] at h
    refine ⟨fun _ => brt rfl (kC_no h (by decide) hC), fun z => ⟨fun z2 => absurd ?_ hv, fun _ => brt rfl (kC_no h (by decide) hC)⟩⟩
    rw [Int32.lt_iff_toInt_lt] at z z2
    rw [zi0] at z
    rw [nI_toInt (by omega)] at z2
    exact ⟨by omega, z2⟩
theorem m_outputAt {M : sM} {g : zG} (hM : MI M g) (hG : GI g) (x : Int32) {Q : Int32 → sM → Prop} (h : kM M (s_outputAt g x) Q) : wX7_outputAt x M Q := by
  have hl := hG.2.2.2.2.2.1
  unfold wX7_outputAt
  rw [hM.2.2.2.2.2.1, show nI g.2.2.2.2.2.1 - (1 : Int32) = nP g.2.2.2.2.2.1 from rfl]
  by_cases hv : zok x g.2.2.2.2.2.1
  · obtain ⟨k, hk, rfl⟩ := zok_t hv (by omega)
    rw [show s_outputAt g (nI k) = (0, g.2.2.2.2.2.2 k, g) by unfold s_outputAt; rw [if_pos hv, cl (by omega)]] at h
    have hc := hG.2.2.2.2.2.2 k hk
    refine u7_in (fun _ _ => m_there1 hM (fun M3 f3 i3 t3 => br1 ⟨vin (by omega) (by decide), ?_⟩)) (fun z => absurd ⟨?_, ?_⟩ z)
    · rw [cl (by omega), i3.2.2.2.2.2.2 k hk]
      exact ⟨(pk_charN hc).1, kM_ok h f3 i3 t3⟩
    · rw [zi0]; exact hv.1
    · rw [nP_toInt (by omega), nI_toInt (by omega)]; omega
  · rw [show s_outputAt g x = (1, 0, g) from if_neg hv] at h
    refine u7_in (fun z1 z2 => absurd ?_ hv) (fun _ => m_there0 hM (fun M3 f3 i3 t3 => br0 ⟨rfl, kM_no h (by decide) f3 i3 t3 _⟩))
    rw [zi0] at z1
    rw [nP_toInt (by omega)] at z2
    exact ⟨z1, by omega⟩
/-! undo, save, restore -/
def s_undo (g : zG) : Nat × Nat × zG := if g.2.1.1 = 0 then (1, 0, g) else (0, g.2.1.1 - 1, (g.2.1.2 (g.2.1.1 - 1), (g.2.1.1 - 1, g.2.1.2), g.2.2))
theorem s_undo_G {g : zG} (h : GI g) : GI (s_undo g).2.2 := by
  unfold s_undo
  split
  · exact h
  · rename_i z
    have hk := h.2.1.1
    refine ⟨h.2.1.2 _ (by omega), ⟨?_, fun j hj => h.2.1.2 j ?_⟩, h.2.2⟩
    · show g.2.1.1 - 1 ≤ 8; omega
    · have hj : j < g.2.1.1 - 1 := hj
      omega
theorem L_undo {M : sM} {g : zG} (hC : CI M g) (hG : GI g) {o : sO} {d : sE} {Q : Int32 → sM → sO → sE → Prop} (h : kC M (s_undo g) d Q) : wL_undo M o d Q := by
  have hk := hG.2.1.1
  have hC0 := hC
  obtain ⟨h1, ⟨h2, s, h3, h4, h5⟩, h6⟩ := hC
  unfold wL_undo wX6_undo
  rw [h2]
  by_cases z : g.2.1.1 = 0
  · rw [show s_undo g = (1, 0, g) from if_pos z] at h
    rw [z]
    exact brt rfl (brt rfl (kC_no h (by decide) hC0))
  · rw [show s_undo g = _ from if_neg z] at h
    refine brf (fun w => z ((nI_eq (b := 0) (by omega) (by decide)).mp w)) ?_
    unfold wX0_stepBack wX0_takeBack
    intro M1 e1 M2 e2
    rw [h4, show nI s + (8 : Int32) = nI (s + 8) from nI_add s 8, rem9 (by omega)] at e1
    have q2 : M1 1 2 = nI g.2.1.1 := by rw [e1, ms_j _ _ _ (by decide)]; exact h2
    obtain ⟨K, hK⟩ : ∃ K, g.2.1.1 = K + 1 := ⟨g.2.1.1 - 1, by omega⟩
    rw [q2, hK, show nI (K + 1) - (1 : Int32) = nI K from nI_pred K] at e2
    have p1 : M2 1 1 = nI ((s + 8) % 9) := by rw [e2, ms_j _ _ _ (by decide), e1, ms_e]
    have p2 : M2 1 2 = nI K := by rw [e2, ms_e]
    have n2 : ∀ k, k ≠ 1 → M2 k = M k := fun k hk => by rw [e2, sw_ms_n _ _ _ hk, e1, sw_ms_n _ _ _ hk]
    have S := h5 K (by omega)
    rw [show (s + 9 - g.2.1.1 + K) % 9 = (s + 8) % 9 by omega] at S
    rw [p1, cl (by omega)]
    refine ⟨vin (by omega) (by decide), u5_copyFrom (by omega) (rS_fr S (fun b hb => n2 _ (by unfold sw_st; omega))) (hG.2.1.2 K (by omega)) (fun M3 f3 s3 => ?_)⟩
    have n3 : ∀ k, (k < 46 ∨ 63 ≤ k) → M3 k = M2 k := fun k hk => f3 k (by unfold sw_st; omega)
    have e3 : M3 1 2 = nI K := by rw [n3 1 (by decide)]; exact p2
    show ∀ o3 : sO, o3 = vp_updL o ((0 : Int32)).toNatClampNeg ((M3 1 2).toInt64) → Q 0 M3 o3 d
    rw [e3]
    rw [hK, Nat.add_sub_cancel] at h
    refine kC_w2 h (show K < _ by omega) (fun k a b => by rw [n3 k (by omega), n2 k (by omega)]) ?_
    refine ⟨s3, ⟨?_, (s + 8) % 9, by omega, ?_, fun j hj => ?_⟩, ⟨?_, fun w => rS_fr (h6.1.2 w) (fun b hb => by rw [n3 _ (by unfold sw_st; omega), n2 _ (by unfold sw_st; omega)])⟩, ?_, ?_, ?_⟩
    · rw [n3 1 (by decide)]; exact p2
    · rw [n3 1 (by decide)]; exact p1
    · have hj : j < K := hj
      have q := h5 j (by omega)
      show rS M3 (2 + ((s + 8) % 9 + 9 - K + j) % 9) (g.2.1.2 j)
      rw [show ((s + 8) % 9 + 9 - K + j) % 9 = (s + 9 - g.2.1.1 + j) % 9 by omega]
      exact rS_fr q (fun b hb => by rw [n3 _ (by unfold sw_st; omega), n2 _ (by unfold sw_st; omega)])
    · rw [n3 0 (by decide), n2 0 (by decide)]; exact h6.1.1
    · rw [n3 14 (by decide), n2 14 (by decide), n3 15 (by decide), n2 15 (by decide)]; exact h6.2.1
    · rw [n3 0 (by decide), n2 0 (by decide)]; exact h6.2.2.1
    · rw [n3 31 (by decide), n2 31 (by decide), n3 32 (by decide), n2 32 (by decide)]; exact h6.2.2.2
theorem m_undo {M : sM} {g : zG} (hM : MI M g) (hG : GI g) {Q : Int32 → sM → Prop} (h : kM M (s_undo g) Q) : wX7_undo M Q := by
  have hk := hG.2.1.1
  unfold wX7_undo
  rw [hM.2.1.1]
  by_cases z : g.2.1.1 = 0
  · rw [show s_undo g = (1, 0, g) from if_pos z] at h
    rw [z]
    refine brt rfl ?_
    unfold jX7_undo_13
    intro M1 e1
    subst e1
    rw [ms_e]
    exact brf (by decide) (kM_no h (by decide) (fM_6 M _) (MI_6 hM _) (ms_e _ _ _ _) _)
  · rw [show s_undo g = _ from if_neg z] at h
    refine brf (fun w => z ((nI_eq (b := 0) (by omega) (by decide)).mp w)) ?_
    unfold jX7_undo_13
    intro M1 e1
    have i1 := MI_6 hM (0 : Int32)
    have f1 := fM_6 M (0 : Int32)
    rw [← e1] at i1 f1
    have t1 : M1 33 6 = 0 := by rw [e1, ms_e]
    rw [t1]
    refine brt (nI_le (a := 0) (b := 0) (Nat.le_refl _) (by decide)) ?_
    intro M3 e3
    obtain ⟨K, hK⟩ : ∃ K, g.2.1.1 = K + 1 := ⟨g.2.1.1 - 1, by omega⟩
    rw [i1.2.1.1, hK, show nI (K + 1) - (1 : Int32) = nI K from nI_pred K] at e3
    have p5 : M3 33 5 = nI K := by rw [e3, ms_e]
    rw [p5, show (228 : Int32) * nI K = nI (228 * K) from pk_mul 228 K, cl (by omega), c0, i228]
    refine ⟨⟨nI_pos (by omega), n00, n228, by omega, by decide⟩, ?_⟩
    intro M4 e4
    have nk : ∀ k, k ≠ 33 → k ≠ 34 → M4 k = M1 k := fun k a b => by rw [e4, ma_n _ _ b, e3, sw_ms_n _ _ _ a]
    have nj : ∀ j, j ≠ 5 → M4 33 j = M1 33 j := fun j hj => by rw [e4, ma_n _ _ (by decide), e3, ms_j _ _ _ hj]
    have q5 : M4 33 5 = nI K := by rw [e4, ma_n _ _ (by decide)]; exact p5
    rw [q5]
    rw [hK, Nat.add_sub_cancel] at h
    obtain ⟨h1, h2, h3, h4, h5, h6⟩ := i1
    refine h M4 _ (fM_t f1 (fun k hk => nk k (by omega) (by omega))) ⟨fun q hq => ?_, ⟨q5, fun j q hj hq => ?_⟩, ?_, ?_, ?_, ?_⟩ (by rw [nj 6 (by decide)]; exact t1) (fun _ => rfl)
    · rw [e4, ma_e, pk_cpy_in (by omega) (by omega), e3, sw_ms_n _ _ _ (by decide), Nat.sub_zero]
      exact h2.2 K q (by omega) hq
    · have hj : j < K := hj
      rw [nk 37 (by decide) (by decide)]
      exact h2.2 j q (by omega) hq
    · rw [nj 3 (by decide), nk 36 (by decide) (by decide)]; exact h3
    · rw [nj 13 (by decide), nk 43 (by decide) (by decide)]; exact h4
    · rw [nj 16 (by decide), nj 17 (by decide)]; exact h5
    · rw [nj 21 (by decide), nk 45 (by decide) (by decide)]; exact h6
def zsave (g : zG) : zG := (g.1, g.2.1, (1, g.1), g.2.2.2)
theorem zsave_G {g : zG} (h : GI g) : GI (zsave g) := ⟨h.1, h.2.1, ⟨Nat.le_refl 1, fun _ => h.1⟩, h.2.2.2⟩
theorem L_save {M : sM} {g : zG} (hC : CI M g) (hG : GI g) {Q : sM → Prop} (h : ∀ M', fC M M' → CI M' (zsave g) → Q M') : wX6_save M Q := by
  obtain ⟨h1, ⟨h2, s, h3, h4, h5⟩, h6⟩ := hC
  unfold wX6_save
  refine u5_copyFrom (by decide) h1 hG.1 (fun M1 f1 s1 => ?_)
  intro M2 e2
  have n1 : ∀ k, k ≠ 0 → (k < 63 ∨ 80 ≤ k) → M2 k = M k := fun k a b => by rw [e2, sw_ms_n _ _ _ a]; exact f1 k (by unfold sw_st; omega)
  have n0 : ∀ j, j ≠ 2 → M2 0 j = M 0 j := fun j hj => by rw [e2, ms_j _ _ _ hj]; exact congrFun (f1 0 (by unfold sw_st; omega)) j
  refine h M2 (fun k a b => n1 k (by omega) (by omega)) ⟨rS_fr h1 (fun b hb => n1 _ (by unfold sw_st; omega) (by unfold sw_st; omega)), ⟨?_, s, h3, ?_, fun j hj => rS_fr (h5 j hj) (fun b hb => n1 _ (by unfold sw_st; omega) (by unfold sw_st; omega))⟩, ⟨?_, fun _ => rS_fr s1 (fun b hb => by rw [e2, sw_ms_n _ _ _ (by unfold sw_st; omega)])⟩, ?_, ?_, ?_⟩
  · rw [n1 1 (by decide) (by decide)]; exact h2
  · rw [n1 1 (by decide) (by decide)]; exact h4
  · rw [e2, ms_e]; rfl
  · rw [n1 14 (by decide) (by decide), n1 15 (by decide) (by decide)]; exact h6.2.1
  · rw [n0 8 (by decide), n0 9 (by decide)]; exact h6.2.2.1
  · rw [n1 31 (by decide) (by decide), n1 32 (by decide) (by decide)]; exact h6.2.2.2
theorem m_save {M : sM} {g : zG} (hM : MI M g) {Q : sM → Prop} (h : ∀ M', fM M M' → MI M' (zsave g) → Q M') : wX7_save M Q := by
  unfold wX7_save
  intro M1 e1
  have i1 := MI_6 hM (0 : Int32)
  have f1 := fM_6 M (0 : Int32)
  rw [← e1] at i1 f1
  rw [c0, i228]
  refine ⟨⟨n00, n00, n228, by decide, by decide⟩, ?_⟩
  intro M2 e2 M3 e3
  have nk : ∀ k, k ≠ 33 → k ≠ 36 → M3 k = M1 k := fun k a b => by rw [e3, sw_ms_n _ _ _ a, e2, ma_n _ _ b]
  have nj : ∀ j, j ≠ 3 → M3 33 j = M1 33 j := fun j hj => by rw [e3, ms_j _ _ _ hj, e2, ma_n _ _ (by decide)]
  obtain ⟨h1, h2, h3, h4, h5, h6⟩ := i1
  refine h M3 (fM_t f1 (fun k hk => nk k (by omega) (by omega))) ⟨rM_fr h1 (nk 34 (by decide) (by decide)), ?_, ⟨?_, fun _ q hq => ?_⟩, ?_, ?_, ?_⟩
  · rw [nj 5 (by decide), nk 37 (by decide) (by decide)]; exact h2
  · rw [e3, ms_e]; rfl
  · rw [e3, sw_ms_n _ _ _ (by decide), e2, ma_e, pk_cpy_in (by omega) (by omega), Nat.zero_add, Nat.sub_zero]
    exact h1 q hq
  · rw [nj 13 (by decide), nk 43 (by decide) (by decide)]; exact h4
  · rw [nj 16 (by decide), nj 17 (by decide)]; exact h5
  · rw [nj 21 (by decide), nk 45 (by decide) (by decide)]; exact h6
def s_restore (g : zG) : Nat × Nat × zG := if g.2.2.1.1 = 0 then (1, 0, g) else (0, 0, (g.2.2.1.2, (0, g.2.1.2), g.2.2))
theorem s_restore_G {g : zG} (h : GI g) : GI (s_restore g).2.2 := by
  unfold s_restore
  split
  · exact h
  · rename_i z
    have hk := h.2.2.1.1
    exact ⟨h.2.2.1.2 (by omega), ⟨Nat.zero_le _, fun j hj => absurd hj (Nat.not_lt_zero j)⟩, h.2.2⟩
theorem L_restore {M : sM} {g : zG} (hC : CI M g) (hG : GI g) {o : sO} {d : sE} {Q : Int32 → sM → sO → sE → Prop} (h : ∀ M', fC M M' → CI M' (s_restore g).2.2 → Q (nI (s_restore g).1) M' o d) : wL_restore M o d Q := by
  have hk := hG.2.2.1.1
  have hC0 := hC
  obtain ⟨h1, ⟨h2, s, h3, h4, h5⟩, h6⟩ := hC
  unfold wL_restore wX6_restore
  rw [h6.1.1]
  by_cases z : g.2.2.1.1 = 0
  · rw [show s_restore g = (1, 0, g) from if_pos z] at h
    rw [z]
    exact brt rfl (brt rfl (h M (fC_r M) hC0))
  · rw [show s_restore g = _ from if_neg z] at h
    refine brf (fun w => z ((nI_eq (b := 0) (by omega) (by decide)).mp w)) ?_
    refine u5_copyFrom (by decide) (h6.1.2 (by omega)) (hG.2.2.1.2 (by omega)) (fun M1 f1 s1 => ?_)
    unfold wX0_forget
    intro M2 e2
    have n1 : ∀ k, k ≠ 1 → (k < 46 ∨ 63 ≤ k) → M2 k = M k := fun k a b => by rw [e2, sw_ms_n _ _ _ a]; exact f1 k (by unfold sw_st; omega)
    refine h M2 (fun k a b => n1 k (by omega) (by omega)) ⟨rS_fr s1 (fun b hb => by rw [e2, sw_ms_n _ _ _ (by unfold sw_st; omega)]), ⟨?_, s, h3, ?_, fun j hj => absurd hj (Nat.not_lt_zero j)⟩, ⟨?_, fun w => rS_fr (h6.1.2 w) (fun b hb => n1 _ (by unfold sw_st; omega) (by unfold sw_st; omega))⟩, ?_, ?_, ?_⟩
    · rw [e2, ms_e]; rfl
    · rw [e2, ms_j _ _ _ (by decide), f1 1 (by unfold sw_st; omega)]; exact h4
    · rw [n1 0 (by decide) (by decide)]; exact h6.1.1
    · rw [n1 14 (by decide) (by decide), n1 15 (by decide) (by decide)]; exact h6.2.1
    · rw [n1 0 (by decide) (by decide)]; exact h6.2.2.1
    · rw [n1 31 (by decide) (by decide), n1 32 (by decide) (by decide)]; exact h6.2.2.2
theorem m_restore {M : sM} {g : zG} (hM : MI M g) (hG : GI g) {Q : sM → Prop} (h : ∀ M', fM M M' → MI M' (s_restore g).2.2 → M' 33 6 = nI (s_restore g).1 → Q M') : wX7_restore M Q := by
  have hk := hG.2.2.1.1
  unfold wX7_restore
  rw [hM.2.2.1.1]
  by_cases z : g.2.2.1.1 = 0
  · rw [show s_restore g = (1, 0, g) from if_pos z] at h
    rw [z]
    refine brt rfl ?_
    unfold jX7_restore_13
    intro M1 e1
    subst e1
    rw [ms_e]
    exact brf (by decide) (h _ (fM_6 M _) (MI_6 hM _) (ms_e _ _ _ _))
  · rw [show s_restore g = _ from if_neg z] at h
    refine brf (fun w => z ((nI_eq (b := 0) (by omega) (by decide)).mp w)) ?_
    unfold jX7_restore_13
    intro M1 e1
    have i1 := MI_6 hM (0 : Int32)
    have f1 := fM_6 M (0 : Int32)
    rw [← e1] at i1 f1
    have t1 : M1 33 6 = 0 := by rw [e1, ms_e]
    rw [t1, c0, i228]
    refine brt rfl ⟨⟨n00, n00, n228, by decide, by decide⟩, ?_⟩
    intro M3 e3 M4 e4
    have nk : ∀ k, k ≠ 33 → k ≠ 34 → M4 k = M1 k := fun k a b => by rw [e4, sw_ms_n _ _ _ a, e3, ma_n _ _ b]
    have nj : ∀ j, j ≠ 5 → M4 33 j = M1 33 j := fun j hj => by rw [e4, ms_j _ _ _ hj, e3, ma_n _ _ (by decide)]
    obtain ⟨h1, h2, h3, h4, h5, h6⟩ := i1
    refine h M4 (fM_t f1 (fun k hk => nk k (by omega) (by omega))) ⟨fun q hq => ?_, ⟨?_, fun j q hj hq => absurd hj (Nat.not_lt_zero j)⟩, ?_, ?_, ?_, ?_⟩ (by rw [nj 6 (by decide)]; exact t1)
    · rw [e4, sw_ms_n _ _ _ (by decide), e3, ma_e, pk_cpy_in (by omega) (by omega), Nat.zero_add, Nat.sub_zero]
      exact h3.2 (by omega) q hq
    · rw [e4, ms_e]; rfl
    · rw [nj 3 (by decide), nk 36 (by decide) (by decide)]; exact h3
    · rw [nj 13 (by decide), nk 43 (by decide) (by decide)]; exact h4
    · rw [nj 16 (by decide), nj 17 (by decide)]; exact h5
    · rw [nj 21 (by decide), nk 45 (by decide) (by decide)]; exact h6
/-! the changing calls at the face -/
def zstep (g : zG) (o : Nat × Nat × (Nat → Nat)) : Nat × Nat × zG := (o.1, o.2.1, zchg g o)
theorem oDoor_c (a : Nat → Nat) (f t : Int32) : (oDoor a f t).1 ≤ 2 ∧ ((oDoor a f t).1 ≠ 0 → (oDoor a f t).2.2 = a) := by
  unfold oDoor
  repeat' split
  all_goals first | exact ⟨by simp, fun _ => rfl⟩ | exact ⟨Nat.zero_le _, fun z => absurd rfl z⟩
theorem oDoor_v {a : Nat → Nat} (hb : rB a) (f t : Int32) : (oDoor a f t).2.1 < 2 ^ 31 := by
  have hD := rB_D hb
  have hE := rB_E hb
  have hT := rB_T hb
  have hN := rB_N hb
  unfold oDoor
  repeat' split
  all_goals first | exact (by decide : 0 < 2 ^ 31) | (show a 0 < _; omega)
theorem oExam_c (a : Nat → Nat) (f s c l : Int32) : (oExam a f s c l).1 ≤ 2 ∧ ((oExam a f s c l).1 ≠ 0 → (oExam a f s c l).2.2 = a) := by
  unfold oExam
  repeat' split
  all_goals first | exact ⟨by simp, fun _ => rfl⟩ | exact ⟨Nat.zero_le _, fun z => absurd rfl z⟩
theorem oExam_v {a : Nat → Nat} (hb : rB a) (f s c l : Int32) : (oExam a f s c l).2.1 < 2 ^ 31 := by
  have hD := rB_D hb
  have hE := rB_E hb
  have hT := rB_T hb
  have hN := rB_N hb
  unfold oExam
  repeat' split
  all_goals first | exact (by decide : 0 < 2 ^ 31) | (show a 1 < _; omega)
theorem zs_1_le (p : Nat → Nat) (n : Nat) (h : ∀ k, k < n → p k ≤ 1) : zs p n ≤ n := by
  have := zs_bound (f := p) (c := 1) (n := n) h
  omega
theorem oConf_c (a : Nat → Nat) (x k : Int32) : (oConf a x k).1 ≤ 2 ∧ ((oConf a x k).1 ≠ 0 → (oConf a x k).2.2 = a) := by
  unfold oConf oConfN
  repeat' split
  all_goals first | exact ⟨by simp, fun _ => rfl⟩ | exact ⟨Nat.zero_le _, fun z => absurd rfl z⟩
theorem oConf_v {a : Nat → Nat} (hb : rB a) (x k : Int32) : (oConf a x k).2.1 < 2 ^ 31 := by
  have hD := rB_D hb
  have hE := rB_E hb
  have hT := rB_T hb
  have hN := rB_N hb
  unfold oConf oConfN
  repeat' split
  all_goals first
    | exact (by decide : 0 < 2 ^ 31)
    | exact Nat.lt_of_le_of_lt (zs_1_le _ _ (fun y _ => by show (if _ then 1 else 0) ≤ 1; split <;> omega)) (by omega)
theorem oAss_c (a : Nat → Nat) (x k : Int32) : (oAss a x k).1 ≤ 3 ∧ ((oAss a x k).1 ≠ 0 → (oAss a x k).2.2 = a) := by
  unfold oAss oAssN
  repeat' split
  all_goals first | exact ⟨by simp, fun _ => rfl⟩ | exact ⟨Nat.zero_le _, fun z => absurd rfl z⟩
theorem oAss_v {a : Nat → Nat} (hb : rB a) (x k : Int32) : (oAss a x k).2.1 < 2 ^ 31 := by
  have hD := rB_D hb
  have hE := rB_E hb
  have hT := rB_T hb
  have hN := rB_N hb
  have q : (oAss a x k).1 = 0 → (oAss a x k).2.1 ≤ 3 := by
    unfold oAss
    split
    · rename_i hv
      obtain ⟨x, hx, rfl⟩ := zok_t hv.1 (by omega)
      obtain ⟨k, hk, rfl⟩ := zok_t hv.2 (by omega)
      rw [cl (by omega), cl (by omega)]
      unfold oAssN
      split
      · intro z; exact absurd z (by simp)
      · rename_i z
        split
        · intro z; exact absurd z (by simp)
        · rename_i y
          intro _
          have y : zjud a x k := Classical.not_not.mp y
          have q := hb.2.2.2.1 x k (by omega) (by omega)
          exact zcnt_le (rB_assign hb (by omega) (by omega) hx hk y.1.1 (by omega) (by omega) (by omega)) (by omega)
    · intro z; exact absurd z (by simp)
  have c := oAss_c a x k
  have r : (oAss a x k).1 ≠ 0 → (oAss a x k).2.1 = 0 := by
    unfold oAss oAssN
    repeat' split
    all_goals first | exact fun _ => rfl | exact fun z => absurd rfl z
  by_cases z : (oAss a x k).1 = 0
  · have := q z; omega
  · rw [r z]; decide
theorem oGrad_c (a : Nat → Nat) (x k g : Int32) : (oGrad a x k g).1 ≤ 3 ∧ ((oGrad a x k g).1 ≠ 0 → (oGrad a x k g).2.2 = a) := by
  unfold oGrad oGradN
  repeat' split
  all_goals first | exact ⟨by simp, fun _ => rfl⟩ | exact ⟨Nat.zero_le _, fun z => absurd rfl z⟩
theorem oGrad_v {a : Nat → Nat} (hb : rB a) (x k g : Int32) : (oGrad a x k g).2.1 < 2 ^ 31 := by
  have hD := rB_D hb
  have hE := rB_E hb
  have hT := rB_T hb
  have hN := rB_N hb
  unfold oGrad oGradN
  repeat' split
  all_goals first
    | exact (by decide : 0 < 2 ^ 31)
    | exact Nat.lt_of_le_of_lt (zs_1_le _ _ (fun y _ => by show (if _ then 1 else 0) ≤ 1; split <;> omega)) (by show zu a _ _ 1 < _; rw [zu_f _ _ (by omega)]; omega)
theorem oThr_c (a : Nat → Nat) (t : Int32) : (oThr a t).1 ≤ 1 ∧ ((oThr a t).1 ≠ 0 → (oThr a t).2.2 = a) := by
  unfold oThr
  repeat' split
  all_goals first | exact ⟨by simp, fun _ => rfl⟩ | exact ⟨Nat.zero_le _, fun z => absurd rfl z⟩
theorem oThr_v {a : Nat → Nat} (hb : rB a) (t : Int32) : (oThr a t).2.1 < 2 ^ 31 := by
  have hD := rB_D hb
  have hE := rB_E hb
  have hT := rB_T hb
  have hN := rB_N hb
  unfold oThr
  repeat' split
  all_goals first | exact (by decide : 0 < 2 ^ 31) | (show a 2 < _; omega)
theorem oAw_c (a : Nat → Nat) (k : Int32) : (oAw a k).1 ≤ 3 ∧ ((oAw a k).1 ≠ 0 → (oAw a k).2.2 = a) := by
  unfold oAw oAwN
  repeat' split
  all_goals first | exact ⟨by simp, fun _ => rfl⟩ | exact ⟨Nat.zero_le _, fun z => absurd rfl z⟩
theorem oAw_v {a : Nat → Nat} (hb : rB a) (k : Int32) : (oAw a k).2.1 < 2 ^ 31 := by
  have hD := rB_D hb
  have hE := rB_E hb
  have hT := rB_T hb
  have hN := rB_N hb
  unfold oAw oAwN
  repeat' split
  all_goals first | exact (by decide : 0 < 2 ^ 31) | (show a 3 + 1 < _; omega)
theorem oRev_c (a : Nat → Nat) (n : Int32) : (oRev a n).1 ≤ 2 ∧ ((oRev a n).1 ≠ 0 → (oRev a n).2.2 = a) := by
  unfold oRev oRevN
  repeat' split
  all_goals first | exact ⟨by simp, fun _ => rfl⟩ | exact ⟨Nat.zero_le _, fun z => absurd rfl z⟩
theorem oRev_v {a : Nat → Nat} (hb : rB a) (n : Int32) : (oRev a n).2.1 < 2 ^ 31 := by
  have hN := rB_N hb
  unfold oRev
  split
  · rename_i hv
    obtain ⟨n', hn', rfl⟩ := zI_nat (x := n) (by omega)
    rw [nI_toInt hn'] at hv
    rw [cl hn']
    have b := hb.2.2.2.2.1 (n' - 1) (by omega)
    unfold oRevN
    split
    · exact (by decide : 0 < 2 ^ 31)
    · show ze a (n' - 1) 0 < _; omega
  · exact (by decide : 0 < 2 ^ 31)
theorem L_addDoor {M : sM} {g : zG} (hC : CI M g) (hG : GI g) (f t : Int32) {o : sO} {d : sE} {Q : Int32 → sM → sO → sE → Prop} (h : kC M (zstep g (oDoor g.1 f t)) d Q) : wL_addDoor f t M o d Q := by
  have K := oDoor_c g.1 f t
  have V := oDoor_v hG.1 f t
  unfold wL_addDoor wX6_addDoor
  refine c_chg hC hG (oDoor g.1 f t) (-2) (-3) (0) (fun M1 R => wX5_tryNewDoor 0 f t M1 R) (fun z => K.2 z) V (fun M1 R s1 hR => u5_tryNewDoor s1 hG.1 f t (fun oo M' e fF sS => by subst e; exact hR M' (fP_fr fF) sS)) (fun z M' fF cC => ?_) (fun z M' P fF cC => ?_)
  · refine kC_w (s := zstep g (oDoor g.1 f t)) h z V fF ?_
    show CI M' (zchg g _)
    unfold zchg
    rw [if_pos z]; exact cC
  · have hc : CI M' (zchg g (oDoor g.1 f t)) := by unfold zchg; rw [if_neg z]; exact cC
    have q := h M' o fF hc (fun w => absurd w z)
    have q : Q (nI (oDoor g.1 f t).1) M' o d := q
    unfold zans
    rw [if_neg z]
    have K1 : (oDoor g.1 f t).1 = 1 ∨ (oDoor g.1 f t).1 = 2 := by have := K.1; omega
    rcases K1 with K1 | K1
    · rw [K1] at q ⊢
      exact ⟨by decide, rf2 (brt rfl q)⟩
    · rw [K1] at q ⊢
      exact ⟨by decide, rf3 (brf (by simp) (brt rfl q))⟩
theorem m_addDoor {M : sM} {g : zG} (hM : MI M g) (hG : GI g) (f t : Int32) {Q : Int32 → sM → Prop} (h : kM M (zstep g (oDoor g.1 f t)) Q) : wX7_addDoor f t M Q := by
  have K := oDoor_c g.1 f t
  unfold wX7_addDoor
  exact m_chg hM hG (oDoor g.1 f t) (by have := K.1; omega) (fun M1 R => wX7_doAddDoor f t M1 R) (fun M1 R r1 t1 hz => u7_doAddDoor r1 hG.1 t1 f t hz) (fun M' r fF tT eE iI => h M' r fF iI tT eE)
theorem L_addExaminer {M : sM} {g : zG} (hC : CI M g) (hG : GI g) (f s c l : Int32) {o : sO} {d : sE} {Q : Int32 → sM → sO → sE → Prop} (h : kC M (zstep g (oExam g.1 f s c l)) d Q) : wL_addExaminer f s c l M o d Q := by
  have K := oExam_c g.1 f s c l
  have V := oExam_v hG.1 f s c l
  unfold wL_addExaminer wX6_addExaminer
  refine c_chg hC hG (oExam g.1 f s c l) (-2) (-3) (0) (fun M1 R => wX5_tryNewExaminer 0 f s c l M1 R) (fun z => K.2 z) V (fun M1 R s1 hR => u5_tryNewExaminer s1 hG.1 f s c l (fun oo M' e fF sS => by subst e; exact hR M' (fP_fr fF) sS)) (fun z M' fF cC => ?_) (fun z M' P fF cC => ?_)
  · refine kC_w (s := zstep g (oExam g.1 f s c l)) h z V fF ?_
    show CI M' (zchg g _)
    unfold zchg
    rw [if_pos z]; exact cC
  · have hc : CI M' (zchg g (oExam g.1 f s c l)) := by unfold zchg; rw [if_neg z]; exact cC
    have q := h M' o fF hc (fun w => absurd w z)
    have q : Q (nI (oExam g.1 f s c l).1) M' o d := q
    unfold zans
    rw [if_neg z]
    have K1 : (oExam g.1 f s c l).1 = 1 ∨ (oExam g.1 f s c l).1 = 2 := by have := K.1; omega
    rcases K1 with K1 | K1
    · rw [K1] at q ⊢
      exact ⟨by decide, rf2 (brt rfl q)⟩
    · rw [K1] at q ⊢
      exact ⟨by decide, rf3 (brf (by simp) (brt rfl q))⟩
theorem m_addExaminer {M : sM} {g : zG} (hM : MI M g) (hG : GI g) (f s c l : Int32) {Q : Int32 → sM → Prop} (h : kM M (zstep g (oExam g.1 f s c l)) Q) : wX7_addExaminer f s c l M Q := by
  have K := oExam_c g.1 f s c l
  unfold wX7_addExaminer
  exact m_chg hM hG (oExam g.1 f s c l) (by have := K.1; omega) (fun M1 R => wX7_doAddExaminer f s c l M1 R) (fun M1 R r1 t1 hz => u7_doAddExaminer r1 hG.1 t1 f s c l hz) (fun M' r fF tT eE iI => h M' r fF iI tT eE)
theorem L_declareConflict {M : sM} {g : zG} (hC : CI M g) (hG : GI g) (x k : Int32) {o : sO} {d : sE} {Q : Int32 → sM → sO → sE → Prop} (h : kC M (zstep g (oConf g.1 x k)) d Q) : wL_declareConflict x k M o d Q := by
  have K := oConf_c g.1 x k
  have V := oConf_v hG.1 x k
  unfold wL_declareConflict wX6_declareConflict
  refine c_chg hC hG (oConf g.1 x k) (-1) (-3) (0) (fun M1 R => wX5_tryConflict 0 x k M1 R) (fun z => K.2 z) V (fun M1 R s1 hR => u5_tryConflict s1 hG.1 x k (fun oo M' e fF sS => by subst e; exact hR M' (fP_fr fF) sS)) (fun z M' fF cC => ?_) (fun z M' P fF cC => ?_)
  · refine kC_w (s := zstep g (oConf g.1 x k)) h z V fF ?_
    show CI M' (zchg g _)
    unfold zchg
    rw [if_pos z]; exact cC
  · have hc : CI M' (zchg g (oConf g.1 x k)) := by unfold zchg; rw [if_neg z]; exact cC
    have q := h M' o fF hc (fun w => absurd w z)
    have q : Q (nI (oConf g.1 x k).1) M' o d := q
    unfold zans
    rw [if_neg z]
    have K1 : (oConf g.1 x k).1 = 1 ∨ (oConf g.1 x k).1 = 2 := by have := K.1; omega
    rcases K1 with K1 | K1
    · rw [K1] at q ⊢
      exact ⟨by decide, rf1 (brt rfl q)⟩
    · rw [K1] at q ⊢
      exact ⟨by decide, rf3 (brf (by simp) (brt rfl q))⟩
theorem m_declareConflict {M : sM} {g : zG} (hM : MI M g) (hG : GI g) (x k : Int32) {Q : Int32 → sM → Prop} (h : kM M (zstep g (oConf g.1 x k)) Q) : wX7_declareConflict x k M Q := by
  have K := oConf_c g.1 x k
  unfold wX7_declareConflict
  exact m_chg hM hG (oConf g.1 x k) (by have := K.1; omega) (fun M1 R => wX7_doConflict x k M1 R) (fun M1 R r1 t1 hz => u7_doConflict r1 hG.1 t1 x k hz) (fun M' r fF tT eE iI => h M' r fF iI tT eE)
theorem L_assign {M : sM} {g : zG} (hC : CI M g) (hG : GI g) (x k : Int32) {o : sO} {d : sE} {Q : Int32 → sM → sO → sE → Prop} (h : kC M (zstep g (oAss g.1 x k)) d Q) : wL_assign x k M o d Q := by
  have K := oAss_c g.1 x k
  have V := oAss_v hG.1 x k
  unfold wL_assign wX6_assign
  refine c_chg hC hG (oAss g.1 x k) (-1) (-3) (-4) (fun M1 R => wX5_tryAssignment 0 x k M1 R) (fun z => K.2 z) V (fun M1 R s1 hR => u5_tryAssignment s1 hG.1 x k (fun oo M' e fF sS => by subst e; exact hR M' (fP_fr fF) sS)) (fun z M' fF cC => ?_) (fun z M' P fF cC => ?_)
  · refine kC_w (s := zstep g (oAss g.1 x k)) h z V fF ?_
    show CI M' (zchg g _)
    unfold zchg
    rw [if_pos z]; exact cC
  · have hc : CI M' (zchg g (oAss g.1 x k)) := by unfold zchg; rw [if_neg z]; exact cC
    have q := h M' o fF hc (fun w => absurd w z)
    have q : Q (nI (oAss g.1 x k).1) M' o d := q
    unfold zans
    rw [if_neg z]
    have K1 : (oAss g.1 x k).1 = 1 ∨ (oAss g.1 x k).1 = 2 ∨ (oAss g.1 x k).1 = 3 := by have := K.1; omega
    rcases K1 with K1 | K1 | K1
    · rw [K1] at q ⊢
      exact ⟨by decide, rf1 (brt rfl q)⟩
    · rw [K1] at q ⊢
      exact ⟨by decide, rf3 (brf (by simp) (brt rfl q))⟩
    · rw [K1] at q ⊢
      exact ⟨by decide, rf4 (brf (by simp) (brf (by simp) (brt rfl q)))⟩
theorem m_assign {M : sM} {g : zG} (hM : MI M g) (hG : GI g) (x k : Int32) {Q : Int32 → sM → Prop} (h : kM M (zstep g (oAss g.1 x k)) Q) : wX7_assign x k M Q := by
  have K := oAss_c g.1 x k
  unfold wX7_assign
  exact m_chg hM hG (oAss g.1 x k) (by have := K.1; omega) (fun M1 R => wX7_doAssign x k M1 R) (fun M1 R r1 t1 hz => u7_doAssign r1 hG.1 t1 x k hz) (fun M' r fF tT eE iI => h M' r fF iI tT eE)
theorem L_grade {M : sM} {g : zG} (hC : CI M g) (hG : GI g) (x k v : Int32) {o : sO} {d : sE} {Q : Int32 → sM → sO → sE → Prop} (h : kC M (zstep g (oGrad g.1 x k v)) d Q) : wL_grade x k v M o d Q := by
  have K := oGrad_c g.1 x k v
  have V := oGrad_v hG.1 x k v
  unfold wL_grade wX6_grade
  refine c_chg hC hG (oGrad g.1 x k v) (-1) (-2) (-3) (fun M1 R => wX5_tryGrade 0 x k v M1 R) (fun z => K.2 z) V (fun M1 R s1 hR => u5_tryGrade s1 hG.1 x k v (fun oo M' e fF sS => by subst e; exact hR M' (fP_fr fF) sS)) (fun z M' fF cC => ?_) (fun z M' P fF cC => ?_)
  · refine kC_w (s := zstep g (oGrad g.1 x k v)) h z V fF ?_
    show CI M' (zchg g _)
    unfold zchg
    rw [if_pos z]; exact cC
  · have hc : CI M' (zchg g (oGrad g.1 x k v)) := by unfold zchg; rw [if_neg z]; exact cC
    have q := h M' o fF hc (fun w => absurd w z)
    have q : Q (nI (oGrad g.1 x k v).1) M' o d := q
    unfold zans
    rw [if_neg z]
    have K1 : (oGrad g.1 x k v).1 = 1 ∨ (oGrad g.1 x k v).1 = 2 ∨ (oGrad g.1 x k v).1 = 3 := by have := K.1; omega
    rcases K1 with K1 | K1 | K1
    · rw [K1] at q ⊢
      exact ⟨by decide, rf1 (brt rfl q)⟩
    · rw [K1] at q ⊢
      exact ⟨by decide, rf2 (brf (by simp) (brt rfl q))⟩
    · rw [K1] at q ⊢
      exact ⟨by decide, rf3 (brf (by simp) (brf (by simp) (brt rfl q)))⟩
theorem m_grade {M : sM} {g : zG} (hM : MI M g) (hG : GI g) (x k v : Int32) {Q : Int32 → sM → Prop} (h : kM M (zstep g (oGrad g.1 x k v)) Q) : wX7_grade x k v M Q := by
  have K := oGrad_c g.1 x k v
  unfold wX7_grade
  exact m_chg hM hG (oGrad g.1 x k v) (by have := K.1; omega) (fun M1 R => wX7_doGrade x k v M1 R) (fun M1 R r1 t1 hz => u7_doGrade r1 hG.1 t1 x k v hz) (fun M' r fF tT eE iI => h M' r fF iI tT eE)
theorem L_setThreshold {M : sM} {g : zG} (hC : CI M g) (hG : GI g) (t : Int32) {o : sO} {d : sE} {Q : Int32 → sM → sO → sE → Prop} (h : kC M (zstep g (oThr g.1 t)) d Q) : wL_setThreshold t M o d Q := by
  have K := oThr_c g.1 t
  have V := oThr_v hG.1 t
  unfold wL_setThreshold wX6_setThreshold
  refine c_chg hC hG (oThr g.1 t) (-2) (0) (0) (fun M1 R => wX5_tryThreshold 0 t M1 R) (fun z => K.2 z) V (fun M1 R s1 hR => u5_tryThreshold s1 hG.1 t (fun oo M' e fF sS => by subst e; exact hR M' (fP_fr fF) sS)) (fun z M' fF cC => ?_) (fun z M' P fF cC => ?_)
  · refine kC_w (s := zstep g (oThr g.1 t)) h z V fF ?_
    show CI M' (zchg g _)
    unfold zchg
    rw [if_pos z]; exact cC
  · have hc : CI M' (zchg g (oThr g.1 t)) := by unfold zchg; rw [if_neg z]; exact cC
    have q := h M' o fF hc (fun w => absurd w z)
    have q : Q (nI (oThr g.1 t).1) M' o d := q
    unfold zans
    rw [if_neg z]
    have K1 : (oThr g.1 t).1 = 1 := by have := K.1; omega
    rw [K1] at q ⊢
    exact ⟨by decide, rf2 (brt rfl q)⟩
theorem m_setThreshold {M : sM} {g : zG} (hM : MI M g) (hG : GI g) (t : Int32) {Q : Int32 → sM → Prop} (h : kM M (zstep g (oThr g.1 t)) Q) : wX7_setThreshold t M Q := by
  have K := oThr_c g.1 t
  unfold wX7_setThreshold
  exact m_chg hM hG (oThr g.1 t) (by have := K.1; omega) (fun M1 R => wX7_doThreshold t M1 R) (fun M1 R r1 t1 hz => u7_doThreshold r1 t1 t hz) (fun M' r fF tT eE iI => h M' r fF iI tT eE)
theorem L_award {M : sM} {g : zG} (hC : CI M g) (hG : GI g) (k : Int32) {o : sO} {d : sE} {Q : Int32 → sM → sO → sE → Prop} (h : kC M (zstep g (oAw g.1 k)) d Q) : wL_award k M o d Q := by
  have K := oAw_c g.1 k
  have V := oAw_v hG.1 k
  unfold wL_award wX6_award
  refine c_chg hC hG (oAw g.1 k) (-1) (-3) (-4) (fun M1 R => wX5_tryAward 0 k M1 R) (fun z => K.2 z) V (fun M1 R s1 hR => u5_tryAward s1 hG.1 k (fun oo M' e fF sS => by subst e; exact hR M' (fP_fr fF) sS)) (fun z M' fF cC => ?_) (fun z M' P fF cC => ?_)
  · refine kC_w (s := zstep g (oAw g.1 k)) h z V fF ?_
    show CI M' (zchg g _)
    unfold zchg
    rw [if_pos z]; exact cC
  · have hc : CI M' (zchg g (oAw g.1 k)) := by unfold zchg; rw [if_neg z]; exact cC
    have q := h M' o fF hc (fun w => absurd w z)
    have q : Q (nI (oAw g.1 k).1) M' o d := q
    unfold zans
    rw [if_neg z]
    have K1 : (oAw g.1 k).1 = 1 ∨ (oAw g.1 k).1 = 2 ∨ (oAw g.1 k).1 = 3 := by have := K.1; omega
    rcases K1 with K1 | K1 | K1
    · rw [K1] at q ⊢
      exact ⟨by decide, rf1 (brt rfl q)⟩
    · rw [K1] at q ⊢
      exact ⟨by decide, rf3 (brf (by simp) (brt rfl q))⟩
    · rw [K1] at q ⊢
      exact ⟨by decide, rf4 (brf (by simp) (brf (by simp) (brt rfl q)))⟩
theorem m_award {M : sM} {g : zG} (hM : MI M g) (hG : GI g) (k : Int32) {Q : Int32 → sM → Prop} (h : kM M (zstep g (oAw g.1 k)) Q) : wX7_award k M Q := by
  have K := oAw_c g.1 k
  unfold wX7_award
  exact m_chg hM hG (oAw g.1 k) (by have := K.1; omega) (fun M1 R => wX7_doAward k M1 R) (fun M1 R r1 t1 hz => u7_doAward r1 hG.1 t1 k hz) (fun M' r fF tT eE iI => h M' r fF iI tT eE)
theorem L_revoke {M : sM} {g : zG} (hC : CI M g) (hG : GI g) (n : Int32) {o : sO} {d : sE} {Q : Int32 → sM → sO → sE → Prop} (h : kC M (zstep g (oRev g.1 n)) d Q) : wL_revoke n M o d Q := by
  have K := oRev_c g.1 n
  have V := oRev_v hG.1 n
  unfold wL_revoke wX6_revoke
  refine c_chg hC hG (oRev g.1 n) (-5) (-3) (0) (fun M1 R => wX5_tryRevocation 0 n M1 R) (fun z => K.2 z) V (fun M1 R s1 hR => u5_tryRevocation s1 hG.1 n (fun oo M' e fF sS => by subst e; exact hR M' (fP_fr fF) sS)) (fun z M' fF cC => ?_) (fun z M' P fF cC => ?_)
  · refine kC_w (s := zstep g (oRev g.1 n)) h z V fF ?_
    show CI M' (zchg g _)
    unfold zchg
    rw [if_pos z]; exact cC
  · have hc : CI M' (zchg g (oRev g.1 n)) := by unfold zchg; rw [if_neg z]; exact cC
    have q := h M' o fF hc (fun w => absurd w z)
    have q : Q (nI (oRev g.1 n).1) M' o d := q
    unfold zans
    rw [if_neg z]
    have K1 : (oRev g.1 n).1 = 1 ∨ (oRev g.1 n).1 = 2 := by have := K.1; omega
    rcases K1 with K1 | K1
    · rw [K1] at q ⊢
      exact ⟨by decide, rf5 (brt rfl q)⟩
    · rw [K1] at q ⊢
      exact ⟨by decide, rf3 (brf (by simp) (brt rfl q))⟩
theorem m_revoke {M : sM} {g : zG} (hM : MI M g) (hG : GI g) (n : Int32) {Q : Int32 → sM → Prop} (h : kM M (zstep g (oRev g.1 n)) Q) : wX7_revoke n M Q := by
  have K := oRev_c g.1 n
  unfold wX7_revoke
  exact m_chg hM hG (oRev g.1 n) (by have := K.1; omega) (fun M1 R => wX7_doRevoke n M1 R) (fun M1 R r1 t1 hz => u7_doRevoke r1 hG.1 t1 n hz) (fun M' r fF tT eE iI => h M' r fF iI tT eE)
/-! each keeps what a state keeps to -/
theorem oDoor_B {a : Nat → Nat} (hb : rB a) (f t : Int32) : rB (oDoor a f t).2.2 := by
  have hD := rB_D hb
  unfold oDoor
  split
  · rename_i hv
    split
    · exact hb
    · have ef : f.toNatClampNeg = f.toInt.toNat := rfl
      have et : t.toNatClampNeg = t.toInt.toNat := rfl
      exact rB_door hb (by omega) ⟨by omega, by omega⟩ (by omega)
  · exact hb
theorem oExam_B {a : Nat → Nat} (hb : rB a) (f s c l : Int32) : rB (oExam a f s c l).2.2 := by
  have hD := rB_E hb
  unfold oExam
  split
  · rename_i hv
    split
    · exact hb
    · have ef : f.toNatClampNeg = f.toInt.toNat := rfl
      have es : s.toNatClampNeg = s.toInt.toNat := rfl
      have ec : c.toNatClampNeg = c.toInt.toNat := rfl
      have el : l.toNatClampNeg = l.toInt.toNat := rfl
      exact rB_examiner hb (by omega) ⟨by omega, by omega⟩ (by omega) (by omega) (by omega)
  · exact hb
theorem oConf_B {a : Nat → Nat} (hb : rB a) (x k : Int32) : rB (oConf a x k).2.2 := by
  have hD := rB_D hb
  have hE := rB_E hb
  unfold oConf
  split
  · rename_i hv
    have ex : x.toNatClampNeg = x.toInt.toNat := rfl
    have ek : k.toNatClampNeg = k.toInt.toNat := rfl
    unfold oConfN
    split
    · exact hb
    · exact rB_conflict hb (by omega) (by omega)
  · exact hb
theorem oAss_B {a : Nat → Nat} (hb : rB a) (x k : Int32) : rB (oAss a x k).2.2 := by
  have hD := rB_D hb
  have hE := rB_E hb
  unfold oAss
  split
  · rename_i hv
    obtain ⟨x, hx, rfl⟩ := zok_t hv.1 (by omega)
    obtain ⟨k, hk, rfl⟩ := zok_t hv.2 (by omega)
    rw [cl (by omega), cl (by omega)]
    unfold oAssN
    split
    · exact hb
    · rename_i z
      split
      · exact hb
      · rename_i y
        have y : zjud a x k := Classical.not_not.mp y
        have q := hb.2.2.2.1 x k (by omega) (by omega)
        exact rB_assign hb (by omega) (by omega) hx hk y.1.1 (by omega) (by omega) (by omega)
  · exact hb
theorem oGrad_B {a : Nat → Nat} (hb : rB a) (x k g : Int32) : rB (oGrad a x k g).2.2 := by
  have hD := rB_D hb
  have hE := rB_E hb
  unfold oGrad
  split
  · rename_i hv
    split
    · rename_i hg
      obtain ⟨x, hx, rfl⟩ := zok_t hv.1 (by omega)
      obtain ⟨k, hk, rfl⟩ := zok_t hv.2 (by omega)
      obtain ⟨g, hg, rfl⟩ := zok_t hg (by omega)
      rw [cl (by omega), cl (by omega), cl (by omega)]
      unfold oGradN
      split
      · exact hb
      · have q := hb.2.2.2.1 x k (by omega) (by omega)
        exact rB_grade hb (by omega) (by omega) (by omega) (by omega)
    · exact hb
  · exact hb
theorem oThr_B {a : Nat → Nat} (hb : rB a) (t : Int32) : rB (oThr a t).2.2 := by
  unfold oThr
  split
  · rename_i hv
    have et : t.toNatClampNeg = t.toInt.toNat := rfl
    exact rB_threshold hb (by omega)
  · exact hb
theorem oAw_B {a : Nat → Nat} (hb : rB a) (k : Int32) : rB (oAw a k).2.2 := by
  have hD := rB_D hb
  unfold oAw
  split
  · rename_i hv
    obtain ⟨k, hk, rfl⟩ := zok_t hv (by omega)
    rw [cl (by omega)]
    unfold oAwN
    split
    · exact hb
    · split
      · exact hb
      · exact rB_award hb hk (by omega) (zN_lt hb (show k < 8 by omega) (by omega))
  · exact hb
theorem oRev_B {a : Nat → Nat} (hb : rB a) (n : Int32) : rB (oRev a n).2.2 := by
  have hN := rB_N hb
  unfold oRev
  split
  · rename_i hv
    obtain ⟨n', hn', rfl⟩ := zI_nat (x := n) (by omega)
    rw [nI_toInt hn'] at hv
    rw [cl hn']
    unfold oRevN
    split
    · exact hb
    · exact rB_revoke hb (by omega)
  · exact hb
