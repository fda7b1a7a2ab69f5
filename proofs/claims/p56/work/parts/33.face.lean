/-! Text buffer, errors told, output, undo, save, restore; the changing calls at the face. -/
def ztext (g : zG) (n : Nat) (t : Nat → Nat) : zG := (g.1, g.2.1, g.2.2.1, (n, t), g.2.2.2.2)
def s_append (g : zG) (c : Nat) : Nat × Nat × zG := if g.2.2.2.1.1 = 60 then (1, 0, g) else (0, g.2.2.2.1.1 + 1, ztext g (g.2.2.2.1.1 + 1) (fun j => if j = g.2.2.2.1.1 then c else g.2.2.2.1.2 j))
theorem s_append_G {g : zG} (h : GI g) {c : Nat} (hc : c < 65536) : GI (s_append g c).2.2 := by
  unfold s_append
  split
  · exact h
  · rename_i z
    have h60 := h.2.2.2.1.1
    refine ⟨h.1, h.2.1, h.2.2.1, ⟨?_, fun j hj => ?_⟩, h.2.2.2.2⟩
    · show g.2.2.2.1.1 + 1 ≤ 60; omega
    · show (if j = g.2.2.2.1.1 then c else g.2.2.2.1.2 j) < 65536
      have hj : j < g.2.2.2.1.1 + 1 := hj
      split
      · exact hc
      · exact h.2.2.2.1.2 j (by omega)
theorem L_append {M : sM} {g : zG} (hC : CI M g) (hG : GI g) {c : Nat} (hc : c < 65536) {Q : Int32 → sM → Prop} {X : Nat → sM → Prop} (h : kC M (s_append g c) Q X) : wL_append (nI c) M Q X := by
  have h60 := hG.2.2.2.1.1
  have e14 : M 14 1 = nI g.2.2.2.1.1 := hC.2.2.2.1.1
  unfold wL_append wX6_append wX4_isFull
  rw [e14]
  by_cases z : g.2.2.2.1.1 = 60
  · rw [show s_append g c = (1, 0, g) from if_pos z] at h
    rw [z]
    exact brf (nI_nlt (a := 60) (b := 60) (Nat.le_refl _) (by decide)) (br1 (brt rfl (kC_no h (by decide) hC)))
  · rw [show s_append g c = _ from if_neg z] at h
    refine brt (nI_lt (b := 60) (by omega) (by decide)) (br0 ?_)
    unfold wX4_extend
    rw [e14, cl (by omega), nar_c hc]
    refine brf (nI_ge (b := 60) (by omega) (by decide)) ⟨vin (by omega) (by decide), ?_⟩
    intro M3 e3 M4 e4
    have q : M3 14 1 = nI g.2.2.2.1.1 := by rw [e3, sw_ms_n _ _ _ (by decide)]; exact e14
    rw [q, ia1] at e4
    have q4 : M4 14 1 = nI (g.2.2.2.1.1 + 1) := by rw [e4, ms_e]
    rw [q4]
    have f : fr 14 16 M M4 := fr_t (e3 ▸ fr_s M _ _ (by decide)) (e4 ▸ fr_s M3 _ _ (by decide))
    refine kC_w2 h (show g.2.2.2.1.1 + 1 < _ by omega) (fun k a b => f k (by omega)) ?_
    obtain ⟨h1, ⟨h2, s, h3, h4, h5⟩, h6, h7, h8, h9⟩ := hC
    refine ⟨rS_fr h1 (fun b _ => f _ (by unfold sw_st; omega)), ⟨?_, s, h3, ?_, fun j hj => rS_fr (h5 j hj) (fun b _ => f _ (by unfold sw_st; omega))⟩, ⟨?_, fun z => rS_fr (h6.2 z) (fun b _ => f _ (by unfold sw_st; omega))⟩, ⟨q4, fun j hj => ?_⟩, ?_, ?_⟩
    · rw [f 1 (by decide)]; exact h2
    · rw [f 1 (by decide)]; exact h4
    · rw [f 0 (by decide)]; exact h6.1
    · rw [e4, sw_ms_n _ _ _ (by decide), e3]
      show sw_ms M 15 g.2.2.2.1.1 (nI c) 15 j = nI (if j = g.2.2.2.1.1 then c else g.2.2.2.1.2 j)
      have hj : j < g.2.2.2.1.1 + 1 := hj
      by_cases w : j = g.2.2.2.1.1
      · rw [w, ms_e, if_pos rfl]
      · rw [ms_j _ _ _ w, if_neg w]; exact h7.2 j (by omega)
    · rw [f 0 (by decide)]; exact h8
    · rw [f 31 (by decide), f 32 (by decide)]; exact h9
theorem im1 : ((-1 : Int32)).toInt = -1 := by decide
/-- a number that may be none -/
def s_told (g : zG) (e : Int32) : Nat × Nat × zG := if e = -1 then (1, 0, g) else (0, e.toNatClampNeg, g)
theorem s_told_G {g : zG} (h : GI g) (x : Int32) : GI (s_told g x).2.2 := by unfold s_told; split <;> exact h
theorem told_n {e : Int32} (h : -1 ≤ e.toInt) (h2 : ¬ e = -1) : ∃ n : Nat, n < 2 ^ 31 ∧ e = nI n := by
  refine zI_nat ?_
  have : e.toInt ≠ -1 := fun z => h2 (by rw [zI_eq, im1]; exact z)
  omega
theorem L_told {M : sM} {g : zG} (hC : CI M g) {e : Int32} (he : -1 ≤ e.toInt) {Q : Int32 → sM → Prop} {X : Nat → sM → Prop} (h : kC M (s_told g e) Q X) : wX6_requireThere e (fun r1 => Q r1 M) (fun E9 => (E9 = "java/util/NoSuchElementException" → (X 1 M)) ∧ (¬ E9 = "java/util/NoSuchElementException" → (False))) := by
  unfold wX6_requireThere
  by_cases z : e = -1
  · rw [show s_told g e = (1, 0, g) from if_pos z] at h
    exact brt z (brt rfl (kC_no h (by decide) hC))
  · rw [show s_told g e = _ from if_neg z] at h
    obtain ⟨n, hn, rfl⟩ := told_n he z
    rw [cl hn] at h
    exact brf z (kC_ok h hC hn)
def s_outputAt (g : zG) (x : Int32) : Nat × Nat × zG := if zok x g.2.2.2.2.2.1 then (0, g.2.2.2.2.2.2 x.toNatClampNeg, g) else (1, 0, g)
theorem s_outputAt_G {g : zG} (h : GI g) (x : Int32) : GI (s_outputAt g x).2.2 := by unfold s_outputAt; split <;> exact h
theorem L_outputAt {M : sM} {g : zG} (hC : CI M g) (hG : GI g) (x : Int32) {Q : Int32 → sM → Prop} {X : Nat → sM → Prop} (h : kC M (s_outputAt g x) Q X) : wL_outputAt x M Q X := by
  have hl := hG.2.2.2.2.2.1
  unfold wL_outputAt wX6_outputAt
  rw [hC.2.2.2.2.2.1]
  by_cases hv : zok x g.2.2.2.2.2.1
  · obtain ⟨k, hk, rfl⟩ := zok_t hv (by omega)
    rw [show s_outputAt g (nI k) = (0, g.2.2.2.2.2.2 k, g) by unfold s_outputAt; rw [if_pos hv, cl (by omega)]] at h
    have hc := hG.2.2.2.2.2.2 k hk
    rw [cl (by omega), hC.2.2.2.2.2.2 k hk]
    exact brf (nI_pos (by omega)) (brt (nI_lt hk (by omega)) ⟨vin (by omega) (by decide), (pk_charN hc).1, kC_ok h hC (by omega)⟩)
  · rw [show s_outputAt g x = (1, 0, g) from if_neg hv] at h
    refine ⟨fun _ => brt rfl (kC_no h (by decide) hC), fun z => ⟨fun z2 => absurd ?_ hv, fun _ => brt rfl (kC_no h (by decide) hC)⟩⟩
    rw [Int32.lt_iff_toInt_lt] at z z2
    rw [zi0] at z
    rw [nI_toInt (by omega)] at z2
    exact ⟨by omega, z2⟩
/-! undo, save, restore -/
def s_undo (g : zG) : Nat × Nat × zG := if g.2.1.1 = 0 then (1, 0, g) else (0, g.2.1.1 - 1, (g.2.1.2 (g.2.1.1 - 1), (g.2.1.1 - 1, g.2.1.2), g.2.2))
theorem s_undo_G {g : zG} (h : GI g) : GI (s_undo g).2.2 := by
  unfold s_undo
  split
  · exact h
  · rename_i z
    have hk := h.2.1.1
    refine ⟨h.2.1.2 _ (by omega), ⟨?_, fun j hj => h.2.1.2 j ?_⟩, h.2.2⟩
    · show g.2.1.1 - 1 ≤ 8; omega
    · have hj : j < g.2.1.1 - 1 := hj
      omega
theorem L_undo {M : sM} {g : zG} (hC : CI M g) (hG : GI g) {Q : Int32 → sM → Prop} {X : Nat → sM → Prop} (h : kC M (s_undo g) Q X) : wL_undo M Q X := by
  have hk := hG.2.1.1
  have hC0 := hC
  obtain ⟨h1, ⟨h2, s, h3, h4, h5⟩, h6⟩ := hC
  unfold wL_undo wX6_undo
  rw [h2]
  by_cases z : g.2.1.1 = 0
  · rw [show s_undo g = (1, 0, g) from if_pos z] at h
    rw [z]
    exact brt rfl (brt rfl (kC_no h (by decide) hC0))
  · rw [show s_undo g = _ from if_neg z] at h
    refine brf (fun w => z ((nI_eq (b := 0) (by omega) (by decide)).mp w)) ?_
    unfold wX0_stepBack wX0_takeBack
    intro M1 e1 M2 e2
    rw [h4, show nI s + (8 : Int32) = nI (s + 8) from nI_add s 8, rem9 (by omega)] at e1
    have q2 : M1 1 2 = nI g.2.1.1 := by rw [e1, ms_j _ _ _ (by decide)]; exact h2
    obtain ⟨K, hK⟩ : ∃ K, g.2.1.1 = K + 1 := ⟨g.2.1.1 - 1, by omega⟩
    rw [q2, hK, show nI (K + 1) - (1 : Int32) = nI K from nI_pred K] at e2
    have p1 : M2 1 1 = nI ((s + 8) % 9) := by rw [e2, ms_j _ _ _ (by decide), e1, ms_e]
    have p2 : M2 1 2 = nI K := by rw [e2, ms_e]
    have n2 : ∀ k, k ≠ 1 → M2 k = M k := fun k hk => by rw [e2, sw_ms_n _ _ _ hk, e1, sw_ms_n _ _ _ hk]
    have S := h5 K (by omega)
    rw [show (s + 9 - g.2.1.1 + K) % 9 = (s + 8) % 9 by omega] at S
    rw [p1, cl (by omega)]
    refine ⟨vin (by omega) (by decide), u5_copyFrom (by omega) (rS_fr S (fun b hb => n2 _ (by unfold sw_st; omega))) (hG.2.1.2 K (by omega)) (fun M3 f3 s3 => ?_)⟩
    have n3 : ∀ k, (k < 46 ∨ 63 ≤ k) → M3 k = M2 k := fun k hk => f3 k (by unfold sw_st; omega)
    have e3 : M3 1 2 = nI K := by rw [n3 1 (by decide)]; exact p2
    show Q (M3 1 2) M3
    rw [e3]
    rw [hK, Nat.add_sub_cancel] at h
    refine kC_w2 h (show K < _ by omega) (fun k a b => by rw [n3 k (by omega), n2 k (by omega)]) ?_
    refine ⟨s3, ⟨?_, (s + 8) % 9, by omega, ?_, fun j hj => ?_⟩, ⟨?_, fun w => rS_fr (h6.1.2 w) (fun b hb => by rw [n3 _ (by unfold sw_st; omega), n2 _ (by unfold sw_st; omega)])⟩, ?_, ?_, ?_⟩
    · rw [n3 1 (by decide)]; exact p2
    · rw [n3 1 (by decide)]; exact p1
    · have hj : j < K := hj
      have q := h5 j (by omega)
      show rS M3 (2 + ((s + 8) % 9 + 9 - K + j) % 9) (g.2.1.2 j)
      rw [show ((s + 8) % 9 + 9 - K + j) % 9 = (s + 9 - g.2.1.1 + j) % 9 by omega]
      exact rS_fr q (fun b hb => by rw [n3 _ (by unfold sw_st; omega), n2 _ (by unfold sw_st; omega)])
    · rw [n3 0 (by decide), n2 0 (by decide)]; exact h6.1.1
    · rw [n3 14 (by decide), n2 14 (by decide), n3 15 (by decide), n2 15 (by decide)]; exact h6.2.1
    · rw [n3 0 (by decide), n2 0 (by decide)]; exact h6.2.2.1
    · rw [n3 31 (by decide), n2 31 (by decide), n3 32 (by decide), n2 32 (by decide)]; exact h6.2.2.2
def zsave (g : zG) : zG := (g.1, g.2.1, (1, g.1), g.2.2.2)
theorem zsave_G {g : zG} (h : GI g) : GI (zsave g) := ⟨h.1, h.2.1, ⟨Nat.le_refl 1, fun _ => h.1⟩, h.2.2.2⟩
def s_restore (g : zG) : Nat × Nat × zG := if g.2.2.1.1 = 0 then (1, 0, g) else (0, 0, (g.2.2.1.2, (0, g.2.1.2), g.2.2))
theorem s_restore_G {g : zG} (h : GI g) : GI (s_restore g).2.2 := by
  unfold s_restore
  split
  · exact h
  · rename_i z
    have hk := h.2.2.1.1
    exact ⟨h.2.2.1.2 (by omega), ⟨Nat.zero_le _, fun j hj => absurd hj (Nat.not_lt_zero j)⟩, h.2.2⟩
/-! the changing calls at the face -/
def zstep (g : zG) (o : Nat × Nat × (Nat → Nat)) : Nat × Nat × zG := (o.1, o.2.1, zchg g o)
theorem oDoor_c (a : Nat → Nat) (f t : Int32) : (oDoor a f t).1 ≤ 2 ∧ ((oDoor a f t).1 ≠ 0 → (oDoor a f t).2.2 = a) := by
  unfold oDoor
  repeat' split
  all_goals first | exact ⟨by simp, fun _ => rfl⟩ | exact ⟨Nat.zero_le _, fun z => absurd rfl z⟩
theorem oDoor_v {a : Nat → Nat} (hb : rB a) (f t : Int32) : (oDoor a f t).2.1 < 2 ^ 31 := by
  have hD := rB_D hb
  have hE := rB_E hb
  have hT := rB_T hb
  have hN := rB_N hb
  unfold oDoor
  repeat' split
  all_goals first | exact (by decide : 0 < 2 ^ 31) | (show a 0 < _; omega)
theorem oExam_c (a : Nat → Nat) (f s c l : Int32) : (oExam a f s c l).1 ≤ 2 ∧ ((oExam a f s c l).1 ≠ 0 → (oExam a f s c l).2.2 = a) := by
  unfold oExam
  repeat' split
  all_goals first | exact ⟨by simp, fun _ => rfl⟩ | exact ⟨Nat.zero_le _, fun z => absurd rfl z⟩
theorem oExam_v {a : Nat → Nat} (hb : rB a) (f s c l : Int32) : (oExam a f s c l).2.1 < 2 ^ 31 := by
  have hD := rB_D hb
  have hE := rB_E hb
  have hT := rB_T hb
  have hN := rB_N hb
  unfold oExam
  repeat' split
  all_goals first | exact (by decide : 0 < 2 ^ 31) | (show a 1 < _; omega)
theorem zs_1_le (p : Nat → Nat) (n : Nat) (h : ∀ k, k < n → p k ≤ 1) : zs p n ≤ n := by
  have := zs_bound (f := p) (c := 1) (n := n) h
  omega
theorem oConf_c (a : Nat → Nat) (x k : Int32) : (oConf a x k).1 ≤ 2 ∧ ((oConf a x k).1 ≠ 0 → (oConf a x k).2.2 = a) := by
  unfold oConf oConfN
  repeat' split
  all_goals first | exact ⟨by simp, fun _ => rfl⟩ | exact ⟨Nat.zero_le _, fun z => absurd rfl z⟩
theorem oConf_v {a : Nat → Nat} (hb : rB a) (x k : Int32) : (oConf a x k).2.1 < 2 ^ 31 := by
  have hD := rB_D hb
  have hE := rB_E hb
  have hT := rB_T hb
  have hN := rB_N hb
  unfold oConf oConfN
  repeat' split
  all_goals first
    | exact (by decide : 0 < 2 ^ 31)
    | exact Nat.lt_of_le_of_lt (zs_1_le _ _ (fun y _ => by show (if _ then 1 else 0) ≤ 1; split <;> omega)) (by omega)
theorem oAss_c (a : Nat → Nat) (x k : Int32) : (oAss a x k).1 ≤ 3 ∧ ((oAss a x k).1 ≠ 0 → (oAss a x k).2.2 = a) := by
  unfold oAss oAssN
  repeat' split
  all_goals first | exact ⟨by simp, fun _ => rfl⟩ | exact ⟨Nat.zero_le _, fun z => absurd rfl z⟩
theorem oAss_v {a : Nat → Nat} (hb : rB a) (x k : Int32) : (oAss a x k).2.1 < 2 ^ 31 := by
  have hD := rB_D hb
  have hE := rB_E hb
  have hT := rB_T hb
  have hN := rB_N hb
  have q : (oAss a x k).1 = 0 → (oAss a x k).2.1 ≤ 3 := by
    unfold oAss
    split
    · rename_i hv
      obtain ⟨x, hx, rfl⟩ := zok_t hv.1 (by omega)
      obtain ⟨k, hk, rfl⟩ := zok_t hv.2 (by omega)
      rw [cl (by omega), cl (by omega)]
      unfold oAssN
      split
      · intro z; exact absurd z (by simp)
      · rename_i z
        split
        · intro z; exact absurd z (by simp)
        · rename_i y
          intro _
          have y : zjud a x k := Classical.not_not.mp y
          have q := hb.2.2.2.1 x k (by omega) (by omega)
          exact zcnt_le (rB_assign hb (by omega) (by omega) hx hk y.1.1 (by omega) (by omega) (by omega)) (by omega)
    · intro z; exact absurd z (by simp)
  have c := oAss_c a x k
  have r : (oAss a x k).1 ≠ 0 → (oAss a x k).2.1 = 0 := by
    unfold oAss oAssN
    repeat' split
    all_goals first | exact fun _ => rfl | exact fun z => absurd rfl z
  by_cases z : (oAss a x k).1 = 0
  · have := q z; omega
  · rw [r z]; decide
theorem oGrad_c (a : Nat → Nat) (x k g : Int32) : (oGrad a x k g).1 ≤ 3 ∧ ((oGrad a x k g).1 ≠ 0 → (oGrad a x k g).2.2 = a) := by
  unfold oGrad oGradN
  repeat' split
  all_goals first | exact ⟨by simp, fun _ => rfl⟩ | exact ⟨Nat.zero_le _, fun z => absurd rfl z⟩
theorem oGrad_v {a : Nat → Nat} (hb : rB a) (x k g : Int32) : (oGrad a x k g).2.1 < 2 ^ 31 := by
  have hD := rB_D hb
  have hE := rB_E hb
  have hT := rB_T hb
  have hN := rB_N hb
  unfold oGrad oGradN
  repeat' split
  all_goals first
    | exact (by decide : 0 < 2 ^ 31)
    | exact Nat.lt_of_le_of_lt (zs_1_le _ _ (fun y _ => by show (if _ then 1 else 0) ≤ 1; split <;> omega)) (by show zu a _ _ 1 < _; rw [zu_f _ _ (by omega)]; omega)
theorem oThr_c (a : Nat → Nat) (t : Int32) : (oThr a t).1 ≤ 1 ∧ ((oThr a t).1 ≠ 0 → (oThr a t).2.2 = a) := by
  unfold oThr
  repeat' split
  all_goals first | exact ⟨by simp, fun _ => rfl⟩ | exact ⟨Nat.zero_le _, fun z => absurd rfl z⟩
theorem oThr_v {a : Nat → Nat} (hb : rB a) (t : Int32) : (oThr a t).2.1 < 2 ^ 31 := by
  have hD := rB_D hb
  have hE := rB_E hb
  have hT := rB_T hb
  have hN := rB_N hb
  unfold oThr
  repeat' split
  all_goals first | exact (by decide : 0 < 2 ^ 31) | (show a 2 < _; omega)
theorem oAw_c (a : Nat → Nat) (k : Int32) : (oAw a k).1 ≤ 3 ∧ ((oAw a k).1 ≠ 0 → (oAw a k).2.2 = a) := by
  unfold oAw oAwN
  repeat' split
  all_goals first | exact ⟨by simp, fun _ => rfl⟩ | exact ⟨Nat.zero_le _, fun z => absurd rfl z⟩
theorem oAw_v {a : Nat → Nat} (hb : rB a) (k : Int32) : (oAw a k).2.1 < 2 ^ 31 := by
  have hD := rB_D hb
  have hE := rB_E hb
  have hT := rB_T hb
  have hN := rB_N hb
  unfold oAw oAwN
  repeat' split
  all_goals first | exact (by decide : 0 < 2 ^ 31) | (show a 3 + 1 < _; omega)
theorem oRev_c (a : Nat → Nat) (n : Int32) : (oRev a n).1 ≤ 2 ∧ ((oRev a n).1 ≠ 0 → (oRev a n).2.2 = a) := by
  unfold oRev oRevN
  repeat' split
  all_goals first | exact ⟨by simp, fun _ => rfl⟩ | exact ⟨Nat.zero_le _, fun z => absurd rfl z⟩
theorem oRev_v {a : Nat → Nat} (hb : rB a) (n : Int32) : (oRev a n).2.1 < 2 ^ 31 := by
  have hN := rB_N hb
  unfold oRev
  split
  · rename_i hv
    obtain ⟨n', hn', rfl⟩ := zI_nat (x := n) (by omega)
    rw [nI_toInt hn'] at hv
    rw [cl hn']
    have b := hb.2.2.2.2.1 (n' - 1) (by omega)
    unfold oRevN
    split
    · exact (by decide : 0 < 2 ^ 31)
    · show ze a (n' - 1) 0 < _; omega
  · exact (by decide : 0 < 2 ^ 31)
theorem L_addDoor {M : sM} {g : zG} (hC : CI M g) (hG : GI g) (f t : Int32) {Q : Int32 → sM → Prop} {X : Nat → sM → Prop} (h : kC M (zstep g (oDoor g.1 f t)) Q X) : wL_addDoor f t M Q X := by
  have K := oDoor_c g.1 f t
  have V := oDoor_v hG.1 f t
  unfold wL_addDoor wX6_addDoor
  refine c_chg hC hG (oDoor g.1 f t) (-2) (-3) (0) (fun M1 R => wX5_tryNewDoor 0 f t M1 R) (fun z => K.2 z) V (fun M1 R s1 hR => u5_tryNewDoor s1 hG.1 f t (fun oo M' e fF sS => by subst e; exact hR M' (fP_fr fF) sS)) (fun z M' fF cC => ?_) (fun z M' P fF cC => ?_)
  · refine kC_w (s := zstep g (oDoor g.1 f t)) h z V fF ?_
    show CI M' (zchg g _)
    unfold zchg
    rw [if_pos z]; exact cC
  · have hc : CI M' (zchg g (oDoor g.1 f t)) := by unfold zchg; rw [if_neg z]; exact cC
    have q := (h M' fF hc).2 z
    have q : X (oDoor g.1 f t).1 M' := q
    unfold zans
    rw [if_neg z]
    have K1 : (oDoor g.1 f t).1 = 1 ∨ (oDoor g.1 f t).1 = 2 := by have := K.1; omega
    rcases K1 with K1 | K1
    · rw [K1] at q ⊢
      exact ⟨by decide, rf2 (brt rfl q)⟩
    · rw [K1] at q ⊢
      exact ⟨by decide, rf3 (brf (by simp) (brt rfl q))⟩
theorem L_addExaminer {M : sM} {g : zG} (hC : CI M g) (hG : GI g) (f s c l : Int32) {Q : Int32 → sM → Prop} {X : Nat → sM → Prop} (h : kC M (zstep g (oExam g.1 f s c l)) Q X) : wL_addExaminer f s c l M Q X := by
  have K := oExam_c g.1 f s c l
  have V := oExam_v hG.1 f s c l
  unfold wL_addExaminer wX6_addExaminer
  refine c_chg hC hG (oExam g.1 f s c l) (-2) (-3) (0) (fun M1 R => wX5_tryNewExaminer 0 f s c l M1 R) (fun z => K.2 z) V (fun M1 R s1 hR => u5_tryNewExaminer s1 hG.1 f s c l (fun oo M' e fF sS => by subst e; exact hR M' (fP_fr fF) sS)) (fun z M' fF cC => ?_) (fun z M' P fF cC => ?_)
  · refine kC_w (s := zstep g (oExam g.1 f s c l)) h z V fF ?_
    show CI M' (zchg g _)
    unfold zchg
    rw [if_pos z]; exact cC
  · have hc : CI M' (zchg g (oExam g.1 f s c l)) := by unfold zchg; rw [if_neg z]; exact cC
    have q := (h M' fF hc).2 z
    have q : X (oExam g.1 f s c l).1 M' := q
    unfold zans
    rw [if_neg z]
    have K1 : (oExam g.1 f s c l).1 = 1 ∨ (oExam g.1 f s c l).1 = 2 := by have := K.1; omega
    rcases K1 with K1 | K1
    · rw [K1] at q ⊢
      exact ⟨by decide, rf2 (brt rfl q)⟩
    · rw [K1] at q ⊢
      exact ⟨by decide, rf3 (brf (by simp) (brt rfl q))⟩
theorem L_declareConflict {M : sM} {g : zG} (hC : CI M g) (hG : GI g) (x k : Int32) {Q : Int32 → sM → Prop} {X : Nat → sM → Prop} (h : kC M (zstep g (oConf g.1 x k)) Q X) : wL_declareConflict x k M Q X := by
  have K := oConf_c g.1 x k
  have V := oConf_v hG.1 x k
  unfold wL_declareConflict wX6_declareConflict
  refine c_chg hC hG (oConf g.1 x k) (-1) (-3) (0) (fun M1 R => wX5_tryConflict 0 x k M1 R) (fun z => K.2 z) V (fun M1 R s1 hR => u5_tryConflict s1 hG.1 x k (fun oo M' e fF sS => by subst e; exact hR M' (fP_fr fF) sS)) (fun z M' fF cC => ?_) (fun z M' P fF cC => ?_)
  · refine kC_w (s := zstep g (oConf g.1 x k)) h z V fF ?_
    show CI M' (zchg g _)
    unfold zchg
    rw [if_pos z]; exact cC
  · have hc : CI M' (zchg g (oConf g.1 x k)) := by unfold zchg; rw [if_neg z]; exact cC
    have q := (h M' fF hc).2 z
    have q : X (oConf g.1 x k).1 M' := q
    unfold zans
    rw [if_neg z]
    have K1 : (oConf g.1 x k).1 = 1 ∨ (oConf g.1 x k).1 = 2 := by have := K.1; omega
    rcases K1 with K1 | K1
    · rw [K1] at q ⊢
      exact ⟨by decide, rf1 (brt rfl q)⟩
    · rw [K1] at q ⊢
      exact ⟨by decide, rf3 (brf (by simp) (brt rfl q))⟩
theorem L_assign {M : sM} {g : zG} (hC : CI M g) (hG : GI g) (x k : Int32) {Q : Int32 → sM → Prop} {X : Nat → sM → Prop} (h : kC M (zstep g (oAss g.1 x k)) Q X) : wL_assign x k M Q X := by
  have K := oAss_c g.1 x k
  have V := oAss_v hG.1 x k
  unfold wL_assign wX6_assign
  refine c_chg hC hG (oAss g.1 x k) (-1) (-3) (-4) (fun M1 R => wX5_tryAssignment 0 x k M1 R) (fun z => K.2 z) V (fun M1 R s1 hR => u5_tryAssignment s1 hG.1 x k (fun oo M' e fF sS => by subst e; exact hR M' (fP_fr fF) sS)) (fun z M' fF cC => ?_) (fun z M' P fF cC => ?_)
  · refine kC_w (s := zstep g (oAss g.1 x k)) h z V fF ?_
    show CI M' (zchg g _)
    unfold zchg
    rw [if_pos z]; exact cC
  · have hc : CI M' (zchg g (oAss g.1 x k)) := by unfold zchg; rw [if_neg z]; exact cC
    have q := (h M' fF hc).2 z
    have q : X (oAss g.1 x k).1 M' := q
    unfold zans
    rw [if_neg z]
    have K1 : (oAss g.1 x k).1 = 1 ∨ (oAss g.1 x k).1 = 2 ∨ (oAss g.1 x k).1 = 3 := by have := K.1; omega
    rcases K1 with K1 | K1 | K1
    · rw [K1] at q ⊢
      exact ⟨by decide, rf1 (brt rfl q)⟩
    · rw [K1] at q ⊢
      exact ⟨by decide, rf3 (brf (by simp) (brt rfl q))⟩
    · rw [K1] at q ⊢
      exact ⟨by decide, rf4 (brf (by simp) (brf (by simp) (brt rfl q)))⟩
theorem L_grade {M : sM} {g : zG} (hC : CI M g) (hG : GI g) (x k v : Int32) {Q : Int32 → sM → Prop} {X : Nat → sM → Prop} (h : kC M (zstep g (oGrad g.1 x k v)) Q X) : wL_grade x k v M Q X := by
  have K := oGrad_c g.1 x k v
  have V := oGrad_v hG.1 x k v
  unfold wL_grade wX6_grade
  refine c_chg hC hG (oGrad g.1 x k v) (-1) (-2) (-3) (fun M1 R => wX5_tryGrade 0 x k v M1 R) (fun z => K.2 z) V (fun M1 R s1 hR => u5_tryGrade s1 hG.1 x k v (fun oo M' e fF sS => by subst e; exact hR M' (fP_fr fF) sS)) (fun z M' fF cC => ?_) (fun z M' P fF cC => ?_)
  · refine kC_w (s := zstep g (oGrad g.1 x k v)) h z V fF ?_
    show CI M' (zchg g _)
    unfold zchg
    rw [if_pos z]; exact cC
  · have hc : CI M' (zchg g (oGrad g.1 x k v)) := by unfold zchg; rw [if_neg z]; exact cC
    have q := (h M' fF hc).2 z
    have q : X (oGrad g.1 x k v).1 M' := q
    unfold zans
    rw [if_neg z]
    have K1 : (oGrad g.1 x k v).1 = 1 ∨ (oGrad g.1 x k v).1 = 2 ∨ (oGrad g.1 x k v).1 = 3 := by have := K.1; omega
    rcases K1 with K1 | K1 | K1
    · rw [K1] at q ⊢
      exact ⟨by decide, rf1 (brt rfl q)⟩
    · rw [K1] at q ⊢
      exact ⟨by decide, rf2 (brf (by simp) (brt rfl q))⟩
    · rw [K1] at q ⊢
      exact ⟨by decide, rf3 (brf (by simp) (brf (by simp) (brt rfl q)))⟩
theorem L_setThreshold {M : sM} {g : zG} (hC : CI M g) (hG : GI g) (t : Int32) {Q : Int32 → sM → Prop} {X : Nat → sM → Prop} (h : kC M (zstep g (oThr g.1 t)) Q X) : wL_setThreshold t M Q X := by
  have K := oThr_c g.1 t
  have V := oThr_v hG.1 t
  unfold wL_setThreshold wX6_setThreshold
  refine c_chg hC hG (oThr g.1 t) (-2) (0) (0) (fun M1 R => wX5_tryThreshold 0 t M1 R) (fun z => K.2 z) V (fun M1 R s1 hR => u5_tryThreshold s1 hG.1 t (fun oo M' e fF sS => by subst e; exact hR M' (fP_fr fF) sS)) (fun z M' fF cC => ?_) (fun z M' P fF cC => ?_)
  · refine kC_w (s := zstep g (oThr g.1 t)) h z V fF ?_
    show CI M' (zchg g _)
    unfold zchg
    rw [if_pos z]; exact cC
  · have hc : CI M' (zchg g (oThr g.1 t)) := by unfold zchg; rw [if_neg z]; exact cC
    have q := (h M' fF hc).2 z
    have q : X (oThr g.1 t).1 M' := q
    unfold zans
    rw [if_neg z]
    have K1 : (oThr g.1 t).1 = 1 := by have := K.1; omega
    rw [K1] at q ⊢
    exact ⟨by decide, rf2 (brt rfl q)⟩
theorem L_award {M : sM} {g : zG} (hC : CI M g) (hG : GI g) (k : Int32) {Q : Int32 → sM → Prop} {X : Nat → sM → Prop} (h : kC M (zstep g (oAw g.1 k)) Q X) : wL_award k M Q X := by
  have K := oAw_c g.1 k
  have V := oAw_v hG.1 k
  unfold wL_award wX6_award
  refine c_chg hC hG (oAw g.1 k) (-1) (-3) (-4) (fun M1 R => wX5_tryAward 0 k M1 R) (fun z => K.2 z) V (fun M1 R s1 hR => u5_tryAward s1 hG.1 k (fun oo M' e fF sS => by subst e; exact hR M' (fP_fr fF) sS)) (fun z M' fF cC => ?_) (fun z M' P fF cC => ?_)
  · refine kC_w (s := zstep g (oAw g.1 k)) h z V fF ?_
    show CI M' (zchg g _)
    unfold zchg
    rw [if_pos z]; exact cC
  · have hc : CI M' (zchg g (oAw g.1 k)) := by unfold zchg; rw [if_neg z]; exact cC
    have q := (h M' fF hc).2 z
    have q : X (oAw g.1 k).1 M' := q
    unfold zans
    rw [if_neg z]
    have K1 : (oAw g.1 k).1 = 1 ∨ (oAw g.1 k).1 = 2 ∨ (oAw g.1 k).1 = 3 := by have := K.1; omega
    rcases K1 with K1 | K1 | K1
    · rw [K1] at q ⊢
      exact ⟨by decide, rf1 (brt rfl q)⟩
    · rw [K1] at q ⊢
      exact ⟨by decide, rf3 (brf (by simp) (brt rfl q))⟩
    · rw [K1] at q ⊢
      exact ⟨by decide, rf4 (brf (by simp) (brf (by simp) (brt rfl q)))⟩
theorem L_revoke {M : sM} {g : zG} (hC : CI M g) (hG : GI g) (n : Int32) {Q : Int32 → sM → Prop} {X : Nat → sM → Prop} (h : kC M (zstep g (oRev g.1 n)) Q X) : wL_revoke n M Q X := by
  have K := oRev_c g.1 n
  have V := oRev_v hG.1 n
  unfold wL_revoke wX6_revoke
  refine c_chg hC hG (oRev g.1 n) (-5) (-3) (0) (fun M1 R => wX5_tryRevocation 0 n M1 R) (fun z => K.2 z) V (fun M1 R s1 hR => u5_tryRevocation s1 hG.1 n (fun oo M' e fF sS => by subst e; exact hR M' (fP_fr fF) sS)) (fun z M' fF cC => ?_) (fun z M' P fF cC => ?_)
  · refine kC_w (s := zstep g (oRev g.1 n)) h z V fF ?_
    show CI M' (zchg g _)
    unfold zchg
    rw [if_pos z]; exact cC
  · have hc : CI M' (zchg g (oRev g.1 n)) := by unfold zchg; rw [if_neg z]; exact cC
    have q := (h M' fF hc).2 z
    have q : X (oRev g.1 n).1 M' := q
    unfold zans
    rw [if_neg z]
    have K1 : (oRev g.1 n).1 = 1 ∨ (oRev g.1 n).1 = 2 := by have := K.1; omega
    rcases K1 with K1 | K1
    · rw [K1] at q ⊢
      exact ⟨by decide, rf5 (brt rfl q)⟩
    · rw [K1] at q ⊢
      exact ⟨by decide, rf3 (brf (by simp) (brt rfl q))⟩
/-! each keeps what a state keeps to -/
theorem oDoor_B {a : Nat → Nat} (hb : rB a) (f t : Int32) : rB (oDoor a f t).2.2 := by
  have hD := rB_D hb
  unfold oDoor
  split
  · rename_i hv
    split
    · exact hb
    · have ef : f.toNatClampNeg = f.toInt.toNat := rfl
      have et : t.toNatClampNeg = t.toInt.toNat := rfl
      exact rB_door hb (by omega) ⟨by omega, by omega⟩ (by omega)
  · exact hb
theorem oExam_B {a : Nat → Nat} (hb : rB a) (f s c l : Int32) : rB (oExam a f s c l).2.2 := by
  have hD := rB_E hb
  unfold oExam
  split
  · rename_i hv
    split
    · exact hb
    · have ef : f.toNatClampNeg = f.toInt.toNat := rfl
      have es : s.toNatClampNeg = s.toInt.toNat := rfl
      have ec : c.toNatClampNeg = c.toInt.toNat := rfl
      have el : l.toNatClampNeg = l.toInt.toNat := rfl
      exact rB_examiner hb (by omega) ⟨by omega, by omega⟩ (by omega) (by omega) (by omega)
  · exact hb
theorem oConf_B {a : Nat → Nat} (hb : rB a) (x k : Int32) : rB (oConf a x k).2.2 := by
  have hD := rB_D hb
  have hE := rB_E hb
  unfold oConf
  split
  · rename_i hv
    have ex : x.toNatClampNeg = x.toInt.toNat := rfl
    have ek : k.toNatClampNeg = k.toInt.toNat := rfl
    unfold oConfN
    split
    · exact hb
    · exact rB_conflict hb (by omega) (by omega)
  · exact hb
theorem oAss_B {a : Nat → Nat} (hb : rB a) (x k : Int32) : rB (oAss a x k).2.2 := by
  have hD := rB_D hb
  have hE := rB_E hb
  unfold oAss
  split
  · rename_i hv
    obtain ⟨x, hx, rfl⟩ := zok_t hv.1 (by omega)
    obtain ⟨k, hk, rfl⟩ := zok_t hv.2 (by omega)
    rw [cl (by omega), cl (by omega)]
    unfold oAssN
    split
    · exact hb
    · rename_i z
      split
      · exact hb
      · rename_i y
        have y : zjud a x k := Classical.not_not.mp y
        have q := hb.2.2.2.1 x k (by omega) (by omega)
        exact rB_assign hb (by omega) (by omega) hx hk y.1.1 (by omega) (by omega) (by omega)
  · exact hb
theorem oGrad_B {a : Nat → Nat} (hb : rB a) (x k g : Int32) : rB (oGrad a x k g).2.2 := by
  have hD := rB_D hb
  have hE := rB_E hb
  unfold oGrad
  split
  · rename_i hv
    split
    · rename_i hg
      obtain ⟨x, hx, rfl⟩ := zok_t hv.1 (by omega)
      obtain ⟨k, hk, rfl⟩ := zok_t hv.2 (by omega)
      obtain ⟨g, hg, rfl⟩ := zok_t hg (by omega)
      rw [cl (by omega), cl (by omega), cl (by omega)]
      unfold oGradN
      split
      · exact hb
      · have q := hb.2.2.2.1 x k (by omega) (by omega)
        exact rB_grade hb (by omega) (by omega) (by omega) (by omega)
    · exact hb
  · exact hb
theorem oThr_B {a : Nat → Nat} (hb : rB a) (t : Int32) : rB (oThr a t).2.2 := by
  unfold oThr
  split
  · rename_i hv
    have et : t.toNatClampNeg = t.toInt.toNat := rfl
    exact rB_threshold hb (by omega)
  · exact hb
theorem oAw_B {a : Nat → Nat} (hb : rB a) (k : Int32) : rB (oAw a k).2.2 := by
  have hD := rB_D hb
  unfold oAw
  split
  · rename_i hv
    obtain ⟨k, hk, rfl⟩ := zok_t hv (by omega)
    rw [cl (by omega)]
    unfold oAwN
    split
    · exact hb
    · split
      · exact hb
      · exact rB_award hb hk (by omega) (zN_lt hb (show k < 8 by omega) (by omega))
  · exact hb
theorem oRev_B {a : Nat → Nat} (hb : rB a) (n : Int32) : rB (oRev a n).2.2 := by
  have hN := rB_N hb
  unfold oRev
  split
  · rename_i hv
    obtain ⟨n', hn', rfl⟩ := zI_nat (x := n) (by omega)
    rw [nI_toInt hn'] at hv
    rw [cl hn']
    unfold oRevN
    split
    · exact hb
    · exact rB_revoke hb (by omega)
  · exact hb
