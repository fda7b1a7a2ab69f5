/-! The questions at the face: what the law's wrapper is told, what the reference answers. -/
def kC (M : sM) (s : Nat × Nat × zG) (d : sE) (Q : Int32 → sM → sO → sE → Prop) : Prop := ∀ M' o1, fC M M' → CI M' s.2.2 → (s.1 = 0 → o1 0 = lN s.2.1) → Q (nI s.1) M' o1 d
def kM (M : sM) (s : Nat × Nat × zG) (Q : Int32 → sM → Prop) : Prop := ∀ M' r, fM M M' → MI M' s.2.2 → M' 33 6 = nI s.1 → (s.1 = 0 → r = nI s.2.1) → Q r M'
section KC
variable {M : sM} {g : zG} {o : sO} {d : sE} {Q : Int32 → sM → sO → sE → Prop}
theorem upL0 (o : sO) (x : Int64) : vp_updL o ((0 : Int32)).toNatClampNeg x 0 = x := if_pos rfl
theorem kC_ok {v : Nat} (h : kC M (0, v, g) d Q) (hC : CI M g) (hv : v < 2 ^ 31) : ∀ o2 : sO, o2 = vp_updL o ((0 : Int32)).toNatClampNeg ((nI v).toInt64) → Q (0 : Int32) M o2 d := by
  intro o2 e
  refine h M o2 (fC_r M) hC (fun _ => ?_)
  rw [e, upL0]; exact nI_l hv
theorem kC_no {c : Nat} (h : kC M (c, 0, g) d Q) (hc : c ≠ 0) (hC : CI M g) : Q (nI c) M o d := h M o (fC_r M) hC (fun z => absurd z hc)
theorem kC_t {p : Prop} [Decidable p] (h : kC M (0, (if p then 1 else 0), g) d Q) (hp : p) (hC : CI M g) : ∀ o2 : sO, o2 = vp_updL o ((0 : Int32)).toNatClampNeg ((1 : Int64)) → Q (0 : Int32) M o2 d := by
  intro o2 e
  refine h M o2 (fC_r M) hC (fun _ => ?_)
  rw [e, upL0, show (0, (if p then 1 else 0), g).2.1 = 1 from if_pos hp]; rfl
theorem kC_f {p : Prop} [Decidable p] (h : kC M (0, (if p then 1 else 0), g) d Q) (hp : ¬ p) (hC : CI M g) : ∀ o2 : sO, o2 = vp_updL o ((0 : Int32)).toNatClampNeg ((0 : Int64)) → Q (0 : Int32) M o2 d := by
  intro o2 e
  refine h M o2 (fC_r M) hC (fun _ => ?_)
  rw [e, upL0, show (0, (if p then 1 else 0), g).2.1 = 0 from if_neg hp]; rfl
end KC
section KM
variable {M : sM} {g : zG}
theorem MI_6 (hM : MI M g) (v : Int32) : MI (sw_ms M 33 6 v) g := MI_tr hM (fun k hk => sw_ms_n _ _ _ (by omega)) (fun j hj => ms_j _ _ _ (by omega))
theorem fM_6 (M : sM) (v : Int32) : fM M (sw_ms M 33 6 v) := fun k hk => sw_ms_n _ _ _ (by omega)
theorem m_there1 (hM : MI M g) {K : Int32 → sM → Prop} (h : ∀ M3, fM M M3 → MI M3 g → M3 33 6 = 0 → K 1 M3) : wX7_isThere 1 M K := by
  unfold wX7_isThere
  refine br1 ?_
  intro M3 e3
  subst e3
  exact ⟨nb1, h _ (fM_6 M _) (MI_6 hM _) (ms_e _ _ _ _)⟩
theorem m_there0 (hM : MI M g) {K : Int32 → sM → Prop} (h : ∀ M3, fM M M3 → MI M3 g → M3 33 6 = 1 → K 0 M3) : wX7_isThere 0 M K := by
  unfold wX7_isThere
  refine br0 ?_
  intro M3 e3
  subst e3
  exact ⟨nb0, h _ (fM_6 M _) (MI_6 hM _) (ms_e _ _ _ _)⟩
theorem kM_no {Q : Int32 → sM → Prop} {c : Nat} {M3 : sM} (h : kM M (c, 0, g) Q) (hc : c ≠ 0) (f : fM M M3) (i : MI M3 g) (t : M3 33 6 = nI c) (r : Int32) : Q r M3 := h M3 r f i t (fun z => absurd z hc)
theorem kM_ok {Q : Int32 → sM → Prop} {v : Nat} {M3 : sM} (h : kM M (0, v, g) Q) (f : fM M M3) (i : MI M3 g) (t : M3 33 6 = 0) : Q (nI v) M3 := h M3 _ f i t (fun _ => rfl)
theorem kM_t {Q : Int32 → sM → Prop} {p : Prop} [Decidable p] {M3 : sM} (h : kM M (0, (if p then 1 else 0), g) Q) (hp : p) (f : fM M M3) (i : MI M3 g) (t : M3 33 6 = 0) : Q 1 M3 := h M3 _ f i t (fun _ => by rw [show (0, (if p then 1 else 0), g).2.1 = 1 from if_pos hp]; rfl)
theorem kM_f {Q : Int32 → sM → Prop} {p : Prop} [Decidable p] {M3 : sM} (h : kM M (0, (if p then 1 else 0), g) Q) (hp : ¬ p) (f : fM M M3) (i : MI M3 g) (t : M3 33 6 = 0) : Q 0 M3 := h M3 _ f i t (fun _ => by rw [show (0, (if p then 1 else 0), g).2.1 = 0 from if_neg hp]; rfl)
theorem chr_w {n : Nat} (h : n < 65536) : ((nI n).toUInt32 % 65536).toInt32 = nI n := by
  rw [pk_char, pk_tn (by omega), Nat.mod_eq_of_lt h]
end KM
def s_topic (g : zG) (x : Int32) : Nat × Nat × zG := if zok x (g.1 0) then (0, zd g.1 x.toNatClampNeg 1, g) else (1, 0, g)
theorem s_topic_G {g : zG} (h : GI g) (x : Int32) : GI (s_topic g x).2.2 := by unfold s_topic; split <;> exact h
theorem L_topic {M : sM} {g : zG} (hC : CI M g) (hG : GI g) (x : Int32) {o : sO} {d : sE} {Q : Int32 → sM → sO → sE → Prop} (h : kC M (s_topic g x) d Q) : wL_topic x M o d Q := by
  have hD := rB_D hG.1
  have hE := rB_E hG.1
  unfold wL_topic wX6_topic wX6_requireDoor
  by_cases hv : zok x (g.1 0)
  · obtain ⟨k, hk, rfl⟩ := zok_t hv (by omega)
    have hk8 : k < 8 := by omega
    rw [show s_topic g (nI k) = (0, zd g.1 k 1, g) by unfold s_topic; rw [if_pos hv, cl (by omega)]] at h
    refine u5_hasDoor_t hC.1 hG.1 hk (br1 ?_)
    have b := hG.1.2.1 k hk8
    refine ⟨vin hk8 (by decide), ?_⟩
    rw [cl (by omega), rS_dt hC.1 hk8]
    exact kC_ok h hC (by omega)
  · rw [show s_topic g x = (1, 0, g) from if_neg hv] at h
    exact u5_hasDoor_f hC.1 hG.1 (zok_f hv (by omega)) (br0 (brt rfl (kC_no h (by decide) hC)))
theorem m_topic {M : sM} {g : zG} (hM : MI M g) (hG : GI g) (x : Int32) {Q : Int32 → sM → Prop} (h : kM M (s_topic g x) Q) : wX7_topic x M Q := by
  have hD := rB_D hG.1
  have hE := rB_E hG.1
  unfold wX7_topic
  by_cases hv : zok x (g.1 0)
  · obtain ⟨k, hk, rfl⟩ := zok_t hv (by omega)
    have hk8 : k < 8 := by omega
    rw [show s_topic g (nI k) = (0, zd g.1 k 1, g) by unfold s_topic; rw [if_pos hv, cl (by omega)]] at h
    refine u7_isDoor_t hM.1 hG.1 hk (m_there1 hM (fun M3 f3 i3 t3 => br1 ?_))
    exact u7_door i3.1 hk8 (w := 1) (by decide) (kM_ok h f3 i3 t3)
  · rw [show s_topic g x = (1, 0, g) from if_neg hv] at h
    exact u7_isDoor_f hM.1 hG.1 (zok_f hv (by omega)) (m_there0 hM (fun M3 f3 i3 t3 => br0 (kM_no h (by decide) f3 i3 t3 _)))
def s_frameOfDoor (g : zG) (x : Int32) : Nat × Nat × zG := if zok x (g.1 0) then (0, zd g.1 x.toNatClampNeg 0, g) else (1, 0, g)
theorem s_frameOfDoor_G {g : zG} (h : GI g) (x : Int32) : GI (s_frameOfDoor g x).2.2 := by unfold s_frameOfDoor; split <;> exact h
theorem L_frameOfDoor {M : sM} {g : zG} (hC : CI M g) (hG : GI g) (x : Int32) {o : sO} {d : sE} {Q : Int32 → sM → sO → sE → Prop} (h : kC M (s_frameOfDoor g x) d Q) : wL_frameOfDoor x M o d Q := by
  have hD := rB_D hG.1
  have hE := rB_E hG.1
  unfold wL_frameOfDoor wX6_frameOfDoor wX6_requireDoor
  by_cases hv : zok x (g.1 0)
  · obtain ⟨k, hk, rfl⟩ := zok_t hv (by omega)
    have hk8 : k < 8 := by omega
    rw [show s_frameOfDoor g (nI k) = (0, zd g.1 k 0, g) by unfold s_frameOfDoor; rw [if_pos hv, cl (by omega)]] at h
    refine u5_hasDoor_t hC.1 hG.1 hk (br1 ?_)
    have b := hG.1.2.1 k hk8
    refine ⟨vin hk8 (by decide), ?_⟩
    rw [cl (by omega), rS_df hC.1 hk8]
    exact ⟨(pk_charN (by omega)).1, kC_ok h hC (by omega)⟩
  · rw [show s_frameOfDoor g x = (1, 0, g) from if_neg hv] at h
    exact u5_hasDoor_f hC.1 hG.1 (zok_f hv (by omega)) (br0 (brt rfl (kC_no h (by decide) hC)))
theorem m_frameOfDoor {M : sM} {g : zG} (hM : MI M g) (hG : GI g) (x : Int32) {Q : Int32 → sM → Prop} (h : kM M (s_frameOfDoor g x) Q) : wX7_frameOfDoor x M Q := by
  have hD := rB_D hG.1
  have hE := rB_E hG.1
  unfold wX7_frameOfDoor
  by_cases hv : zok x (g.1 0)
  · obtain ⟨k, hk, rfl⟩ := zok_t hv (by omega)
    have hk8 : k < 8 := by omega
    rw [show s_frameOfDoor g (nI k) = (0, zd g.1 k 0, g) by unfold s_frameOfDoor; rw [if_pos hv, cl (by omega)]] at h
    refine u7_isDoor_t hM.1 hG.1 hk (m_there1 hM (fun M3 f3 i3 t3 => br1 ?_))
    have b := hG.1.2.1 k hk8
    refine u7_door i3.1 hk8 (w := 0) (by decide) ?_
    rw [chr_w (by omega)]
    intro v e
    subst e
    exact ⟨(pk_charN (by omega)).1, kM_ok h f3 i3 t3⟩
  · rw [show s_frameOfDoor g x = (1, 0, g) from if_neg hv] at h
    exact u7_isDoor_f hM.1 hG.1 (zok_f hv (by omega)) (m_there0 hM (fun M3 f3 i3 t3 => br0 ⟨rfl, kM_no h (by decide) f3 i3 t3 _⟩))
def s_examinersOf (g : zG) (x : Int32) : Nat × Nat × zG := if zok x (g.1 0) then (0, zcnt g.1 x.toNatClampNeg, g) else (1, 0, g)
theorem s_examinersOf_G {g : zG} (h : GI g) (x : Int32) : GI (s_examinersOf g x).2.2 := by unfold s_examinersOf; split <;> exact h
theorem L_examinersOf {M : sM} {g : zG} (hC : CI M g) (hG : GI g) (x : Int32) {o : sO} {d : sE} {Q : Int32 → sM → sO → sE → Prop} (h : kC M (s_examinersOf g x) d Q) : wL_examinersOf x M o d Q := by
  have hD := rB_D hG.1
  have hE := rB_E hG.1
  unfold wL_examinersOf wX6_examinersOf wX6_requireDoor
  by_cases hv : zok x (g.1 0)
  · obtain ⟨k, hk, rfl⟩ := zok_t hv (by omega)
    have hk8 : k < 8 := by omega
    rw [show s_examinersOf g (nI k) = (0, zcnt g.1 k, g) by unfold s_examinersOf; rw [if_pos hv, cl (by omega)]] at h
    refine u5_hasDoor_t hC.1 hG.1 hk (br1 ?_)
    have b := zcnt_le hG.1 hk8
    exact u5_assignedCount hC.1 hG.1 hk8 (kC_ok h hC (by omega))
  · rw [show s_examinersOf g x = (1, 0, g) from if_neg hv] at h
    exact u5_hasDoor_f hC.1 hG.1 (zok_f hv (by omega)) (br0 (brt rfl (kC_no h (by decide) hC)))
theorem m_examinersOf {M : sM} {g : zG} (hM : MI M g) (hG : GI g) (x : Int32) {Q : Int32 → sM → Prop} (h : kM M (s_examinersOf g x) Q) : wX7_examinersOf x M Q := by
  have hD := rB_D hG.1
  have hE := rB_E hG.1
  unfold wX7_examinersOf
  by_cases hv : zok x (g.1 0)
  · obtain ⟨k, hk, rfl⟩ := zok_t hv (by omega)
    have hk8 : k < 8 := by omega
    rw [show s_examinersOf g (nI k) = (0, zcnt g.1 k, g) by unfold s_examinersOf; rw [if_pos hv, cl (by omega)]] at h
    refine u7_isDoor_t hM.1 hG.1 hk (m_there1 hM (fun M3 f3 i3 t3 => br1 ?_))
    exact u7_examinersAt i3.1 hG.1 hk8 (kM_ok h f3 i3 t3)
  · rw [show s_examinersOf g x = (1, 0, g) from if_neg hv] at h
    exact u7_isDoor_f hM.1 hG.1 (zok_f hv (by omega)) (m_there0 hM (fun M3 f3 i3 t3 => br0 (kM_no h (by decide) f3 i3 t3 _)))
def s_gradesOf (g : zG) (x : Int32) : Nat × Nat × zG := if zok x (g.1 0) then (0, zgc g.1 x.toNatClampNeg, g) else (1, 0, g)
theorem s_gradesOf_G {g : zG} (h : GI g) (x : Int32) : GI (s_gradesOf g x).2.2 := by unfold s_gradesOf; split <;> exact h
theorem L_gradesOf {M : sM} {g : zG} (hC : CI M g) (hG : GI g) (x : Int32) {o : sO} {d : sE} {Q : Int32 → sM → sO → sE → Prop} (h : kC M (s_gradesOf g x) d Q) : wL_gradesOf x M o d Q := by
  have hD := rB_D hG.1
  have hE := rB_E hG.1
  unfold wL_gradesOf wX6_gradesOf wX6_requireDoor
  by_cases hv : zok x (g.1 0)
  · obtain ⟨k, hk, rfl⟩ := zok_t hv (by omega)
    have hk8 : k < 8 := by omega
    rw [show s_gradesOf g (nI k) = (0, zgc g.1 k, g) by unfold s_gradesOf; rw [if_pos hv, cl (by omega)]] at h
    refine u5_hasDoor_t hC.1 hG.1 hk (br1 ?_)
    have b := zgc_le hG.1 hk8
    exact u5_gradeCount hC.1 hG.1 hk8 (kC_ok h hC (by omega))
  · rw [show s_gradesOf g x = (1, 0, g) from if_neg hv] at h
    exact u5_hasDoor_f hC.1 hG.1 (zok_f hv (by omega)) (br0 (brt rfl (kC_no h (by decide) hC)))
theorem m_gradesOf {M : sM} {g : zG} (hM : MI M g) (hG : GI g) (x : Int32) {Q : Int32 → sM → Prop} (h : kM M (s_gradesOf g x) Q) : wX7_gradesOf x M Q := by
  have hD := rB_D hG.1
  have hE := rB_E hG.1
  unfold wX7_gradesOf
  by_cases hv : zok x (g.1 0)
  · obtain ⟨k, hk, rfl⟩ := zok_t hv (by omega)
    have hk8 : k < 8 := by omega
    rw [show s_gradesOf g (nI k) = (0, zgc g.1 k, g) by unfold s_gradesOf; rw [if_pos hv, cl (by omega)]] at h
    refine u7_isDoor_t hM.1 hG.1 hk (m_there1 hM (fun M3 f3 i3 t3 => br1 ?_))
    exact u7_gradesAt i3.1 hG.1 hk8 (kM_ok h f3 i3 t3)
  · rw [show s_gradesOf g x = (1, 0, g) from if_neg hv] at h
    exact u7_isDoor_f hM.1 hG.1 (zok_f hv (by omega)) (m_there0 hM (fun M3 f3 i3 t3 => br0 (kM_no h (by decide) f3 i3 t3 _)))
def s_passes (g : zG) (x : Int32) : Nat × Nat × zG := if zok x (g.1 0) then (0, (if zpas g.1 x.toNatClampNeg then 1 else 0), g) else (1, 0, g)
theorem s_passes_G {g : zG} (h : GI g) (x : Int32) : GI (s_passes g x).2.2 := by unfold s_passes; split <;> exact h
theorem L_passes {M : sM} {g : zG} (hC : CI M g) (hG : GI g) (x : Int32) {o : sO} {d : sE} {Q : Int32 → sM → sO → sE → Prop} (h : kC M (s_passes g x) d Q) : wL_passes x M o d Q := by
  have hD := rB_D hG.1
  have hE := rB_E hG.1
  unfold wL_passes wX6_passes wX6_requireDoor
  by_cases hv : zok x (g.1 0)
  · obtain ⟨k, hk, rfl⟩ := zok_t hv (by omega)
    have hk8 : k < 8 := by omega
    rw [show s_passes g (nI k) = (0, (if zpas g.1 k then 1 else 0), g) by unfold s_passes; rw [if_pos hv, cl (by omega)]] at h
    refine u5_hasDoor_t hC.1 hG.1 hk (br1 ?_)
    exact u5_hasPassed hC.1 hG.1 hk8 (fun z => ⟨nb1, br1 (kC_t h z hC)⟩) (fun z => ⟨nb0, br0 (kC_f h z hC)⟩)
  · rw [show s_passes g x = (1, 0, g) from if_neg hv] at h
    exact u5_hasDoor_f hC.1 hG.1 (zok_f hv (by omega)) (br0 (brt rfl (kC_no h (by decide) hC)))
theorem m_passes {M : sM} {g : zG} (hM : MI M g) (hG : GI g) (x : Int32) {Q : Int32 → sM → Prop} (h : kM M (s_passes g x) Q) : wX7_passes x M Q := by
  have hD := rB_D hG.1
  have hE := rB_E hG.1
  unfold wX7_passes
  by_cases hv : zok x (g.1 0)
  · obtain ⟨k, hk, rfl⟩ := zok_t hv (by omega)
    have hk8 : k < 8 := by omega
    rw [show s_passes g (nI k) = (0, (if zpas g.1 k then 1 else 0), g) by unfold s_passes; rw [if_pos hv, cl (by omega)]] at h
    refine u7_isDoor_t hM.1 hG.1 hk (m_there1 hM (fun M3 f3 i3 t3 => br1 ?_))
    exact u7_hasPassed i3.1 hG.1 hk8 (fun z => br1 (kM_t h z f3 i3 t3)) (fun z => br0 (kM_f h z f3 i3 t3))
  · rw [show s_passes g x = (1, 0, g) from if_neg hv] at h
    exact u7_isDoor_f hM.1 hG.1 (zok_f hv (by omega)) (m_there0 hM (fun M3 f3 i3 t3 => br0 (kM_no h (by decide) f3 i3 t3 _)))
def s_isEntitled (g : zG) (x : Int32) : Nat × Nat × zG := if zok x (g.1 0) then (0, (if zent g.1 x.toNatClampNeg then 1 else 0), g) else (1, 0, g)
theorem s_isEntitled_G {g : zG} (h : GI g) (x : Int32) : GI (s_isEntitled g x).2.2 := by unfold s_isEntitled; split <;> exact h
theorem L_isEntitled {M : sM} {g : zG} (hC : CI M g) (hG : GI g) (x : Int32) {o : sO} {d : sE} {Q : Int32 → sM → sO → sE → Prop} (h : kC M (s_isEntitled g x) d Q) : wL_isEntitled x M o d Q := by
  have hD := rB_D hG.1
  have hE := rB_E hG.1
  unfold wL_isEntitled wX6_isEntitled wX6_requireDoor
  by_cases hv : zok x (g.1 0)
  · obtain ⟨k, hk, rfl⟩ := zok_t hv (by omega)
    have hk8 : k < 8 := by omega
    rw [show s_isEntitled g (nI k) = (0, (if zent g.1 k then 1 else 0), g) by unfold s_isEntitled; rw [if_pos hv, cl (by omega)]] at h
    refine u5_hasDoor_t hC.1 hG.1 hk (br1 ?_)
    exact u5_deservesDegree hC.1 hG.1 hk8 (fun z => ⟨nb1, br1 (kC_t h z hC)⟩) (fun z => ⟨nb0, br0 (kC_f h z hC)⟩)
  · rw [show s_isEntitled g x = (1, 0, g) from if_neg hv] at h
    exact u5_hasDoor_f hC.1 hG.1 (zok_f hv (by omega)) (br0 (brt rfl (kC_no h (by decide) hC)))
theorem m_isEntitled {M : sM} {g : zG} (hM : MI M g) (hG : GI g) (x : Int32) {Q : Int32 → sM → Prop} (h : kM M (s_isEntitled g x) Q) : wX7_isEntitled x M Q := by
  have hD := rB_D hG.1
  have hE := rB_E hG.1
  unfold wX7_isEntitled
  by_cases hv : zok x (g.1 0)
  · obtain ⟨k, hk, rfl⟩ := zok_t hv (by omega)
    have hk8 : k < 8 := by omega
    rw [show s_isEntitled g (nI k) = (0, (if zent g.1 k then 1 else 0), g) by unfold s_isEntitled; rw [if_pos hv, cl (by omega)]] at h
    refine u7_isDoor_t hM.1 hG.1 hk (m_there1 hM (fun M3 f3 i3 t3 => br1 ?_))
    exact u7_entitled i3.1 hG.1 hk8 (fun z => br1 (kM_t h z f3 i3 t3)) (fun z => br0 (kM_f h z f3 i3 t3))
  · rw [show s_isEntitled g x = (1, 0, g) from if_neg hv] at h
    exact u7_isDoor_f hM.1 hG.1 (zok_f hv (by omega)) (m_there0 hM (fun M3 f3 i3 t3 => br0 (kM_no h (by decide) f3 i3 t3 _)))
def s_wasGranted (g : zG) (x : Int32) : Nat × Nat × zG := if zok x (g.1 0) then (0, (if zd g.1 x.toNatClampNeg 3 = 1 then 1 else 0), g) else (1, 0, g)
theorem s_wasGranted_G {g : zG} (h : GI g) (x : Int32) : GI (s_wasGranted g x).2.2 := by unfold s_wasGranted; split <;> exact h
theorem L_wasGranted {M : sM} {g : zG} (hC : CI M g) (hG : GI g) (x : Int32) {o : sO} {d : sE} {Q : Int32 → sM → sO → sE → Prop} (h : kC M (s_wasGranted g x) d Q) : wL_wasGranted x M o d Q := by
  have hD := rB_D hG.1
  have hE := rB_E hG.1
  unfold wL_wasGranted wX6_wasGranted wX6_requireDoor
  by_cases hv : zok x (g.1 0)
  · obtain ⟨k, hk, rfl⟩ := zok_t hv (by omega)
    have hk8 : k < 8 := by omega
    rw [show s_wasGranted g (nI k) = (0, (if zd g.1 k 3 = 1 then 1 else 0), g) by unfold s_wasGranted; rw [if_pos hv, cl (by omega)]] at h
    refine u5_hasDoor_t hC.1 hG.1 hk (br1 ?_)
    rw [rS_gr hC.1]
    have hl := zm_lt (zm_d3 hG.1)
    have e := zm_bit (zm_d3 hG.1) hk8
    refine u6_contains (by omega) (by omega) (fun z => ⟨nb1, br1 (kC_t h ?_ hC)⟩) (fun z => ⟨nb0, br0 (kC_f h ?_ hC)⟩)
    · rw [e] at z; exact z
    · rw [e] at z; exact z
  · rw [show s_wasGranted g x = (1, 0, g) from if_neg hv] at h
    exact u5_hasDoor_f hC.1 hG.1 (zok_f hv (by omega)) (br0 (brt rfl (kC_no h (by decide) hC)))
theorem m_wasGranted {M : sM} {g : zG} (hM : MI M g) (hG : GI g) (x : Int32) {Q : Int32 → sM → Prop} (h : kM M (s_wasGranted g x) Q) : wX7_wasGranted x M Q := by
  have hD := rB_D hG.1
  have hE := rB_E hG.1
  unfold wX7_wasGranted
  by_cases hv : zok x (g.1 0)
  · obtain ⟨k, hk, rfl⟩ := zok_t hv (by omega)
    have hk8 : k < 8 := by omega
    rw [show s_wasGranted g (nI k) = (0, (if zd g.1 k 3 = 1 then 1 else 0), g) by unfold s_wasGranted; rw [if_pos hv, cl (by omega)]] at h
    refine u7_isDoor_t hM.1 hG.1 hk (m_there1 hM (fun M3 f3 i3 t3 => br1 ?_))
    have b := hG.1.2.1 k hk8
    exact u7_door i3.1 hk8 (w := 3) (by decide) (bri (nI_eq (b := 1) (by omega) (by decide)) (fun z => kM_t h z f3 i3 t3) (fun z => kM_f h z f3 i3 t3))
  · rw [show s_wasGranted g x = (1, 0, g) from if_neg hv] at h
    exact u7_isDoor_f hM.1 hG.1 (zok_f hv (by omega)) (m_there0 hM (fun M3 f3 i3 t3 => br0 (kM_no h (by decide) f3 i3 t3 _)))
def s_load (g : zG) (x : Int32) : Nat × Nat × zG := if zok x (g.1 1) then (0, zload g.1 x.toNatClampNeg, g) else (1, 0, g)
theorem s_load_G {g : zG} (h : GI g) (x : Int32) : GI (s_load g x).2.2 := by unfold s_load; split <;> exact h
theorem L_load {M : sM} {g : zG} (hC : CI M g) (hG : GI g) (x : Int32) {o : sO} {d : sE} {Q : Int32 → sM → sO → sE → Prop} (h : kC M (s_load g x) d Q) : wL_load x M o d Q := by
  have hD := rB_D hG.1
  have hE := rB_E hG.1
  unfold wL_load wX6_load wX6_requireExaminer
  by_cases hv : zok x (g.1 1)
  · obtain ⟨k, hk, rfl⟩ := zok_t hv (by omega)
    have hk8 : k < 6 := by omega
    rw [show s_load g (nI k) = (0, zload g.1 k, g) by unfold s_load; rw [if_pos hv, cl (by omega)]] at h
    refine u5_hasExaminer_t hC.1 hG.1 hk (br1 ?_)
    have b := zload_le hG.1 hk8
    have b2 := hG.1.2.2.1 k hk8
    exact u5_loadOf hC.1 hG.1 hk8 (kC_ok h hC (by omega))
  · rw [show s_load g x = (1, 0, g) from if_neg hv] at h
    exact u5_hasExaminer_f hC.1 hG.1 (zok_f hv (by omega)) (br0 (brt rfl (kC_no h (by decide) hC)))
theorem m_load {M : sM} {g : zG} (hM : MI M g) (hG : GI g) (x : Int32) {Q : Int32 → sM → Prop} (h : kM M (s_load g x) Q) : wX7_load x M Q := by
  have hD := rB_D hG.1
  have hE := rB_E hG.1
  unfold wX7_load
  by_cases hv : zok x (g.1 1)
  · obtain ⟨k, hk, rfl⟩ := zok_t hv (by omega)
    have hk8 : k < 6 := by omega
    rw [show s_load g (nI k) = (0, zload g.1 k, g) by unfold s_load; rw [if_pos hv, cl (by omega)]] at h
    refine u7_isExaminer_t hM.1 hG.1 hk (m_there1 hM (fun M3 f3 i3 t3 => br1 ?_))
    exact u7_loadOf i3.1 hG.1 hk8 (kM_ok h f3 i3 t3)
  · rw [show s_load g x = (1, 0, g) from if_neg hv] at h
    exact u7_isExaminer_f hM.1 hG.1 (zok_f hv (by omega)) (m_there0 hM (fun M3 f3 i3 t3 => br0 (kM_no h (by decide) f3 i3 t3 _)))
def s_frameOfExaminer (g : zG) (x : Int32) : Nat × Nat × zG := if zok x (g.1 1) then (0, zx g.1 x.toNatClampNeg 0, g) else (1, 0, g)
theorem s_frameOfExaminer_G {g : zG} (h : GI g) (x : Int32) : GI (s_frameOfExaminer g x).2.2 := by unfold s_frameOfExaminer; split <;> exact h
theorem L_frameOfExaminer {M : sM} {g : zG} (hC : CI M g) (hG : GI g) (x : Int32) {o : sO} {d : sE} {Q : Int32 → sM → sO → sE → Prop} (h : kC M (s_frameOfExaminer g x) d Q) : wL_frameOfExaminer x M o d Q := by
  have hD := rB_D hG.1
  have hE := rB_E hG.1
  unfold wL_frameOfExaminer wX6_frameOfExaminer wX6_requireExaminer
  by_cases hv : zok x (g.1 1)
  · obtain ⟨k, hk, rfl⟩ := zok_t hv (by omega)
    have hk8 : k < 6 := by omega
    rw [show s_frameOfExaminer g (nI k) = (0, zx g.1 k 0, g) by unfold s_frameOfExaminer; rw [if_pos hv, cl (by omega)]] at h
    refine u5_hasExaminer_t hC.1 hG.1 hk (br1 ?_)
    have b := hG.1.2.2.1 k hk8
    refine ⟨vin hk8 (by decide), ?_⟩
    rw [cl (by omega), rS_xf hC.1 hk8]
    exact ⟨(pk_charN (by omega)).1, kC_ok h hC (by omega)⟩
  · rw [show s_frameOfExaminer g x = (1, 0, g) from if_neg hv] at h
    exact u5_hasExaminer_f hC.1 hG.1 (zok_f hv (by omega)) (br0 (brt rfl (kC_no h (by decide) hC)))
theorem m_frameOfExaminer {M : sM} {g : zG} (hM : MI M g) (hG : GI g) (x : Int32) {Q : Int32 → sM → Prop} (h : kM M (s_frameOfExaminer g x) Q) : wX7_frameOfExaminer x M Q := by
  have hD := rB_D hG.1
  have hE := rB_E hG.1
  unfold wX7_frameOfExaminer
  by_cases hv : zok x (g.1 1)
  · obtain ⟨k, hk, rfl⟩ := zok_t hv (by omega)
    have hk8 : k < 6 := by omega
    rw [show s_frameOfExaminer g (nI k) = (0, zx g.1 k 0, g) by unfold s_frameOfExaminer; rw [if_pos hv, cl (by omega)]] at h
    refine u7_isExaminer_t hM.1 hG.1 hk (m_there1 hM (fun M3 f3 i3 t3 => br1 ?_))
    have b := hG.1.2.2.1 k hk8
    refine u7_examiner i3.1 hk8 (w := 0) (by decide) ?_
    rw [chr_w (by omega)]
    intro v e
    subst e
    exact ⟨(pk_charN (by omega)).1, kM_ok h f3 i3 t3⟩
  · rw [show s_frameOfExaminer g x = (1, 0, g) from if_neg hv] at h
    exact u7_isExaminer_f hM.1 hG.1 (zok_f hv (by omega)) (m_there0 hM (fun M3 f3 i3 t3 => br0 ⟨rfl, kM_no h (by decide) f3 i3 t3 _⟩))
def s_isNeutral (g : zG) (x y : Int32) : Nat × Nat × zG := if zok x (g.1 1) ∧ zok y (g.1 0) then (0, (if zneu g.1 x.toNatClampNeg y.toNatClampNeg then 1 else 0), g) else (1, 0, g)
theorem s_isNeutral_G {g : zG} (h : GI g) (x y : Int32) : GI (s_isNeutral g x y).2.2 := by unfold s_isNeutral; split <;> exact h
theorem L_isNeutral {M : sM} {g : zG} (hC : CI M g) (hG : GI g) (x y : Int32) {o : sO} {d : sE} {Q : Int32 → sM → sO → sE → Prop} (h : kC M (s_isNeutral g x y) d Q) : wL_isNeutral x y M o d Q := by
  have hD := rB_D hG.1
  have hE := rB_E hG.1
  unfold wL_isNeutral wX6_isNeutral wX6_requirePair wX6_requireExaminer wX6_requireDoor
  by_cases hv : zok x (g.1 1) ∧ zok y (g.1 0)
  · obtain ⟨x, hx, rfl⟩ := zok_t hv.1 (by omega)
    obtain ⟨k, hk, rfl⟩ := zok_t hv.2 (by omega)
    have hx6 : x < 6 := by omega
    have hk8 : k < 8 := by omega
    rw [show s_isNeutral g (nI x) (nI k) = (0, (if zneu g.1 x k then 1 else 0), g) by unfold s_isNeutral; rw [if_pos hv, cl (by omega), cl (by omega)]] at h
    refine u5_hasExaminer_t hC.1 hG.1 hx (br1 (u5_hasDoor_t hC.1 hG.1 hk (br1 ?_)))
    exact u5_neutral hC.1 hG.1 hx6 hk8 (fun z => ⟨nb1, br1 (kC_t h z hC)⟩) (fun z => ⟨nb0, br0 (kC_f h z hC)⟩)
  · rw [show s_isNeutral g x y = (1, 0, g) from if_neg hv] at h
    rcases zI_idx x (g.1 1) (by omega) with ⟨j, hj, rfl⟩ | ⟨-, z⟩
    · refine u5_hasExaminer_t hC.1 hG.1 hj (br1 (u5_hasDoor_f hC.1 hG.1 (zok_f (fun w => hv ⟨zok_n hj (by omega), w⟩) (by omega)) (br0 (brt rfl (kC_no h (by decide) hC)))))
    · exact u5_hasExaminer_f hC.1 hG.1 z (br0 (brt rfl (kC_no h (by decide) hC)))
theorem m_isNeutral {M : sM} {g : zG} (hM : MI M g) (hG : GI g) (x y : Int32) {Q : Int32 → sM → Prop} (h : kM M (s_isNeutral g x y) Q) : wX7_isNeutral x y M Q := by
  have hD := rB_D hG.1
  have hE := rB_E hG.1
  unfold wX7_isNeutral
  by_cases hv : zok x (g.1 1) ∧ zok y (g.1 0)
  · obtain ⟨x, hx, rfl⟩ := zok_t hv.1 (by omega)
    obtain ⟨k, hk, rfl⟩ := zok_t hv.2 (by omega)
    have hx6 : x < 6 := by omega
    have hk8 : k < 8 := by omega
    rw [show s_isNeutral g (nI x) (nI k) = (0, (if zneu g.1 x k then 1 else 0), g) by unfold s_isNeutral; rw [if_pos hv, cl (by omega), cl (by omega)]] at h
    refine u7_arePair_t hM.1 hG.1 hx hk (m_there1 hM (fun M3 f3 i3 t3 => br1 ?_))
    exact u7_neutral i3.1 hG.1 hx6 hk8 (fun z => br1 (kM_t h z f3 i3 t3)) (fun z => br0 (kM_f h z f3 i3 t3))
  · rw [show s_isNeutral g x y = (1, 0, g) from if_neg hv] at h
    exact u7_arePair_f hM.1 hG.1 (u7_pairdis (by omega) (by omega) hv) (m_there0 hM (fun M3 f3 i3 t3 => br0 (kM_no h (by decide) f3 i3 t3 _)))
def s_mayJudge (g : zG) (x y : Int32) : Nat × Nat × zG := if zok x (g.1 1) ∧ zok y (g.1 0) then (0, (if zjud g.1 x.toNatClampNeg y.toNatClampNeg then 1 else 0), g) else (1, 0, g)
theorem s_mayJudge_G {g : zG} (h : GI g) (x y : Int32) : GI (s_mayJudge g x y).2.2 := by unfold s_mayJudge; split <;> exact h
theorem L_mayJudge {M : sM} {g : zG} (hC : CI M g) (hG : GI g) (x y : Int32) {o : sO} {d : sE} {Q : Int32 → sM → sO → sE → Prop} (h : kC M (s_mayJudge g x y) d Q) : wL_mayJudge x y M o d Q := by
  have hD := rB_D hG.1
  have hE := rB_E hG.1
  unfold wL_mayJudge wX6_mayJudge wX6_requirePair wX6_requireExaminer wX6_requireDoor
  by_cases hv : zok x (g.1 1) ∧ zok y (g.1 0)
  · obtain ⟨x, hx, rfl⟩ := zok_t hv.1 (by omega)
    obtain ⟨k, hk, rfl⟩ := zok_t hv.2 (by omega)
    have hx6 : x < 6 := by omega
    have hk8 : k < 8 := by omega
    rw [show s_mayJudge g (nI x) (nI k) = (0, (if zjud g.1 x k then 1 else 0), g) by unfold s_mayJudge; rw [if_pos hv, cl (by omega), cl (by omega)]] at h
    refine u5_hasExaminer_t hC.1 hG.1 hx (br1 (u5_hasDoor_t hC.1 hG.1 hk (br1 ?_)))
    exact u5_canJudge hC.1 hG.1 hx6 hk8 (fun z => ⟨nb1, br1 (kC_t h z hC)⟩) (fun z => ⟨nb0, br0 (kC_f h z hC)⟩)
  · rw [show s_mayJudge g x y = (1, 0, g) from if_neg hv] at h
    rcases zI_idx x (g.1 1) (by omega) with ⟨j, hj, rfl⟩ | ⟨-, z⟩
    · refine u5_hasExaminer_t hC.1 hG.1 hj (br1 (u5_hasDoor_f hC.1 hG.1 (zok_f (fun w => hv ⟨zok_n hj (by omega), w⟩) (by omega)) (br0 (brt rfl (kC_no h (by decide) hC)))))
    · exact u5_hasExaminer_f hC.1 hG.1 z (br0 (brt rfl (kC_no h (by decide) hC)))
theorem m_mayJudge {M : sM} {g : zG} (hM : MI M g) (hG : GI g) (x y : Int32) {Q : Int32 → sM → Prop} (h : kM M (s_mayJudge g x y) Q) : wX7_mayJudge x y M Q := by
  have hD := rB_D hG.1
  have hE := rB_E hG.1
  unfold wX7_mayJudge
  by_cases hv : zok x (g.1 1) ∧ zok y (g.1 0)
  · obtain ⟨x, hx, rfl⟩ := zok_t hv.1 (by omega)
    obtain ⟨k, hk, rfl⟩ := zok_t hv.2 (by omega)
    have hx6 : x < 6 := by omega
    have hk8 : k < 8 := by omega
    rw [show s_mayJudge g (nI x) (nI k) = (0, (if zjud g.1 x k then 1 else 0), g) by unfold s_mayJudge; rw [if_pos hv, cl (by omega), cl (by omega)]] at h
    refine u7_arePair_t hM.1 hG.1 hx hk (m_there1 hM (fun M3 f3 i3 t3 => br1 ?_))
    exact u7_judges i3.1 hG.1 hx6 hk8 (fun z => br1 (kM_t h z f3 i3 t3)) (fun z => br0 (kM_f h z f3 i3 t3))
  · rw [show s_mayJudge g x y = (1, 0, g) from if_neg hv] at h
    exact u7_arePair_f hM.1 hG.1 (u7_pairdis (by omega) (by omega) hv) (m_there0 hM (fun M3 f3 i3 t3 => br0 (kM_no h (by decide) f3 i3 t3 _)))
def s_isAssigned (g : zG) (x y : Int32) : Nat × Nat × zG := if zok x (g.1 1) ∧ zok y (g.1 0) then (0, (if zp g.1 x.toNatClampNeg y.toNatClampNeg 1 = 1 then 1 else 0), g) else (1, 0, g)
theorem s_isAssigned_G {g : zG} (h : GI g) (x y : Int32) : GI (s_isAssigned g x y).2.2 := by unfold s_isAssigned; split <;> exact h
theorem L_isAssigned {M : sM} {g : zG} (hC : CI M g) (hG : GI g) (x y : Int32) {o : sO} {d : sE} {Q : Int32 → sM → sO → sE → Prop} (h : kC M (s_isAssigned g x y) d Q) : wL_isAssigned x y M o d Q := by
  have hD := rB_D hG.1
  have hE := rB_E hG.1
  unfold wL_isAssigned wX6_isAssigned wX6_requirePair wX6_requireExaminer wX6_requireDoor
  by_cases hv : zok x (g.1 1) ∧ zok y (g.1 0)
  · obtain ⟨x, hx, rfl⟩ := zok_t hv.1 (by omega)
    obtain ⟨k, hk, rfl⟩ := zok_t hv.2 (by omega)
    have hx6 : x < 6 := by omega
    have hk8 : k < 8 := by omega
    rw [show s_isAssigned g (nI x) (nI k) = (0, (if zp g.1 x k 1 = 1 then 1 else 0), g) by unfold s_isAssigned; rw [if_pos hv, cl (by omega), cl (by omega)]] at h
    refine u5_hasExaminer_t hC.1 hG.1 hx (br1 (u5_hasDoor_t hC.1 hG.1 hk (br1 ?_)))
    exact u5_assigned hC.1 hG.1 hx6 hk8 (fun z => ⟨nb1, br1 (kC_t h z hC)⟩) (fun z => ⟨nb0, br0 (kC_f h (by omega) hC)⟩)
  · rw [show s_isAssigned g x y = (1, 0, g) from if_neg hv] at h
    rcases zI_idx x (g.1 1) (by omega) with ⟨j, hj, rfl⟩ | ⟨-, z⟩
    · refine u5_hasExaminer_t hC.1 hG.1 hj (br1 (u5_hasDoor_f hC.1 hG.1 (zok_f (fun w => hv ⟨zok_n hj (by omega), w⟩) (by omega)) (br0 (brt rfl (kC_no h (by decide) hC)))))
    · exact u5_hasExaminer_f hC.1 hG.1 z (br0 (brt rfl (kC_no h (by decide) hC)))
theorem m_isAssigned {M : sM} {g : zG} (hM : MI M g) (hG : GI g) (x y : Int32) {Q : Int32 → sM → Prop} (h : kM M (s_isAssigned g x y) Q) : wX7_isAssigned x y M Q := by
  have hD := rB_D hG.1
  have hE := rB_E hG.1
  unfold wX7_isAssigned
  by_cases hv : zok x (g.1 1) ∧ zok y (g.1 0)
  · obtain ⟨x, hx, rfl⟩ := zok_t hv.1 (by omega)
    obtain ⟨k, hk, rfl⟩ := zok_t hv.2 (by omega)
    have hx6 : x < 6 := by omega
    have hk8 : k < 8 := by omega
    rw [show s_isAssigned g (nI x) (nI k) = (0, (if zp g.1 x k 1 = 1 then 1 else 0), g) by unfold s_isAssigned; rw [if_pos hv, cl (by omega), cl (by omega)]] at h
    refine u7_arePair_t hM.1 hG.1 hx hk (m_there1 hM (fun M3 f3 i3 t3 => br1 ?_))
    exact u7_assigned i3.1 hG.1 hx6 hk8 (fun z => br1 (kM_t h z f3 i3 t3)) (fun z => br0 (kM_f h (by omega) f3 i3 t3))
  · rw [show s_isAssigned g x y = (1, 0, g) from if_neg hv] at h
    exact u7_arePair_f hM.1 hG.1 (u7_pairdis (by omega) (by omega) hv) (m_there0 hM (fun M3 f3 i3 t3 => br0 (kM_no h (by decide) f3 i3 t3 _)))
def s_result (g : zG) (x : Int32) : Nat × Nat × zG := if zok x (g.1 0) then (if zres g.1 x.toNatClampNeg = 0 then (2, 0, g) else (0, zres g.1 x.toNatClampNeg - 1, g)) else (1, 0, g)
theorem s_result_G {g : zG} (h : GI g) (x : Int32) : GI (s_result g x).2.2 := by
  unfold s_result
  split
  · split <;> exact h
  · exact h
theorem L_result {M : sM} {g : zG} (hC : CI M g) (hG : GI g) (x : Int32) {o : sO} {d : sE} {Q : Int32 → sM → sO → sE → Prop} (h : kC M (s_result g x) d Q) : wL_result x M o d Q := by
  have hD := rB_D hG.1
  unfold wL_result wX6_result wX6_requireDoor wX6_requireThere
  by_cases hv : zok x (g.1 0)
  · obtain ⟨k, hk, rfl⟩ := zok_t hv (by omega)
    have hk8 : k < 8 := by omega
    rw [show s_result g (nI k) = (if zres g.1 k = 0 then (2, 0, g) else (0, zres g.1 k - 1, g)) by unfold s_result; rw [if_pos hv, cl (by omega)]] at h
    have b := zres_le hG.1 hk8
    refine u5_hasDoor_t hC.1 hG.1 hk (br1 (u5_median hC.1 hG.1 hk8 (bri (nP_n1 (by omega)) (fun z => ?_) (fun z => ?_))))
    · rw [if_pos z] at h
      exact brf (by simp) (brt rfl (kC_no h (by decide) hC))
    · rw [if_neg z] at h
      rw [nP_of (by omega)]
      exact kC_ok h hC (by omega)
  · rw [show s_result g x = (1, 0, g) from if_neg hv] at h
    exact u5_hasDoor_f hC.1 hG.1 (zok_f hv (by omega)) (br0 (brt rfl (kC_no h (by decide) hC)))
theorem m_result {M : sM} {g : zG} (hM : MI M g) (hG : GI g) (x : Int32) {Q : Int32 → sM → Prop} (h : kM M (s_result g x) Q) : wX7_result x M Q := by
  have hD := rB_D hG.1
  have fin : ∀ (r : Int32) (c : Nat), c < 3 → (∀ M3, fM M M3 → MI M3 g → M3 33 6 = nI c → ∀ r2, (c = 0 → r2 = r) → Q r2 M3) → jX7_result_40 M r Q (nI c) := by
    intro r c hc h
    unfold jX7_result_40
    intro M3 e3
    subst e3
    rw [ms_e]
    refine bri (nI_leI (b := 0) (by omega) (by decide)) (fun z => h _ (fM_6 M _) (MI_6 hM _) (ms_e _ _ _ _) _ (fun _ => rfl)) (fun z => h _ (fM_6 M _) (MI_6 hM _) (ms_e _ _ _ _) _ (fun y => absurd y (by omega)))
  unfold wX7_result
  by_cases hv : zok x (g.1 0)
  · obtain ⟨k, hk, rfl⟩ := zok_t hv (by omega)
    have hk8 : k < 8 := by omega
    rw [show s_result g (nI k) = (if zres g.1 k = 0 then (2, 0, g) else (0, zres g.1 k - 1, g)) by unfold s_result; rw [if_pos hv, cl (by omega)]] at h
    have b := zres_le hG.1 hk8
    refine u7_isDoor_t hM.1 hG.1 hk (br1 (u7_resultOf hM.1 hG.1 hk8 ?_))
    unfold jX7_result_17
    refine u7_isDoor_t hM.1 hG.1 hk (br1 ?_)
    by_cases z : zres g.1 k = 0
    · rw [if_pos z] at h
      rw [z]
      exact brf (by decide) (fin _ 2 (by decide) (fun M3 f i t r2 _ => kM_no h (by decide) f i t r2))
    · rw [if_neg z] at h
      rw [nP_of (by omega)]
      exact brt (nI_pos' (by omega)) (fin _ 0 (by decide) (fun M3 f i t r2 e => h M3 r2 f i t e))
  · rw [show s_result g x = (1, 0, g) from if_neg hv] at h
    refine u7_isDoor_f hM.1 hG.1 (zok_f hv (by omega)) (br0 ?_)
    unfold jX7_result_17
    exact u7_isDoor_f hM.1 hG.1 (zok_f hv (by omega)) (br0 (fin _ 1 (by decide) (fun M3 f i t r2 _ => kM_no h (by decide) f i t r2)))
def s_gradeBy (g : zG) (x y : Int32) : Nat × Nat × zG := if zok x (g.1 1) ∧ zok y (g.1 0) then (if zp g.1 x.toNatClampNeg y.toNatClampNeg 2 = 0 then (2, 0, g) else (0, zp g.1 x.toNatClampNeg y.toNatClampNeg 2 - 1, g)) else (1, 0, g)
theorem s_gradeBy_G {g : zG} (h : GI g) (x y : Int32) : GI (s_gradeBy g x y).2.2 := by
  unfold s_gradeBy
  split
  · split <;> exact h
  · exact h
theorem L_gradeBy {M : sM} {g : zG} (hC : CI M g) (hG : GI g) (x y : Int32) {o : sO} {d : sE} {Q : Int32 → sM → sO → sE → Prop} (h : kC M (s_gradeBy g x y) d Q) : wL_gradeBy x y M o d Q := by
  have hD := rB_D hG.1
  have hE := rB_E hG.1
  unfold wL_gradeBy wX6_gradeBy wX6_requirePair wX6_requireExaminer wX6_requireDoor wX6_requireThere
  by_cases hv : zok x (g.1 1) ∧ zok y (g.1 0)
  · obtain ⟨x, hx, rfl⟩ := zok_t hv.1 (by omega)
    obtain ⟨k, hk, rfl⟩ := zok_t hv.2 (by omega)
    have hx6 : x < 6 := by omega
    have hk8 : k < 8 := by omega
    rw [show s_gradeBy g (nI x) (nI k) = (if zp g.1 x k 2 = 0 then (2, 0, g) else (0, zp g.1 x k 2 - 1, g)) by unfold s_gradeBy; rw [if_pos hv, cl (by omega), cl (by omega)]] at h
    have b := hG.1.2.2.2.1 x k hx6 hk8
    refine u5_hasExaminer_t hC.1 hG.1 hx (br1 (u5_hasDoor_t hC.1 hG.1 hk (br1 ⟨vin hx6 (by decide), vin hk8 (by decide), ?_⟩)))
    rw [cl (by omega), cl (by omega), rS_g hC.1 hx6 hk8]
    refine bri (nP_n1 (by omega)) (fun z => ?_) (fun z => ?_)
    · rw [if_pos z] at h
      exact brf (by simp) (brt rfl (kC_no h (by decide) hC))
    · rw [if_neg z] at h
      rw [nP_of (by omega)]
      exact kC_ok h hC (by omega)
  · rw [show s_gradeBy g x y = (1, 0, g) from if_neg hv] at h
    rcases zI_idx x (g.1 1) (by omega) with ⟨j, hj, rfl⟩ | ⟨-, z⟩
    · refine u5_hasExaminer_t hC.1 hG.1 hj (br1 (u5_hasDoor_f hC.1 hG.1 (zok_f (fun w => hv ⟨zok_n hj (by omega), w⟩) (by omega)) (br0 (brt rfl (kC_no h (by decide) hC)))))
    · exact u5_hasExaminer_f hC.1 hG.1 z (br0 (brt rfl (kC_no h (by decide) hC)))
theorem m_gradeBy {M : sM} {g : zG} (hM : MI M g) (hG : GI g) (x y : Int32) {Q : Int32 → sM → Prop} (h : kM M (s_gradeBy g x y) Q) : wX7_gradeBy x y M Q := by
  have hD := rB_D hG.1
  have hE := rB_E hG.1
  have fin : ∀ (r : Int32) (c : Nat), c < 3 → (∀ M3, fM M M3 → MI M3 g → M3 33 6 = nI c → ∀ r2, (c = 0 → r2 = r) → Q r2 M3) → jX7_gradeBy_46 M r Q (nI c) := by
    intro r c hc h
    unfold jX7_gradeBy_46
    intro M3 e3
    subst e3
    rw [ms_e]
    refine bri (nI_leI (b := 0) (by omega) (by decide)) (fun z => h _ (fM_6 M _) (MI_6 hM _) (ms_e _ _ _ _) _ (fun _ => rfl)) (fun z => h _ (fM_6 M _) (MI_6 hM _) (ms_e _ _ _ _) _ (fun y => absurd y (by omega)))
  unfold wX7_gradeBy
  by_cases hv : zok x (g.1 1) ∧ zok y (g.1 0)
  · obtain ⟨x, hx, rfl⟩ := zok_t hv.1 (by omega)
    obtain ⟨k, hk, rfl⟩ := zok_t hv.2 (by omega)
    have hx6 : x < 6 := by omega
    have hk8 : k < 8 := by omega
    rw [show s_gradeBy g (nI x) (nI k) = (if zp g.1 x k 2 = 0 then (2, 0, g) else (0, zp g.1 x k 2 - 1, g)) by unfold s_gradeBy; rw [if_pos hv, cl (by omega), cl (by omega)]] at h
    have b := hG.1.2.2.2.1 x k hx6 hk8
    refine u7_arePair_t hM.1 hG.1 hx hk (br1 (u7_pair hM.1 hx6 hk8 (w := 2) (by decide) ?_))
    unfold jX7_gradeBy_22
    refine u7_arePair_t hM.1 hG.1 hx hk (br1 ?_)
    rw [show nI (zp g.1 x k 2) - (1 : Int32) = nP (zp g.1 x k 2) from rfl]
    by_cases z : zp g.1 x k 2 = 0
    · rw [if_pos z] at h
      rw [z]
      exact brf (by decide) (fin _ 2 (by decide) (fun M3 f i t r2 _ => kM_no h (by decide) f i t r2))
    · rw [if_neg z] at h
      rw [nP_of (by omega)]
      exact brt (nI_pos' (by omega)) (fin _ 0 (by decide) (fun M3 f i t r2 e => h M3 r2 f i t e))
  · rw [show s_gradeBy g x y = (1, 0, g) from if_neg hv] at h
    refine u7_arePair_f hM.1 hG.1 (u7_pairdis (by omega) (by omega) hv) (br0 ?_)
    unfold jX7_gradeBy_22
    exact u7_arePair_f hM.1 hG.1 (u7_pairdis (by omega) (by omega) hv) (br0 (fin _ 1 (by decide) (fun M3 f i t r2 _ => kM_no h (by decide) f i t r2)))
abbrev zen (n : Int32) (N : Nat) : Prop := 1 ≤ n.toInt ∧ n.toInt ≤ (N : Int)
theorem zen_t {x : Int32} {N : Nat} (h : zen x N) (hN : N < 2 ^ 31 - 1) : ∃ n, n < N ∧ x = nI (n + 1) := by
  refine ⟨x.toInt.toNat - 1, by omega, ?_⟩
  rw [zI_eq, nI_toInt (by omega)]; omega
theorem zen_f {x : Int32} {N : Nat} (h : ¬ zen x N) (hN : N < 2 ^ 31 - 1) : ∀ n, n < N → x ≠ nI (n + 1) := fun n hn e => by
  subst e
  apply h
  show 1 ≤ (nI (n + 1)).toInt ∧ (nI (n + 1)).toInt ≤ (N : Int)
  rw [nI_toInt (by omega)]; omega
def s_doorOf (g : zG) (x : Int32) : Nat × Nat × zG := if zen x (g.1 3) then (0, ze g.1 (x.toNatClampNeg - 1) 0, g) else (1, 0, g)
theorem s_doorOf_G {g : zG} (h : GI g) (x : Int32) : GI (s_doorOf g x).2.2 := by unfold s_doorOf; split <;> exact h
theorem L_doorOf {M : sM} {g : zG} (hC : CI M g) (hG : GI g) (x : Int32) {o : sO} {d : sE} {Q : Int32 → sM → sO → sE → Prop} (h : kC M (s_doorOf g x) d Q) : wL_doorOf x M o d Q := by
  have hN := rB_N hG.1
  unfold wL_doorOf wX6_doorOf wX6_requireEntry
  by_cases hv : zen x (g.1 3)
  · obtain ⟨n, hn, rfl⟩ := zen_t hv (by omega)
    rw [show s_doorOf g (nI (n + 1)) = (0, ze g.1 n 0, g) by unfold s_doorOf; rw [if_pos hv, cl (by omega), Nat.add_sub_cancel]] at h
    have b := hG.1.2.2.2.2.1 n (by omega)
    refine u5_hasEntry_t hC.1 hG.1 hn (br1 ?_)
    rw [show nI (n + 1) - (1 : Int32) = nI n from nI_pred n, cl (by omega), rS_en hC.1 (by omega)]
    exact ⟨vin (by omega) (by decide), kC_ok h hC (by omega)⟩
  · rw [show s_doorOf g x = (1, 0, g) from if_neg hv] at h
    exact u5_hasEntry_f hC.1 hG.1 (zen_f hv (by omega)) (br0 (brt rfl (kC_no h (by decide) hC)))
theorem m_doorOf {M : sM} {g : zG} (hM : MI M g) (hG : GI g) (x : Int32) {Q : Int32 → sM → Prop} (h : kM M (s_doorOf g x) Q) : wX7_doorOf x M Q := by
  have hN := rB_N hG.1
  unfold wX7_doorOf
  by_cases hv : zen x (g.1 3)
  · obtain ⟨n, hn, rfl⟩ := zen_t hv (by omega)
    rw [show s_doorOf g (nI (n + 1)) = (0, ze g.1 n 0, g) by unfold s_doorOf; rw [if_pos hv, cl (by omega), Nat.add_sub_cancel]] at h
    refine u7_isEntry_t hM.1 hG.1 hn (m_there1 hM (fun M3 f3 i3 t3 => br1 ?_))
    have e' : nI (212 + 2 * (n + 1)) - (2 : Int32) = nI (212 + 2 * n) := by
      rw [show (2 : Int32) = nI 2 from rfl, pk_sub (by omega)]; exact congrArg nI (by omega)
    rw [ix_e, e', cl (by omega), i3.1 _ (by omega)]
    exact ⟨vin (by omega) (by decide), kM_ok h f3 i3 t3⟩
  · rw [show s_doorOf g x = (1, 0, g) from if_neg hv] at h
    exact u7_isEntry_f hM.1 hG.1 (zen_f hv (by omega)) (m_there0 hM (fun M3 f3 i3 t3 => br0 (kM_no h (by decide) f3 i3 t3 _)))
def s_isRevoked (g : zG) (x : Int32) : Nat × Nat × zG := if zen x (g.1 3) then (0, (if ze g.1 (x.toNatClampNeg - 1) 1 = 1 then 1 else 0), g) else (1, 0, g)
theorem s_isRevoked_G {g : zG} (h : GI g) (x : Int32) : GI (s_isRevoked g x).2.2 := by unfold s_isRevoked; split <;> exact h
theorem L_isRevoked {M : sM} {g : zG} (hC : CI M g) (hG : GI g) (x : Int32) {o : sO} {d : sE} {Q : Int32 → sM → sO → sE → Prop} (h : kC M (s_isRevoked g x) d Q) : wL_isRevoked x M o d Q := by
  have hN := rB_N hG.1
  unfold wL_isRevoked wX6_isRevoked wX6_requireEntry
  by_cases hv : zen x (g.1 3)
  · obtain ⟨n, hn, rfl⟩ := zen_t hv (by omega)
    rw [show s_isRevoked g (nI (n + 1)) = (0, (if ze g.1 n 1 = 1 then 1 else 0), g) by unfold s_isRevoked; rw [if_pos hv, cl (by omega), Nat.add_sub_cancel]] at h
    have hl := zm_lt (zm_e1 hG.1)
    have e := zrv hG.1 (n := n) (by omega)
    refine u5_hasEntry_t hC.1 hG.1 hn (br1 ?_)
    rw [rS_rv hC.1]
    refine u6_contains (by omega) (by omega) (fun z => ⟨nb1, br1 (kC_t h ?_ hC)⟩) (fun z => ⟨nb0, br0 (kC_f h ?_ hC)⟩)
    · rw [e] at z; exact z
    · rw [e] at z; exact z
  · rw [show s_isRevoked g x = (1, 0, g) from if_neg hv] at h
    exact u5_hasEntry_f hC.1 hG.1 (zen_f hv (by omega)) (br0 (brt rfl (kC_no h (by decide) hC)))
theorem m_isRevoked {M : sM} {g : zG} (hM : MI M g) (hG : GI g) (x : Int32) {Q : Int32 → sM → Prop} (h : kM M (s_isRevoked g x) Q) : wX7_isRevoked x M Q := by
  have hN := rB_N hG.1
  unfold wX7_isRevoked
  by_cases hv : zen x (g.1 3)
  · obtain ⟨n, hn, rfl⟩ := zen_t hv (by omega)
    rw [show s_isRevoked g (nI (n + 1)) = (0, (if ze g.1 n 1 = 1 then 1 else 0), g) by unfold s_isRevoked; rw [if_pos hv, cl (by omega), Nat.add_sub_cancel]] at h
    exact u7_isEntry_t hM.1 hG.1 hn (m_there1 hM (fun M3 f3 i3 t3 => br1 (u7_revoked i3.1 hG.1 (by omega) (fun z => br1 (kM_t h z f3 i3 t3)) (fun z => br0 (kM_f h (by omega) f3 i3 t3)))))
  · rw [show s_isRevoked g x = (1, 0, g) from if_neg hv] at h
    exact u7_isEntry_f hM.1 hG.1 (zen_f hv (by omega)) (m_there0 hM (fun M3 f3 i3 t3 => br0 (kM_no h (by decide) f3 i3 t3 _)))
theorem L_doorCount {M : sM} {g : zG} (hC : CI M g) {Q : Int32 → Prop} (h : Q (nI (g.1 0))) : wX6_doorCount M Q := by
  unfold wX6_doorCount
  rw [rS_D hC.1]; exact h
theorem m_doorCount {M : sM} {g : zG} (hM : MI M g) {Q : Int32 → sM → Prop} (h : kM M (0, g.1 0, g) Q) : wX7_doorCount M Q := by
  unfold wX7_doorCount
  intro M1 e1
  subst e1
  have i3 := MI_6 hM (0 : Int32)
  rw [rM_0 i3.1]
  exact kM_ok h (fM_6 M _) i3 (ms_e _ _ _ _)
theorem L_examinerCount {M : sM} {g : zG} (hC : CI M g) {Q : Int32 → Prop} (h : Q (nI (g.1 1))) : wX6_examinerCount M Q := by
  unfold wX6_examinerCount
  rw [rS_E hC.1]; exact h
theorem m_examinerCount {M : sM} {g : zG} (hM : MI M g) {Q : Int32 → sM → Prop} (h : kM M (0, g.1 1, g) Q) : wX7_examinerCount M Q := by
  unfold wX7_examinerCount
  intro M1 e1
  subst e1
  have i3 := MI_6 hM (0 : Int32)
  rw [rM_1 i3.1]
  exact kM_ok h (fM_6 M _) i3 (ms_e _ _ _ _)
theorem L_threshold {M : sM} {g : zG} (hC : CI M g) {Q : Int32 → Prop} (h : Q (nI (g.1 2))) : wX6_threshold M Q := by
  unfold wX6_threshold
  rw [rS_T hC.1]; exact h
theorem m_threshold {M : sM} {g : zG} (hM : MI M g) {Q : Int32 → sM → Prop} (h : kM M (0, g.1 2, g) Q) : wX7_threshold M Q := by
  unfold wX7_threshold
  intro M1 e1
  subst e1
  have i3 := MI_6 hM (0 : Int32)
  rw [rM_2 i3.1]
  exact kM_ok h (fM_6 M _) i3 (ms_e _ _ _ _)
theorem L_entryCount {M : sM} {g : zG} (hC : CI M g) {Q : Int32 → Prop} (h : Q (nI (g.1 3))) : wX6_entryCount M Q := by
  unfold wX6_entryCount
  rw [rS_N hC.1]; exact h
theorem m_entryCount {M : sM} {g : zG} (hM : MI M g) {Q : Int32 → sM → Prop} (h : kM M (0, g.1 3, g) Q) : wX7_entryCount M Q := by
  unfold wX7_entryCount
  intro M1 e1
  subst e1
  have i3 := MI_6 hM (0 : Int32)
  rw [rM_3 i3.1]
  exact kM_ok h (fM_6 M _) i3 (ms_e _ _ _ _)
