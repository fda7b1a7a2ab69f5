/-! The changing calls but plans and appeals: what each does to a row, in the class and in the reference. -/
def zO : Type := Nat × Nat × (Nat → Nat)
abbrev zok (x : Int32) (n : Nat) : Prop := 0 ≤ x.toInt ∧ x.toInt < (n : Int)
theorem zok_t {x : Int32} {n : Nat} (h : zok x n) (hn : n < 2 ^ 31) : ∃ k, k < n ∧ x = nI k := by
  refine ⟨x.toInt.toNat, by omega, ?_⟩
  rw [zI_eq, nI_toInt (by omega)]; omega
theorem zok_f {x : Int32} {n : Nat} (h : ¬ zok x n) (hn : n < 2 ^ 31) : ∀ k, k < n → x ≠ nI k := fun k hk e => by
  subst e
  apply h
  show 0 ≤ (nI k).toInt ∧ (nI k).toInt < (n : Int)
  rw [nI_toInt (by omega)]; omega
theorem zok_n {k n : Nat} (h : k < n) (hn : n < 2 ^ 31) : zok (nI k) n := by
  show 0 ≤ (nI k).toInt ∧ _
  rw [nI_toInt (by omega)]; omega
theorem zI_nat {x : Int32} (h : 0 ≤ x.toInt) : ∃ n : Nat, n < 2 ^ 31 ∧ x = nI n := by
  have h2 := Int32.toInt_lt x
  refine ⟨x.toInt.toNat, by omega, ?_⟩
  rw [zI_eq, nI_toInt (by omega)]; omega
/-- the class's answer: the value, or the refusal -/
def zans (r1 r2 r3 : Int32) (o : Nat × Nat × (Nat → Nat)) : Int32 := if o.1 = 0 then nI o.2.1 else if o.1 = 1 then r1 else if o.1 = 2 then r2 else r3
theorem nar_c {q : Nat} (h : q < 65536) : vp_nar .char (nI q) = nI q := by
  unfold vp_nar
  rw [(pk_charN h).1]
def oDoor (a : Nat → Nat) (f t : Int32) : Nat × Nat × (Nat → Nat) := if 97 ≤ f.toInt ∧ f.toInt ≤ 102 ∧ 0 ≤ t.toInt ∧ t.toInt ≤ 5 then (if a 0 = 8 then (2, 0, a) else (0, a 0, zu (zu (zu a (4 + 5 * a 0 + 0) f.toNatClampNeg) (4 + 5 * a 0 + 1) t.toNatClampNeg) 0 (a 0 + 1))) else (1, 0, a)
def oExam (a : Nat → Nat) (f s c l : Int32) : Nat × Nat × (Nat → Nat) := if 97 ≤ f.toInt ∧ f.toInt ≤ 102 ∧ 1 ≤ s.toInt ∧ s.toInt ≤ 63 ∧ 1 ≤ c.toInt ∧ c.toInt ≤ 4 ∧ 0 ≤ l.toInt ∧ l.toInt ≤ 9 then (if a 1 = 6 then (2, 0, a) else (0, a 1, zu (zu (zu (zu (zu a (44 + 4 * a 1 + 0) f.toNatClampNeg) (44 + 4 * a 1 + 1) s.toNatClampNeg) (44 + 4 * a 1 + 2) c.toNatClampNeg) (44 + 4 * a 1 + 3) l.toNatClampNeg) 1 (a 1 + 1))) else (1, 0, a)
def oConfN (a : Nat → Nat) (x k : Nat) : Nat × Nat × (Nat → Nat) := if zp a x k 0 = 1 ∨ zp a x k 1 = 1 then (2, 0, a) else (0, zs (fun y => if zneu (zu a (68 + 3 * (8 * x + k) + 0) 1) y k then 1 else 0) (a 1), zu a (68 + 3 * (8 * x + k) + 0) 1)
def oConf (a : Nat → Nat) (x k : Int32) : Nat × Nat × (Nat → Nat) := if zok x (a 1) ∧ zok k (a 0) then oConfN a x.toNatClampNeg k.toNatClampNeg else (1, 0, a)
def oAssN (a : Nat → Nat) (x k : Nat) : Nat × Nat × (Nat → Nat) := if zp a x k 1 = 1 ∨ 3 ≤ zcnt a k ∨ zx a x 2 ≤ zload a x then (2, 0, a) else if ¬ zjud a x k then (3, 0, a) else (0, zcnt (zu a (68 + 3 * (8 * x + k) + 1) 1) k, zu a (68 + 3 * (8 * x + k) + 1) 1)
def oAss (a : Nat → Nat) (x k : Int32) : Nat × Nat × (Nat → Nat) := if zok x (a 1) ∧ zok k (a 0) then oAssN a x.toNatClampNeg k.toNatClampNeg else (1, 0, a)
def oGradN (a : Nat → Nat) (x k g : Nat) : Nat × Nat × (Nat → Nat) := if zp a x k 1 = 0 ∨ 0 < zp a x k 2 then (3, 0, a) else (0, zgc (zu a (68 + 3 * (8 * x + k) + 2) (g + 1)) k, zu a (68 + 3 * (8 * x + k) + 2) (g + 1))
def oGrad (a : Nat → Nat) (x k g : Int32) : Nat × Nat × (Nat → Nat) := if zok x (a 1) ∧ zok k (a 0) then (if zok g 21 then oGradN a x.toNatClampNeg k.toNatClampNeg g.toNatClampNeg else (2, 0, a)) else (1, 0, a)
def oThr (a : Nat → Nat) (t : Int32) : Nat × Nat × (Nat → Nat) := if zok t 21 then (0, a 2, zu a 2 t.toNatClampNeg) else (1, 0, a)
def oAwN (a : Nat → Nat) (k : Nat) : Nat × Nat × (Nat → Nat) := if 0 < zd a k 4 then (2, 0, a) else if ¬ zent a k then (3, 0, a) else (0, a 3 + 1, zu (zu (zu (zu a (212 + 2 * a 3 + 0) k) (212 + 2 * a 3 + 1) 0) 3 (a 3 + 1)) (4 + 5 * k + 4) (a 3 + 1))
def oAw (a : Nat → Nat) (k : Int32) : Nat × Nat × (Nat → Nat) := if zok k (a 0) then oAwN a k.toNatClampNeg else (1, 0, a)
def oRevN (a : Nat → Nat) (n : Nat) : Nat × Nat × (Nat → Nat) := if ze a n 1 = 1 then (2, 0, a) else (0, ze a n 0, zu a (212 + 2 * n + 1) 1)
def oRev (a : Nat → Nat) (n : Int32) : Nat × Nat × (Nat → Nat) := if 1 ≤ n.toInt ∧ n.toInt ≤ (a 3 : Int) then oRevN a (n.toNatClampNeg - 1) else (1, 0, a)
theorem lit97 : ((97 : Int32)).toInt = 97 := by decide
theorem zi5 : ((5 : Int32)).toInt = 5 := by decide
theorem zi6 : ((6 : Int32)).toInt = 6 := by decide
theorem zi63 : ((63 : Int32)).toInt = 63 := by decide
theorem zi64 : ((64 : Int32)).toInt = 64 := by decide
theorem zi4 : ((4 : Int32)).toInt = 4 := by decide
theorem zi9 : ((9 : Int32)).toInt = 9 := by decide
theorem zi20 : ((20 : Int32)).toInt = 20 := by decide
section T5
variable {M : sM} {i : Nat} {a : Nat → Nat}
theorem u5_tryNewDoor (hS : rS M i a) (hb : rB a) (f t : Int32) {Q : Int32 → sM → Prop} (h : ∀ o M', oDoor a f t = o → fr (sw_st i) (sw_st i + 17) M M' → rS M' i o.2.2 → Q (zans (-2) (-3) 0 o) M') : wX5_tryNewDoor i f t M Q := by
  have hD := rB_D hb
  unfold wX5_tryNewDoor
  by_cases hv : 97 ≤ f.toInt ∧ f.toInt ≤ 102 ∧ 0 ≤ t.toInt ∧ t.toInt ≤ 5
  · have E : oDoor a f t = _ := if_pos hv
    refine u6_isFrame (fun f' h1 h2 e => br1 ?_) (fun z => absurd ?_ (z f.toInt.toNat (by omega) (by omega)))
    · obtain ⟨t', ht, rfl⟩ := zI_nat hv.2.2.1
      subst e
      rw [nI_toInt ht, cl ht, cl (by omega)] at *
      refine brf (nI_pos ht) ?_
      refine brt (nI_lt (a := t') (b := 6) (by omega) (by decide)) ?_
      rw [rS_D hS]
      refine bri (nI_ltI (a := a 0) (b := 8) (by omega) (by decide)) (fun z => ?_) (fun z => ?_)
      · refine ⟨vin (by omega) (by decide), ?_⟩
        intro M7 e7
        rw [nar_c (by omega), cl (by omega)] at e7
        have S7 := rU_df hS (k := a 0) (by omega) (v := f')
        rw [← e7] at S7
        rw [rS_D S7, zu_f _ _ (by omega), cl (by omega)]
        refine ⟨vin (by omega) (by decide), ?_⟩
        intro M9 e9
        have S9 := rU_dt S7 (k := a 0) (by omega) (v := t')
        rw [← e9] at S9
        intro M10 e10
        rw [rS_D S9, zu_f _ _ (by omega), zu_f _ _ (by omega), show nI (a 0) + 1 = nI (a 0 + 1) from (nI_succ _).symm] at e10
        have S10 := rU_D S9 (v := a 0 + 1)
        rw [← e10] at S10
        rw [rS_D S10, zu_t]
        have q := h _ M10 E (fr_t (fr_t (e7 ▸ fr_s M _ _ (by omega)) (e9 ▸ fr_s M7 _ _ (by omega))) (e10 ▸ fr_s M9 _ _ (by omega)))
        rw [if_neg (by omega)] at q
        rw [show nI (a 0 + 1) - 1 = nI (a 0) from nI_pred _]
        exact q S10
      · refine h (2, 0, a) M ?_ (fr_r _ _ _) hS
        rw [E, if_pos (by omega)]
    · rw [zI_eq, nI_toInt (by omega)]; omega
  · have q : Q (-2) M := h (1, 0, a) M (if_neg hv) (fr_r _ _ _) hS
    refine u6_isFrame (fun f' h1 h2 e => br1 ?_) (fun z => br0 q)
    refine ⟨fun _ => q, fun z => ⟨fun z2 => ?_, fun _ => q⟩⟩
    rw [Int32.lt_iff_toInt_lt] at z z2
    rw [zi0] at z
    rw [zi6] at z2
    subst e
    rw [nI_toInt (by omega)] at hv
    omega
theorem u5_tryNewExaminer (hS : rS M i a) (hb : rB a) (f s c l : Int32) {Q : Int32 → sM → Prop} (h : ∀ o M', oExam a f s c l = o → fr (sw_st i) (sw_st i + 17) M M' → rS M' i o.2.2 → Q (zans (-2) (-3) 0 o) M') : wX5_tryNewExaminer i f s c l M Q := by
  have hE := rB_E hb
  unfold wX5_tryNewExaminer
  by_cases hv : 97 ≤ f.toInt ∧ f.toInt ≤ 102 ∧ 1 ≤ s.toInt ∧ s.toInt ≤ 63 ∧ 1 ≤ c.toInt ∧ c.toInt ≤ 4 ∧ 0 ≤ l.toInt ∧ l.toInt ≤ 9
  · have E : oExam a f s c l = _ := if_pos hv
    refine u6_isFrame (fun f' h1 h2 e => br1 ?_) (fun z => absurd ?_ (z f.toInt.toNat (by omega) (by omega)))
    · obtain ⟨s', hs, rfl⟩ := zI_nat (x := s) (by omega)
      obtain ⟨c', hc, rfl⟩ := zI_nat (x := c) (by omega)
      obtain ⟨l', hl, rfl⟩ := zI_nat (x := l) (by omega)
      subst e
      rw [nI_toInt hs, nI_toInt hc, nI_toInt hl, nI_toInt (n := f') (by omega)] at hv
      rw [cl hs, cl hc, cl hl, cl (n := f') (by omega)] at E
      refine brf (nI_nlt (a := s') (b := 1) (by omega) (by omega)) (brf (nI_ge (b := 64) (by omega) (by decide)) (brf (nI_nlt (a := c') (b := 1) (by omega) (by omega)) (brf (nI_nlt (a := 4) (by omega) (by decide)) (brf (nI_pos hl) (brt (nI_le (b := 9) (by omega) (by decide)) ?_)))))
      rw [rS_E hS]
      refine bri (nI_ltI (a := a 1) (b := 6) (by omega) (by decide)) (fun z => ?_) (fun z => ?_)
      · refine ⟨vin (by omega) (by decide), ?_⟩
        intro M1 e1
        rw [nar_c (by omega), cl (by omega)] at e1
        have S1 := rU_xf hS (x := a 1) (by omega) (v := f')
        rw [← e1] at S1
        rw [rS_E S1, zu_f _ _ (by omega), cl (by omega)]
        refine ⟨vin (by omega) (by decide), ?_⟩
        intro M2 e2
        have S2 := rU_xs S1 (x := a 1) (by omega) (v := s')
        rw [← e2] at S2
        rw [rS_E S2, zu_f _ _ (by omega), zu_f _ _ (by omega), cl (by omega)]
        refine ⟨vin (by omega) (by decide), ?_⟩
        intro M3 e3
        have S3 := rU_xc S2 (x := a 1) (by omega) (v := c')
        rw [← e3] at S3
        rw [rS_E S3, zu_f _ _ (by omega), zu_f _ _ (by omega), zu_f _ _ (by omega), cl (by omega)]
        refine ⟨vin (by omega) (by decide), ?_⟩
        intro M4 e4
        have S4 := rU_xl S3 (x := a 1) (by omega) (v := l')
        rw [← e4] at S4
        intro M5 e5
        rw [rS_E S4, zu_f _ _ (by omega), zu_f _ _ (by omega), zu_f _ _ (by omega), zu_f _ _ (by omega), show nI (a 1) + 1 = nI (a 1 + 1) from (nI_succ _).symm] at e5
        have S5 := rU_E S4 (v := a 1 + 1)
        rw [← e5] at S5
        rw [rS_E S5, zu_t]
        have q := h _ M5 E (fr_t (fr_t (fr_t (fr_t (e1 ▸ fr_s M _ _ (by omega)) (e2 ▸ fr_s M1 _ _ (by omega))) (e3 ▸ fr_s M2 _ _ (by omega))) (e4 ▸ fr_s M3 _ _ (by omega))) (e5 ▸ fr_s M4 _ _ (by omega)))
        rw [if_neg (by omega)] at q
        rw [show nI (a 1 + 1) - 1 = nI (a 1) from nI_pred _]
        exact q S5
      · refine h (2, 0, a) M ?_ (fr_r _ _ _) hS
        rw [E, if_pos (by omega)]
    · rw [zI_eq, nI_toInt (by omega)]; omega
  · have q : Q (-2) M := h (1, 0, a) M (if_neg hv) (fr_r _ _ _) hS
    refine u6_isFrame (fun f' h1 h2 e => br1 ?_) (fun z => br0 q)
    refine ⟨fun _ => q, fun z1 => ⟨fun _ => q, fun z2 => ⟨fun _ => q, fun z3 => ⟨fun _ => q, fun z4 => ⟨fun _ => q, fun z5 => ⟨fun z6 => ?_, fun _ => q⟩⟩⟩⟩⟩⟩
    rw [Int32.lt_iff_toInt_lt] at z1 z3 z4 z5
    rw [Int32.le_iff_toInt_le] at z2 z6
    rw [zi1] at z1 z3
    rw [zi64] at z2
    rw [zi4] at z4
    rw [zi0] at z5
    rw [zi9] at z6
    subst e
    rw [nI_toInt (by omega)] at hv
    omega
theorem u5_tryConflict (hS : rS M i a) (hb : rB a) (x k : Int32) {Q : Int32 → sM → Prop} (h : ∀ o M', oConf a x k = o → fr (sw_st i) (sw_st i + 17) M M' → rS M' i o.2.2 → Q (zans (-1) (-3) 0 o) M') : wX5_tryConflict i x k M Q := by
  have hE := rB_E hb
  have hD := rB_D hb
  unfold wX5_tryConflict
  by_cases hv : zok x (a 1) ∧ zok k (a 0)
  · obtain ⟨x, hx, rfl⟩ := zok_t hv.1 (by omega)
    obtain ⟨k, hk, rfl⟩ := zok_t hv.2 (by omega)
    have E : oConf a (nI x) (nI k) = oConfN a x k := by unfold oConf; rw [if_pos hv, cl (by omega), cl (by omega)]
    have hx6 : x < 6 := by omega
    have hk8 : k < 8 := by omega
    have b4 := hb.2.2.2.1 x k hx6 hk8
    have hl := zm_lt (zm_p0 hb hx6)
    have eb := zm_bit (zm_p0 hb hx6) hk8
    refine u5_hasPair_t hS hb hx hk (br1 ⟨vin hx6 (by decide), ?_⟩)
    rw [cl (by omega), rS_co hS hx6]
    refine u6_contains (by omega) (by omega) (fun z => br1 (h (2, 0, a) M ?_ (fr_r _ _ _) hS)) (fun z => br0 (u5_assigned hS hb hx6 hk8 (fun y => br1 (h (2, 0, a) M ?_ (fr_r _ _ _) hS)) (fun y => br0 ⟨vin hx6 (by decide), vin hx6 (by decide), ?_⟩)))
    · rw [E]; exact if_pos (by omega)
    · rw [E]; exact if_pos (by omega)
    · have z0 : zp a x k 0 = 0 := by omega
      intro M1 e1
      rw [zb_or _ (by omega) _ (by omega) (by omega)] at e1
      have S1 := rU_co hS hx6 hk8 z0
      rw [← e1] at S1
      have B1 := rB_conflict hb hx6 hk8
      have q := h _ M1 E (e1 ▸ fr_s M _ _ (by omega))
      unfold oConfN at q
      rw [if_neg (by omega)] at q
      refine u5_neutralCount S1 B1 hk8 ?_
      rw [zu_f _ _ (by omega)]
      exact q S1
  · refine u5_hasPair_f hS hb ?_ (br0 (h (1, 0, a) M (if_neg hv) (fr_r _ _ _) hS))
    rcases Classical.em (zok x (a 1)) with z | z
    · exact .inr (zok_f (fun y => hv ⟨z, y⟩) (by omega))
    · exact .inl (zok_f z (by omega))
theorem u5_tryAssignment (hS : rS M i a) (hb : rB a) (x k : Int32) {Q : Int32 → sM → Prop} (h : ∀ o M', oAss a x k = o → fr (sw_st i) (sw_st i + 17) M M' → rS M' i o.2.2 → Q (zans (-1) (-3) (-4) o) M') : wX5_tryAssignment i x k M Q := by
  have hE := rB_E hb
  have hD := rB_D hb
  unfold wX5_tryAssignment
  by_cases hv : zok x (a 1) ∧ zok k (a 0)
  · obtain ⟨x, hx, rfl⟩ := zok_t hv.1 (by omega)
    obtain ⟨k, hk, rfl⟩ := zok_t hv.2 (by omega)
    have E : oAss a (nI x) (nI k) = oAssN a x k := by unfold oAss; rw [if_pos hv, cl (by omega), cl (by omega)]
    have hx6 : x < 6 := by omega
    have hk8 : k < 8 := by omega
    have b4 := hb.2.2.2.1 x k hx6 hk8
    have b3 := hb.2.2.1 x hx6
    have hl := zm_lt (zm_p1 hb hx6)
    have eb := zm_bit (zm_p1 hb hx6) hk8
    have c3 := zcnt_le hb hk8
    have l3 := zload_le hb hx6
    have bad : (zp a x k 1 = 1 ∨ 3 ≤ zcnt a k ∨ zx a x 2 ≤ zload a x) → Q (-3) M := fun z => h (2, 0, a) M (E.trans (if_pos z)) (fr_r _ _ _) hS
    refine u5_hasPair_t hS hb hx hk (br1 (u5_assigned hS hb hx6 hk8 (fun y => br1 (bad (.inl y))) (fun y => br0 (u5_assignedCount hS hb hk8 (bri (nI_leI (a := 3) (by decide) (by omega)) (fun z => bad (.inr (.inl z))) (fun z => u5_freeCapacity hS hb hx6 (bri (nI_ltI (a := 0) (by decide) (by omega)) (fun w => ?_) (fun w => bad (.inr (.inr (by omega)))))))))))
    refine u5_canJudge hS hb hx6 hk8 (fun j => br1 ⟨vin hx6 (by decide), vin hx6 (by decide), ?_⟩) (fun j => br0 (h (3, 0, a) M ?_ (fr_r _ _ _) hS))
    · rw [cl (by omega), rS_as hS hx6]
      intro M1 e1
      rw [zb_or _ (by omega) _ (by omega) (by omega)] at e1
      have S1 := rU_as hS hx6 hk8 y
      rw [← e1] at S1
      have B1 := rB_assign hb hx6 hk8 hx hk j.1.1 y (by omega) (by omega)
      have q := h _ M1 E (e1 ▸ fr_s M _ _ (by omega))
      unfold oAssN at q
      rw [if_neg (by omega), if_neg (fun z => z j)] at q
      exact u5_assignedCount S1 B1 hk8 (q S1)
    · rw [E]; unfold oAssN
      rw [if_neg (by omega), if_pos j]
  · refine u5_hasPair_f hS hb ?_ (br0 (h (1, 0, a) M (if_neg hv) (fr_r _ _ _) hS))
    rcases Classical.em (zok x (a 1)) with z | z
    · exact .inr (zok_f (fun y => hv ⟨z, y⟩) (by omega))
    · exact .inl (zok_f z (by omega))
theorem u5_tryGrade (hS : rS M i a) (hb : rB a) (x k g : Int32) {Q : Int32 → sM → Prop} (h : ∀ o M', oGrad a x k g = o → fr (sw_st i) (sw_st i + 17) M M' → rS M' i o.2.2 → Q (zans (-1) (-2) (-3) o) M') : wX5_tryGrade i x k g M Q := by
  have hE := rB_E hb
  have hD := rB_D hb
  unfold wX5_tryGrade
  by_cases hv : zok x (a 1) ∧ zok k (a 0)
  · obtain ⟨x, hx, rfl⟩ := zok_t hv.1 (by omega)
    obtain ⟨k, hk, rfl⟩ := zok_t hv.2 (by omega)
    have hx6 : x < 6 := by omega
    have hk8 : k < 8 := by omega
    have b4 := hb.2.2.2.1 x k hx6 hk8
    refine u5_hasPair_t hS hb hx hk (br1 ?_)
    by_cases hg : zok g 21
    · obtain ⟨g, hg2, rfl⟩ := zok_t hg (by omega)
      have E : oGrad a (nI x) (nI k) (nI g) = oGradN a x k g := by unfold oGrad; rw [if_pos hv, if_pos hg, cl (by omega), cl (by omega), cl (by omega)]
      have bad : (zp a x k 1 = 0 ∨ 0 < zp a x k 2) → Q (-3) M := fun z => h (3, 0, a) M (E.trans (if_pos z)) (fr_r _ _ _) hS
      refine brf (nI_pos (by omega)) (brt (nI_le (b := 20) (by omega) (by decide)) (u5_assigned hS hb hx6 hk8 (fun y => br1 ⟨vin hx6 (by decide), vin hk8 (by decide), ?_⟩) (fun y => br0 (bad (.inl y)))))
      rw [cl (by omega), cl (by omega), rS_g hS hx6 hk8]
      refine bri (nP_n1 (by omega)) (fun z => ⟨vin hx6 (by decide), vin hk8 (by decide), ?_⟩) (fun z => bad (.inr (by omega)))
      intro M1 e1
      have S1 := rU_g hS hx6 hk8 (v := g)
      rw [← e1] at S1
      have B1 := rB_grade hb hx6 hk8 y (g := g) (by omega)
      have q := h _ M1 E (e1 ▸ fr_s M _ _ (by omega))
      unfold oGradN at q
      rw [if_neg (by omega)] at q
      exact u5_gradeCount S1 B1 hk8 (q S1)
    · have q : Q (-2) M := h (2, 0, a) M (by unfold oGrad; rw [if_pos hv, if_neg hg]) (fr_r _ _ _) hS
      refine ⟨fun _ => q, fun z => ⟨fun z2 => ?_, fun _ => q⟩⟩
      rw [Int32.lt_iff_toInt_lt, zi0] at z
      rw [Int32.le_iff_toInt_le, zi20] at z2
      exact absurd ⟨by omega, by omega⟩ hg
  · refine u5_hasPair_f hS hb ?_ (br0 (h (1, 0, a) M (if_neg hv) (fr_r _ _ _) hS))
    rcases Classical.em (zok x (a 1)) with z | z
    · exact .inr (zok_f (fun y => hv ⟨z, y⟩) (by omega))
    · exact .inl (zok_f z (by omega))
theorem u5_tryThreshold (hS : rS M i a) (hb : rB a) (t : Int32) {Q : Int32 → sM → Prop} (h : ∀ o M', oThr a t = o → fr (sw_st i) (sw_st i + 17) M M' → rS M' i o.2.2 → Q (zans (-2) 0 0 o) M') : wX5_tryThreshold i t M Q := by
  unfold wX5_tryThreshold
  by_cases hg : zok t 21
  · obtain ⟨t, ht, rfl⟩ := zok_t hg (by omega)
    have E : oThr a (nI t) = (0, a 2, zu a 2 t) := by unfold oThr; rw [if_pos hg, cl (by omega)]
    refine brf (nI_pos (by omega)) (brt (nI_le (b := 20) (by omega) (by decide)) ?_)
    intro v3 e3 M1 e1
    subst e3
    rw [rS_T hS]
    have S1 := rU_T hS (v := t)
    rw [← e1] at S1
    exact h _ M1 E (e1 ▸ fr_s M _ _ (by omega)) S1
  · have q : Q (-2) M := h (1, 0, a) M (if_neg hg) (fr_r _ _ _) hS
    refine ⟨fun _ => q, fun z => ⟨fun z2 => ?_, fun _ => q⟩⟩
    rw [Int32.lt_iff_toInt_lt, zi0] at z
    rw [Int32.le_iff_toInt_le, zi20] at z2
    exact absurd ⟨by omega, by omega⟩ hg
theorem rU_aw {M : sM} {i : Nat} {a : Nat → Nat} (hb : rB a) {k : Nat} (hN : a 3 < 8) (h : rS M i (zu (zu a (212 + 2 * a 3 + 0) k) 3 (a 3 + 1))) (hk : k < 8) : rS M i (zu (zu (zu (zu a (212 + 2 * a 3 + 0) k) (212 + 2 * a 3 + 1) 0) 3 (a 3 + 1)) (4 + 5 * k + 4) (a 3 + 1)) := by
  have z0 : ze a (a 3) 1 = 0 := (hb.2.2.2.2.1 (a 3) hN).2.2.1 (Nat.le_refl _)
  obtain ⟨A, hA⟩ : ∃ A, A = zu (zu a (212 + 2 * a 3 + 0) k) 3 (a 3 + 1) := ⟨_, rfl⟩
  obtain ⟨B, hB⟩ : ∃ B, B = zu (zu (zu (zu a (212 + 2 * a 3 + 0) k) (212 + 2 * a 3 + 1) 0) 3 (a 3 + 1)) (4 + 5 * k + 4) (a 3 + 1) := ⟨_, rfl⟩
  rw [← hA] at h
  rw [← hB]
  have e : ∀ q, q < 228 → (∀ j, j < 8 → q ≠ 4 + 5 * j + 4) → B q = A q := fun q hq hj => by
    rw [hB, zu_f _ _ (hj k hk), hA]
    by_cases c : q = 3
    · subst c; rw [zu_t, zu_t]
    · rw [zu_f _ _ c, zu_f _ _ c]
      by_cases c2 : q = 212 + 2 * a 3 + 1
      · subst c2
        rw [zu_t, zu_f _ _ (by omega)]
        exact z0.symm
      · rw [zu_f _ _ c2]
  obtain ⟨h1, h2, h3, h4⟩ := h
  refine ⟨?_, fun k2 hk2 => ?_, fun x hx => ?_, fun x k2 hx hk2 => ?_⟩
  · obtain ⟨i1, i2, i3, i4, i5, i6, i7⟩ := h1
    refine ⟨i1.trans (congrArg nI (zm_cong (fun q hq => (e _ (by omega) (fun j hj => by omega)).symm))), i2.trans (congrArg nI (zm_cong (fun q hq => (e _ (by omega) (fun j hj => by omega)).symm))), i3.trans (congrArg (fun z => nI (2 * z)) (zm_cong (fun q hq => (e _ (by omega) (fun j hj => by omega)).symm))), i4.trans (congrArg nI (e _ (by omega) (fun j hj => by omega)).symm), i5.trans (congrArg nI (e _ (by omega) (fun j hj => by omega)).symm), i6.trans (congrArg nI (e _ (by omega) (fun j hj => by omega)).symm), i7.trans (congrArg nI (e _ (by omega) (fun j hj => by omega)).symm)⟩
  · obtain ⟨i1, i2, i3⟩ := h2 k2 hk2
    exact ⟨i1.trans (congrArg nI (e _ (by omega) (fun j hj => by omega)).symm), i2.trans (congrArg nI (e _ (by omega) (fun j hj => by omega)).symm), i3.trans (congrArg nI (e _ (by omega) (fun j hj => by omega)).symm)⟩
  · obtain ⟨i1, i2, i3, i4, i5, i6⟩ := h3 x hx
    exact ⟨i1.trans (congrArg nI (e _ (by omega) (fun j hj => by omega)).symm), i2.trans (congrArg nI (e _ (by omega) (fun j hj => by omega)).symm), i3.trans (congrArg nI (e _ (by omega) (fun j hj => by omega)).symm), i4.trans (congrArg nI (e _ (by omega) (fun j hj => by omega)).symm), i5.trans (congrArg nI (zm_cong (fun q hq => (e _ (by omega) (fun j hj => by omega)).symm))), i6.trans (congrArg nI (zm_cong (fun q hq => (e _ (by omega) (fun j hj => by omega)).symm)))⟩
  · exact (h4 x k2 hx hk2).trans (congrArg nP (e _ (by omega) (fun j hj => by omega)).symm)
theorem u5_tryAward (hS : rS M i a) (hb : rB a) (k : Int32) {Q : Int32 → sM → Prop} (h : ∀ o M', oAw a k = o → fr (sw_st i) (sw_st i + 17) M M' → rS M' i o.2.2 → Q (zans (-1) (-3) (-4) o) M') : wX5_tryAward i k M Q := by
  have hD := rB_D hb
  have hN := rB_N hb
  unfold wX5_tryAward
  by_cases hv : zok k (a 0)
  · obtain ⟨k, hk, rfl⟩ := zok_t hv (by omega)
    have hk8 : k < 8 := by omega
    have E : oAw a (nI k) = oAwN a k := by unfold oAw; rw [if_pos hv, cl (by omega)]
    have bk := hb.2.1 k hk8
    refine u5_hasDoor_t hS hb hk (br1 (u5_entryOf hS hb hk8 (fun z => ?_) (fun z => brt rfl ?_)))
    · have w : ¬ nI (zd a k 4) = (-1 : Int32) := by rw [zI_eq, nI_toInt (by omega)]; intro y; rw [show ((-1 : Int32)).toInt = -1 by decide] at y; omega
      exact brf w (h (2, 0, a) M (E.trans (if_pos z)) (fr_r _ _ _) hS)
    · have hN8 := zN_lt hb hk8 z
      rw [rS_N hS]
      refine brt (nI_lt (b := 8) (by omega) (by decide)) (u5_deservesDegree hS hb hk8 (fun y => br1 ⟨vin hN8 (by decide), ?_⟩) (fun y => br0 (h (3, 0, a) M ?_ (fr_r _ _ _) hS)))
      · rw [cl (by omega)]
        intro M1 e1
        have S1 := rU_en hS (k := a 3) hN8 (v := k)
        rw [← e1] at S1
        intro M2 e2
        rw [rS_N S1, zu_f _ _ (by omega), show nI (a 3) + 1 = nI (a 3 + 1) from (nI_succ _).symm] at e2
        have S2 := rU_N S1 (v := a 3 + 1)
        rw [← e2] at S2
        have q := h _ M2 E (fr_t (e1 ▸ fr_s M _ _ (by omega)) (e2 ▸ fr_s M1 _ _ (by omega)))
        unfold oAwN at q
        rw [if_neg (by omega), if_neg (fun z => z y)] at q
        rw [rS_N S2, zu_t]
        exact q (rU_aw hb hN8 S2 hk8)
      · rw [E]; unfold oAwN
        rw [if_neg (by omega), if_pos y]
  · exact u5_hasDoor_f hS hb (zok_f hv (by omega)) (br0 (h (1, 0, a) M (if_neg hv) (fr_r _ _ _) hS))
theorem u5_tryRevocation (hS : rS M i a) (hb : rB a) (n : Int32) {Q : Int32 → sM → Prop} (h : ∀ o M', oRev a n = o → fr (sw_st i) (sw_st i + 17) M M' → rS M' i o.2.2 → Q (zans (-5) (-3) 0 o) M') : wX5_tryRevocation i n M Q := by
  have hN := rB_N hb
  unfold wX5_tryRevocation
  by_cases hv : 1 ≤ n.toInt ∧ n.toInt ≤ (a 3 : Int)
  · obtain ⟨n', hn', rfl⟩ := zI_nat (x := n) (by omega)
    rw [nI_toInt hn'] at hv
    obtain ⟨n, rfl⟩ : ∃ n, n' = n + 1 := ⟨n' - 1, by omega⟩
    have E : oRev a (nI (n + 1)) = oRevN a n := by unfold oRev; rw [nI_toInt hn', if_pos hv, cl hn', Nat.add_sub_cancel]
    have hn8 : n < 8 := by omega
    have hl := zm_lt (zm_e1 hb)
    have eb := zrv hb hn8
    have bn := hb.2.2.2.2.1 n hn8
    rw [rS_rv hS]
    refine u5_hasEntry_t hS hb (by omega) (br1 (u6_contains (by omega) (by omega) (fun z => br1 (h (2, 0, a) M (E.trans (if_pos (by omega))) (fr_r _ _ _) hS)) (fun z => br0 ?_)))
    intro M1 e1
    rw [zb_or _ (by omega) _ (by omega) (by omega)] at e1
    have S1 := rU_rv hS hn8 (by omega)
    rw [← e1] at S1
    have e2 : nI (n + 1) - (1 : Int32) = nI n := nI_pred n
    rw [e2, cl (by omega), rS_en S1 hn8]
    refine ⟨vin hn8 (by decide), ?_⟩
    have q := h _ M1 E (e1 ▸ fr_s M _ _ (by omega))
    unfold oRevN at q
    rw [if_neg (by omega)] at q
    rw [show ze (zu a (212 + 2 * n + 1) 1) n 0 = ze a n 0 from (ze_e a _ (by decide) (by decide)).trans (if_neg (by omega))]
    exact q S1
  · refine u5_hasEntry_f hS hb (fun m hm e => hv ?_) (br0 (h (1, 0, a) M (if_neg hv) (fr_r _ _ _) hS))
    subst e
    rw [nI_toInt (by omega)]; omega
end T5
