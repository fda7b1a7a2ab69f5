/-! The reference's questions, over its row. -/
theorem c0 : ((0 : Int32)).toNatClampNeg = 0 := rfl
theorem c1 : ((1 : Int32)).toNatClampNeg = 1 := rfl
theorem c2 : ((2 : Int32)).toNatClampNeg = 2 := rfl
theorem c3 : ((3 : Int32)).toNatClampNeg = 3 := rfl
theorem nb0 : narrow .boolean (.int (0 : Int32)) = .int 0 := rfl
theorem nb1 : narrow .boolean (.int (1 : Int32)) = .int 1 := rfl
theorem nA (n : Nat) : nI n + 0 = nI n := Int32.add_zero _
theorem u7_in {x lo hi : Int32} {Q : Int32 → Prop} (h1 : lo.toInt ≤ x.toInt → x.toInt ≤ hi.toInt → Q 1) (h0 : ¬ (lo.toInt ≤ x.toInt ∧ x.toInt ≤ hi.toInt) → Q 0) : wX7_in x lo hi Q := by
  unfold wX7_in
  rw [Int32.lt_iff_toInt_lt, Int32.lt_iff_toInt_lt]
  exact ⟨fun h => h0 (by omega), fun h => ⟨fun h2 => h0 (by omega), fun h2 => h1 (by omega) (by omega)⟩⟩
theorem u7_isFrame {x : Int32} {Q : Int32 → Prop} (h1 : ∀ f, 97 ≤ f → f ≤ 102 → x = nI f → Q 1) (h0 : (∀ f, 97 ≤ f → f ≤ 102 → x ≠ nI f) → Q 0) : wX7_isFrame x Q := by
  unfold wX7_isFrame
  have e1 : ((97 : Int32)).toInt = 97 := by decide
  have e2 : ((102 : Int32)).toInt = 102 := by decide
  refine u7_in (fun h h2 => ⟨nb1, h1 x.toInt.toNat (by omega) (by omega) ?_⟩) (fun h => ⟨nb0, h0 (fun f h2 h3 e => h ?_)⟩)
  · rw [zI_eq, nI_toInt (by omega)]; omega
  · subst e
    rw [nI_toInt (by omega)]; omega
section U7
variable {M : sM} {a : Nat → Nat}
theorem rM_0 (h : rM M a) : M 34 ((0 : Int32)).toNatClampNeg = nI (a 0) := h 0 (by decide)
theorem rM_1 (h : rM M a) : M 34 ((1 : Int32)).toNatClampNeg = nI (a 1) := h 1 (by decide)
theorem rM_2 (h : rM M a) : M 34 ((2 : Int32)).toNatClampNeg = nI (a 2) := h 2 (by decide)
theorem rM_3 (h : rM M a) : M 34 ((3 : Int32)).toNatClampNeg = nI (a 3) := h 3 (by decide)
theorem zi0 : ((0 : Int32)).toInt = 0 := by decide
theorem zi1 : ((1 : Int32)).toInt = 1 := by decide
theorem u7_isDoor_t (hM : rM M a) (hb : rB a) {k : Nat} (hk : k < a 0) {Q : Int32 → Prop} (h : Q 1) : wX7_isDoor (nI k) M Q := by
  have hD := rB_D hb
  unfold wX7_isDoor
  rw [rM_0 hM]
  refine u7_in (fun _ _ => ⟨nb1, h⟩) (fun z => absurd ?_ z)
  rw [zi0, nI_toInt (by omega), show nI (a 0) - 1 = nP (a 0) from rfl, nP_toInt (by omega)]
  omega
theorem u7_isDoor_f (hM : rM M a) (hb : rB a) {x : Int32} (hx : ∀ k, k < a 0 → x ≠ nI k) {Q : Int32 → Prop} (h : Q 0) : wX7_isDoor x M Q := by
  have hD := rB_D hb
  unfold wX7_isDoor
  rw [rM_0 hM]
  refine u7_in (fun z1 z2 => ?_) (fun _ => ⟨nb0, h⟩)
  rw [zi0] at z1
  rw [show nI (a 0) - 1 = nP (a 0) from rfl, nP_toInt (by omega)] at z2
  refine absurd ?_ (hx x.toInt.toNat (by omega))
  rw [zI_eq, nI_toInt (by omega)]; omega
theorem u7_isExaminer_t (hM : rM M a) (hb : rB a) {k : Nat} (hk : k < a 1) {Q : Int32 → Prop} (h : Q 1) : wX7_isExaminer (nI k) M Q := by
  have hD := rB_E hb
  unfold wX7_isExaminer
  rw [rM_1 hM]
  refine u7_in (fun _ _ => ⟨nb1, h⟩) (fun z => absurd ?_ z)
  rw [zi0, nI_toInt (by omega), show nI (a 1) - 1 = nP (a 1) from rfl, nP_toInt (by omega)]
  omega
theorem u7_isExaminer_f (hM : rM M a) (hb : rB a) {x : Int32} (hx : ∀ k, k < a 1 → x ≠ nI k) {Q : Int32 → Prop} (h : Q 0) : wX7_isExaminer x M Q := by
  have hD := rB_E hb
  unfold wX7_isExaminer
  rw [rM_1 hM]
  refine u7_in (fun z1 z2 => ?_) (fun _ => ⟨nb0, h⟩)
  rw [zi0] at z1
  rw [show nI (a 1) - 1 = nP (a 1) from rfl, nP_toInt (by omega)] at z2
  refine absurd ?_ (hx x.toInt.toNat (by omega))
  rw [zI_eq, nI_toInt (by omega)]; omega
theorem u7_arePair_t (hM : rM M a) (hb : rB a) {x k : Nat} (hx : x < a 1) (hk : k < a 0) {Q : Int32 → Prop} (h : Q 1) : wX7_arePair (nI x) (nI k) M Q := by
  unfold wX7_arePair
  exact u7_isExaminer_t hM hb hx (br1 (u7_isDoor_t hM hb hk (br1 h)))
theorem u7_arePair_f (hM : rM M a) (hb : rB a) {x y : Int32} (hx : (∀ k, k < a 1 → x ≠ nI k) ∨ ∀ k, k < a 0 → y ≠ nI k) {Q : Int32 → Prop} (h : Q 0) : wX7_arePair x y M Q := by
  have hE := rB_E hb
  unfold wX7_arePair
  rcases zI_idx x (a 1) (by omega) with ⟨j, hj, rfl⟩ | ⟨-, q⟩
  · refine u7_isExaminer_t hM hb hj (br1 (u7_isDoor_f hM hb ?_ (br0 h)))
    rcases hx with hx | hx
    · exact absurd rfl (hx j hj)
    · exact hx
  · exact u7_isExaminer_f hM hb q (br0 h)
theorem u7_isEntry_t (hM : rM M a) (hb : rB a) {n : Nat} (hk : n < a 3) {Q : Int32 → Prop} (h : Q 1) : wX7_isEntry (nI (n + 1)) M Q := by
  have hD := rB_N hb
  unfold wX7_isEntry
  rw [rM_3 hM]
  refine u7_in (fun _ _ => ⟨nb1, h⟩) (fun z => absurd ?_ z)
  rw [zi1, nI_toInt (by omega), nI_toInt (by omega)]
  omega
theorem u7_isEntry_f (hM : rM M a) (hb : rB a) {x : Int32} (hx : ∀ n, n < a 3 → x ≠ nI (n + 1)) {Q : Int32 → Prop} (h : Q 0) : wX7_isEntry x M Q := by
  have hD := rB_N hb
  unfold wX7_isEntry
  rw [rM_3 hM]
  refine u7_in (fun z1 z2 => ?_) (fun _ => ⟨nb0, h⟩)
  rw [zi1] at z1
  rw [nI_toInt (by omega)] at z2
  refine absurd ?_ (hx (x.toInt.toNat - 1) (by omega))
  rw [zI_eq, nI_toInt (by omega)]; omega
theorem ix_d (k w : Nat) : ((4 : Int32) + ((5 : Int32) * nI k)) + nI w = nI (4 + 5 * k + w) := by
  rw [show (4 : Int32) = nI 4 from rfl, show (5 : Int32) = nI 5 from rfl, pk_mul, nI_add, nI_add]
theorem ix_x (k w : Nat) : ((44 : Int32) + ((4 : Int32) * nI k)) + nI w = nI (44 + 4 * k + w) := by
  rw [show (44 : Int32) = nI 44 from rfl, show (4 : Int32) = nI 4 from rfl, pk_mul, nI_add, nI_add]
theorem ix_p (x k w : Nat) : ((68 : Int32) + ((3 : Int32) * (((8 : Int32) * nI x) + nI k))) + nI w = nI (68 + 3 * (8 * x + k) + w) := by
  rw [show (68 : Int32) = nI 68 from rfl, show (3 : Int32) = nI 3 from rfl, show (8 : Int32) = nI 8 from rfl, pk_mul, nI_add, pk_mul, nI_add, nI_add]
theorem ix_e (n : Nat) : ((212 : Int32) + ((2 : Int32) * nI n)) = nI (212 + 2 * n) := by
  rw [show (212 : Int32) = nI 212 from rfl, show (2 : Int32) = nI 2 from rfl, pk_mul, nI_add]
theorem u7_door (hM : rM M a) {k : Nat} (hk : k < 8) {w : Nat} (hw : w < 5) {Q : Int32 → Prop} (h : Q (nI (zd a k w))) : wX7_door (nI k) (nI w) M Q := by
  unfold wX7_door
  rw [ix_d, cl (by omega), hM _ (by omega)]
  exact ⟨vin (by omega) (by decide), h⟩
theorem u7_examiner (hM : rM M a) {x : Nat} (hk : x < 6) {w : Nat} (hw : w < 4) {Q : Int32 → Prop} (h : Q (nI (zx a x w))) : wX7_examiner (nI x) (nI w) M Q := by
  unfold wX7_examiner
  rw [ix_x, cl (by omega), hM _ (by omega)]
  exact ⟨vin (by omega) (by decide), h⟩
theorem u7_pair (hM : rM M a) {x k : Nat} (hx : x < 6) (hk : k < 8) {w : Nat} (hw : w < 3) {Q : Int32 → Prop} (h : Q (nI (zp a x k w))) : wX7_pair (nI x) (nI k) (nI w) M Q := by
  unfold wX7_pair
  rw [ix_p, cl (by omega), hM _ (by omega)]
  exact ⟨vin (by omega) (by decide), h⟩
theorem u7_setsPair {x k w v : Nat} (hx : x < 6) (hk : k < 8) (hw : w < 3) {Q : sM → Prop} (h : Q (sw_ms M 34 (68 + 3 * (8 * x + k) + w) (nI v))) : wX7_setsPair (nI x) (nI k) (nI w) (nI v) M Q := by
  unfold wX7_setsPair
  rw [ix_p, cl (by omega)]
  refine ⟨vin (by omega) (by decide), ?_⟩
  intro M2 e
  subst e
  exact h
theorem u7_neutral (hM : rM M a) (hb : rB a) {x k : Nat} (hx : x < 6) (hk : k < 8) {Q : Int32 → Prop} (h1 : zneu a x k → Q 1) (h0 : ¬ zneu a x k → Q 0) : wX7_neutral (nI x) (nI k) M Q := by
  unfold wX7_neutral
  have b1 := hb.2.1 k hk
  have b2 := hb.2.2.1 x hx
  have b3 := hb.2.2.2.1 x k hx hk
  refine u7_examiner hM hx (w := 0) (by decide) (u7_door hM hk (w := 0) (by decide) ?_)
  refine bri (nI_eq (by omega) (by omega)) (fun z => h0 (fun y => y.1 z)) (fun z => u7_pair hM hx hk (w := 0) (by decide) ?_)
  exact bri (nI_eq (b := 0) (by omega) (by omega)) (fun y => h1 ⟨z, y⟩) (fun y => h0 (fun w => y w.2))
theorem u7_judges (hM : rM M a) (hb : rB a) {x k : Nat} (hx : x < 6) (hk : k < 8) {Q : Int32 → Prop} (h1 : zjud a x k → Q 1) (h0 : ¬ zjud a x k → Q 0) : wX7_judges (nI x) (nI k) M Q := by
  unfold wX7_judges
  have b1 := hb.2.1 k hk
  have b2 := hb.2.2.1 x hx
  refine u7_neutral hM hb hx hk (fun z => br1 ?_) (fun z => br0 (h0 (fun y => z y.1)))
  refine u7_examiner hM hx (w := 1) (by decide) (u7_door hM hk (w := 1) (by decide) ?_)
  exact bri (zb_shr1 (by omega) (by omega)) (fun y => h1 ⟨z, y⟩) (fun y => h0 (fun w => y w.2))
theorem u7_assigned (hM : rM M a) (hb : rB a) {x k : Nat} (hx : x < 6) (hk : k < 8) {Q : Int32 → Prop} (h1 : zp a x k 1 = 1 → Q 1) (h0 : zp a x k 1 = 0 → Q 0) : wX7_assigned (nI x) (nI k) M Q := by
  unfold wX7_assigned
  have b3 := hb.2.2.2.1 x k hx hk
  refine u7_pair hM hx hk (w := 1) (by decide) ?_
  exact bri (nI_eq (b := 1) (by omega) (by omega)) h1 (fun y => h0 (by omega))
theorem u7_canSit (hM : rM M a) (hb : rB a) {x k : Nat} (hx : x < 6) (hk : k < 8) {Q : Int32 → Prop} (h1 : (zx a x 0 ≠ zd a k 0 ∧ zp a x k 0 = 0) ∧ zp a x k 1 = 0 → Q 1) (h0 : ¬ ((zx a x 0 ≠ zd a k 0 ∧ zp a x k 0 = 0) ∧ zp a x k 1 = 0) → Q 0) : wX7_canSit (nI x) (nI k) M Q := by
  unfold wX7_canSit
  refine u7_neutral hM hb hx hk (fun z => br1 (u7_assigned hM hb hx hk (fun y => br1 (h0 (by omega))) (fun y => br0 (h1 ⟨z, y⟩)))) (fun z => br0 (h0 (fun y => z y.1)))
theorem u7_loadOf (hM : rM M a) (hb : rB a) {y : Nat} (hy : y < 6) {Q : Int32 → Prop} (h : Q (nI (zload a y))) : wX7_loadOf (nI y) M Q := by
  have hD := rB_D hb
  have hE := rB_E hb
  have key : ∀ m x, x + m = a 0 → lX7_loadOf_4 (nI y) M Q (m + 1) (nI (zs (fun k => zp a y k 1) x)) (nI x) := by
    intro m
    induction m with
    | zero =>
      intro x hx
      unfold lX7_loadOf_4
      rw [rM_0 hM]
      have e : x = a 0 := by omega
      subst e
      rw [zload_D hb hy]
      exact brt (nI_le (Nat.le_refl _) (by omega)) h
    | succ m ih =>
      intro x hx
      unfold lX7_loadOf_4
      rw [rM_0 hM]
      refine brf (nI_ge (by omega) (by omega)) ?_
      have hx6 : x < 8 := by omega
      refine u7_pair hM hy hx6 (w := 1) (by decide) ?_
      intro v3 e3 v4 e4
      subst e3 e4
      have q := ih (x + 1) (by omega)
      rw [zs_succ, ← nI_add, nI_succ] at q
      exact q
  unfold wX7_loadOf
  exact ⟨a 0 + 1, key (a 0) 0 (by omega)⟩
theorem u7_examinersAt (hM : rM M a) (hb : rB a) {k : Nat} (hk : k < 8) {Q : Int32 → Prop} (h : Q (nI (zcnt a k))) : wX7_examinersAt (nI k) M Q := by
  have hD := rB_D hb
  have hE := rB_E hb
  have key : ∀ m x, x + m = a 1 → lX7_examinersAt_4 (nI k) M Q (m + 1) (nI (zs (fun x => zp a x k 1) x)) (nI x) := by
    intro m
    induction m with
    | zero =>
      intro x hx
      unfold lX7_examinersAt_4
      rw [rM_1 hM]
      have e : x = a 1 := by omega
      subst e
      rw [zcnt_E hb hk]
      exact brt (nI_le (Nat.le_refl _) (by omega)) h
    | succ m ih =>
      intro x hx
      unfold lX7_examinersAt_4
      rw [rM_1 hM]
      refine brf (nI_ge (by omega) (by omega)) ?_
      have hx6 : x < 6 := by omega
      refine u7_pair hM hx6 hk (w := 1) (by decide) ?_
      intro v3 e3 v4 e4
      subst e3 e4
      have q := ih (x + 1) (by omega)
      rw [zs_succ, ← nI_add, nI_succ] at q
      exact q
  unfold wX7_examinersAt
  exact ⟨a 1 + 1, key (a 1) 0 (by omega)⟩
theorem u7_gradesAt (hM : rM M a) (hb : rB a) {k : Nat} (hk : k < 8) {Q : Int32 → Prop} (h : Q (nI (zgc a k))) : wX7_gradesAt (nI k) M Q := by
  have hD := rB_D hb
  have hE := rB_E hb
  have key : ∀ m x, x + m = a 1 → lX7_gradesAt_4 (nI k) M Q (m + 1) (nI (zs (fun x => if 0 < zp a x k 2 then 1 else 0) x)) (nI x) := by
    intro m
    induction m with
    | zero =>
      intro x hx
      unfold lX7_gradesAt_4
      rw [rM_1 hM]
      have e : x = a 1 := by omega
      subst e
      exact brt (nI_le (Nat.le_refl _) (by omega)) h
    | succ m ih =>
      intro x hx
      unfold lX7_gradesAt_4
      rw [rM_1 hM]
      refine brf (nI_ge (by omega) (by omega)) ?_
      have hx6 : x < 6 := by omega
      refine u7_pair hM hx6 hk (w := 2) (by decide) ?_
      have b := hb.2.2.2.1 x k hx6 hk
      refine bri (nI_leI (b := 0) (by omega) (by decide)) (fun e => ?_) (fun e => ?_)
      · intro v3 e3 v4 e4
        subst e3 e4
        have q := ih (x + 1) (by omega)
        rw [zs_succ, if_neg (by omega), ← nI_add, nI_succ] at q
        exact q
      · intro v3 e3 v4 e4
        subst e3 e4
        have q := ih (x + 1) (by omega)
        rw [zs_succ, if_pos (by omega), nI_succ, nI_succ] at q
        exact q
  unfold wX7_gradesAt
  exact ⟨a 1 + 1, key (a 1) 0 (by omega)⟩
theorem u7_resultOf (hM : rM M a) (hb : rB a) {k : Nat} (hk : k < 8) {Q : Int32 → Prop} (h : Q (nP (zres a k))) : wX7_resultOf (nI k) M Q := by
  have hE := rB_E hb
  have h1 := zgc_le hb hk
  have h2 := zgs_le hb hk
  unfold wX7_resultOf
  have key : ∀ m x, x + m = a 1 → ∀ K : Int32 → Int32 → Int32 → Prop, K (nI (zgs a k)) (nI (zlo (fun x => zp a x k 2) (a 1))) (nI (zhi (fun x => zp a x k 2) (a 1))) → lX7_resultOf_11 (nI k) M K (m + 1) (nI (zs (fun x => zp a x k 2 - 1) x)) (nI (zlo (fun x => zp a x k 2) x)) (nI (zhi (fun x => zp a x k 2) x)) (nI x) := by
    intro m
    induction m with
    | zero =>
      intro x hx K hK
      unfold lX7_resultOf_11
      rw [rM_1 hM]
      have e2 : x = a 1 := by omega
      subst e2
      exact brt (nI_le (Nat.le_refl _) (by omega)) hK
    | succ m ih =>
      intro x hx K hK
      unfold lX7_resultOf_11
      rw [rM_1 hM]
      refine brf (nI_ge (by omega) (by omega)) ?_
      have hx6 : x < 6 := by omega
      have b := hb.2.2.2.1 x k hx6 hk
      have hlo : zhi (fun x => zp a x k 2) x ≤ 20 := (z_lohi (fun x => zp a x k 2) x (fun y hy => (hb.2.2.2.1 y k (by omega) hk).2.2.1)).2.2.2.2
      refine u7_pair hM hx6 hk (w := 2) (by decide) ?_
      intro v11 e11 v12 e12 v13 e13
      rw [show nI (zp a x k 2) - (1 : Int32) = nP (zp a x k 2) from rfl] at e11
      have q2 := ih (x + 1) (by omega) K hK
      have es : v13 = nI (zs (fun x => zp a x k 2 - 1) (x + 1)) := by
        rw [e13, e12, e11, zs_succ, ← nI_add]
        rcases Nat.lt_or_ge 1 (zp a x k 2) with w | w
        · rw [nP_of (by omega), if_pos]
          exact (nI_ltI (a := 0) (by decide) (by omega)).mpr (by omega)
        · rw [if_neg]
          · rw [show zp a x k 2 - 1 = 0 by omega]; rfl
          · intro y
            rw [Int32.lt_iff_toInt_lt, nP_toInt (by omega), zi0] at y
            omega
      subst e11
      refine bri (nP_lt0 (by omega)) (fun w => ?_) (fun w => ?_)
      · unfold jX7_resultOf_58
        intro v14 e14 v15 e15
        rw [w, if_neg] at e14
        · subst e14 e15
          rw [zlo_n (fun x => zp a x k 2) x w, zhi_n (fun x => zp a x k 2) x w, nI_succ, ← es] at q2
          exact q2
        · intro y
          rw [Int32.lt_iff_toInt_lt, nP_toInt (by decide), nI_toInt (by omega)] at y
          omega
      · intro v17 e17
        unfold jX7_resultOf_58
        intro v14 e14 v15 e15
        subst e17 e14 e15
        rw [zlo_p (fun x => zp a x k 2) x (show 0 < zp a x k 2 by omega) (show zp a x k 2 < 100 by omega), zhi_p (fun x => zp a x k 2) x (show 0 < zp a x k 2 by omega) (fun y hy => show zp a y k 2 < 100 by have := hb.2.2.2.1 y k (by omega) hk; omega), nI_succ, ← es] at q2
        exact q2
  refine ⟨a 1 + 1, key (a 1) 0 (by omega) _ (u7_gradesAt hM hb hk (bri (nI_leI (a := 2) (by decide) (by omega)) (fun z => ?_) (fun z => ?_)))⟩
  · refine bri (nI_eq (b := 2) (by omega) (by decide)) (fun y => ?_) (fun y => ?_)
    · have e : zres a k = zgs a k / 2 + 1 := by unfold zres; rw [if_neg (by omega), if_pos y]
      rw [e, nP_S] at h
      rw [show (2 : Int32) = nI 2 from rfl, pk_div (by omega) (by decide) (by decide)]
      exact h
    · have e : zres a k = zgs a k - zlo (fun x => zp a x k 2) (a 1) - zhi (fun x => zp a x k 2) (a 1) + 1 := by unfold zres; rw [if_neg (by omega), if_neg y]
      have q := z_lohi' hb hk z
      rw [pk_sub (by omega), pk_sub (by omega)]
      rw [e, nP_S] at h
      exact h
  · have e : zres a k = 0 := by unfold zres; rw [if_pos (by omega)]
    rw [e, nP_0] at h
    exact h
theorem u7_hasPassed (hM : rM M a) (hb : rB a) {k : Nat} (hk : k < 8) {Q : Int32 → Prop} (h1 : zpas a k → Q 1) (h0 : ¬ zpas a k → Q 0) : wX7_hasPassed (nI k) M Q := by
  unfold wX7_hasPassed
  have b := zres_le hb hk
  have b2 := rB_T hb
  refine u7_resultOf hM hb hk ?_
  rw [rM_2 hM]
  refine bri (nP_lt0 (by omega)) (fun z => h0 (fun y => ?_)) (fun z => bri (nP_ltI (by omega) (by omega)) (fun y => h0 (fun w => ?_)) (fun y => h1 ⟨?_, ?_⟩))
  · omega
  · omega
  · omega
  · omega
theorem u7_entitled (hM : rM M a) (hb : rB a) {k : Nat} (hk : k < 8) {Q : Int32 → Prop} (h1 : zent a k → Q 1) (h0 : ¬ zent a k → Q 0) : wX7_entitled (nI k) M Q := by
  unfold wX7_entitled
  have b1 := hb.2.1 k hk
  refine u7_hasPassed hM hb hk (fun z => br1 (h1 (.inl z))) (fun z => br0 (u7_door hM hk (w := 3) (by decide) (bri (nI_eq (b := 1) (by omega) (by decide)) (fun y => h1 (.inr y)) (fun y => h0 (fun w => ?_)))))
  rcases w with w | w
  · exact z w
  · exact y w
theorem u7_revoked (hM : rM M a) (hb : rB a) {n : Nat} (hn : n < 8) {Q : Int32 → Prop} (h1 : ze a n 1 = 1 → Q 1) (h0 : ze a n 1 = 0 → Q 0) : wX7_revoked (nI (n + 1)) M Q := by
  unfold wX7_revoked
  have b := hb.2.2.2.2.1 n hn
  have e : nI (212 + 2 * (n + 1)) - (1 : Int32) = nI (212 + 2 * n + 1) := by
    rw [show 212 + 2 * (n + 1) = (212 + 2 * n + 1) + 1 by omega]; exact nI_pred _
  rw [ix_e, e, cl (by omega), hM _ (by omega)]
  exact ⟨vin (by omega) (by decide), bri (nI_eq (a := ze a n 1) (b := 1) (by omega) (by decide)) h1 (fun y => h0 (by omega))⟩
theorem u7_canGet (hM : rM M a) (hb : rB a) {x k : Nat} (hx : x < 6) (hk : k < 8) {Q : Int32 → Prop} (h1 : zcnt a k < 3 ∧ zjud a x k ∧ zp a x k 1 = 0 → Q 1) (h0 : ¬ (zcnt a k < 3 ∧ zjud a x k ∧ zp a x k 1 = 0) → Q 0) : wX7_canGet (nI x) (nI k) M Q := by
  unfold wX7_canGet
  have b := zcnt_le hb hk
  refine u7_examinersAt hM hb hk (bri (nI_leI (a := 3) (by decide) (by omega)) (fun z => h0 (fun y => ?_)) (fun z => ?_))
  · omega
  · refine u7_judges hM hb hx hk (fun y => br1 (u7_assigned hM hb hx hk (fun w => br1 (h0 (fun u => ?_))) (fun w => br0 (h1 ⟨by omega, y, w⟩)))) (fun y => br0 (h0 (fun w => y w.2.1)))
    omega
/-- the sum of all grades, over all 48 pairs -/
def zall (a : Nat → Nat) : Nat := zs (fun q => a (68 + 3 * q + 2) - 1) 48
theorem zall_q (hb : rB a) {q : Nat} (hq : q < 48) : a (68 + 3 * q + 2) ≤ 21 := by
  have b := hb.2.2.2.1 (q / 8) (q % 8) (by omega) (by omega)
  unfold zp at b
  rw [show 8 * (q / 8) + q % 8 = q by omega] at b
  exact b.2.2.1
theorem u7_gradeSum (hM : rM M a) (hb : rB a) {Q : Int32 → Prop} (h : Q (nI (zall a))) : wX7_gradeSum M Q := by
  have key : ∀ m x, x + m = 48 → lX7_gradeSum_4 M Q (m + 1) (nI (zs (fun q => a (68 + 3 * q + 2) - 1) x)) (nI x) := by
    intro m
    induction m with
    | zero =>
      intro x hx
      unfold lX7_gradeSum_4
      have e : x = 48 := by omega
      subst e
      exact brt (nI_le (Nat.le_refl _) (by omega)) h
    | succ m ih =>
      intro x hx
      unfold lX7_gradeSum_4
      refine brf (nI_ge (b := 48) (by omega) (by omega)) ?_
      have b := zall_q hb (q := x) (by omega)
      have e : ((68 : Int32) + ((3 : Int32) * nI x)) + (2 : Int32) = nI (68 + 3 * x + 2) := by
        rw [show (68 : Int32) = nI 68 from rfl, show (3 : Int32) = nI 3 from rfl, show (2 : Int32) = nI 2 from rfl, pk_mul, nI_add, nI_add]
      rw [e, cl (by omega), hM _ (by omega)]
      refine ⟨vin (by omega) (by decide), ?_⟩
      intro v3 e3 v4 e4 v5 e5
      have q := ih (x + 1) (by omega)
      have e6 : v3 = nI (a (68 + 3 * x + 2) - 1) := by
        rw [e3, show nI (a (68 + 3 * x + 2)) - 1 = nP (a (68 + 3 * x + 2)) from rfl]
        rcases Nat.lt_or_ge 1 (a (68 + 3 * x + 2)) with w | w
        · rw [nP_of (by omega), if_pos]
          exact (nI_ltI (a := 0) (by decide) (by omega)).mpr (by omega)
        · rw [if_neg]
          · rw [show a (68 + 3 * x + 2) - 1 = 0 by omega]; rfl
          · intro y
            rw [Int32.lt_iff_toInt_lt, nP_toInt (by omega), zi0] at y
            omega
      rw [zs_succ, ← nI_add, nI_succ, ← e6, ← e4, ← e5] at q
      exact q
  unfold wX7_gradeSum
  exact ⟨49, key 48 0 (by omega)⟩
end U7
