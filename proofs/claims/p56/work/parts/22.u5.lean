/-! The class's State, questions: each method's answer is the row's. -/
def zsh (x c : Int32) : Int32 := (x.toUInt32 >>> (c.toUInt32 &&& Int32.toUInt32 31)).toInt32
def zbF (x : Int32) : Int32 := (fun v2 : Int32 => (fun v4 : Int32 => (fun v6 : Int32 => (fun v8 : Int32 => ((v8 + zsh v8 16) &&& (63 : Int32))) (v6 + zsh v6 8)) ((v4 + zsh v4 4) &&& (252645135 : Int32))) ((v2 &&& (858993459 : Int32)) + (zsh v2 2 &&& (858993459 : Int32)))) (x - (zsh x 1 &&& (1431655765 : Int32)))
theorem zb_bc : ∀ m, m < 256 → zbF (nI m) = nI (m / 2 ^ 0 % 2 + m / 2 ^ 1 % 2 + m / 2 ^ 2 % 2 + m / 2 ^ 3 % 2 + m / 2 ^ 4 % 2 + m / 2 ^ 5 % 2 + m / 2 ^ 6 % 2 + m / 2 ^ 7 % 2) := by decide +kernel
theorem u_bitCount {m : Nat} (hm : m < 256) {Q : Int32 → Prop} (h : Q (nI (m / 2 ^ 0 % 2 + m / 2 ^ 1 % 2 + m / 2 ^ 2 % 2 + m / 2 ^ 3 % 2 + m / 2 ^ 4 % 2 + m / 2 ^ 5 % 2 + m / 2 ^ 6 % 2 + m / 2 ^ 7 % 2))) : wJ6_bitCount_0f7a4 (nI m) Q := by
  unfold wJ6_bitCount_0f7a4
  intro v1 e1 v2 e2 v3 e3 v4 e4 v5 e5 v6 e6 v7 e7 v8 e8 v9 e9 v10 e10
  subst e1 e2 e3 e4 e5 e6 e7 e8 e9 e10
  show Q (zbF (nI m))
  rw [zb_bc m hm]
  exact h
theorem u_bitCount_m {f : Nat → Nat} (hf : ∀ k, k < 8 → f k ≤ 1) {Q : Int32 → Prop} (h : Q (nI (zs f 8))) : wJ6_bitCount_0f7a4 (nI (zm f)) Q := by
  refine u_bitCount (zm_lt hf) ?_
  rw [zm_bit hf (by decide : 0 < 8), zm_bit hf (by decide : 1 < 8), zm_bit hf (by decide : 2 < 8), zm_bit hf (by decide : 3 < 8), zm_bit hf (by decide : 4 < 8), zm_bit hf (by decide : 5 < 8), zm_bit hf (by decide : 6 < 8), zm_bit hf (by decide : 7 < 8), ← zs_8]
  exact h
theorem u6_contains {m k : Nat} (hm : m < 512) (hk : k < 9) {Q : Int32 → Prop} (h1 : m / 2 ^ k % 2 = 1 → Q 1) (h0 : ¬ m / 2 ^ k % 2 = 1 → Q 0) : wX6_contains (nI m) (nI k) Q := by
  unfold wX6_contains
  exact bri (zb_shr1 hm hk) h1 h0
theorem u6_isFrame {x : Int32} {Q : Int32 → Prop} (h1 : ∀ f, 97 ≤ f → f ≤ 102 → x = nI f → Q 1) (h0 : (∀ f, 97 ≤ f → f ≤ 102 → x ≠ nI f) → Q 0) : wX6_isFrame x Q := by
  unfold wX6_isFrame
  refine ⟨fun h => h0 (fun f h2 h3 e => ?_), fun h => ⟨fun h4 => h0 (fun f h2 h3 e => ?_), fun h4 => ?_⟩⟩
  · subst e; exact nI_nlt (a := f) (b := 97) h2 (by omega) h
  · subst e; exact nI_nlt (a := 102) (b := f) h3 (by decide) h4
  · have e1 : ((97 : Int32)).toInt = 97 := by decide
    have e2 : ((102 : Int32)).toInt = 102 := by decide
    rw [Int32.lt_iff_toInt_lt] at h h4
    refine h1 x.toInt.toNat (by omega) (by omega) ?_
    rw [zI_eq, nI_toInt (by omega)]; omega
section U5
variable {M : sM} {i : Nat} {a : Nat → Nat}
theorem zm_p0 (hb : rB a) {x : Nat} (hx : x < 6) : ∀ k, k < 8 → zp a x k 0 ≤ 1 := fun k hk => (hb.2.2.2.1 x k hx hk).1
theorem zm_p1 (hb : rB a) {x : Nat} (hx : x < 6) : ∀ k, k < 8 → zp a x k 1 ≤ 1 := fun k hk => (hb.2.2.2.1 x k hx hk).2.1
theorem zm_d2 (hb : rB a) : ∀ k, k < 8 → zd a k 2 ≤ 1 := fun k hk => (hb.2.1 k hk).2.2.1
theorem zm_d3 (hb : rB a) : ∀ k, k < 8 → zd a k 3 ≤ 1 := fun k hk => by have := hb.2.1 k hk; omega
theorem zm_e1 (hb : rB a) : ∀ k, k < 8 → ze a k 1 ≤ 1 := fun k hk => (hb.2.2.2.2.1 k hk).2.1
theorem u5_hasDoor_t (hS : rS M i a) (hb : rB a) {k : Nat} (hk : k < a 0) {Q : Int32 → Prop} (h : Q 1) : wX5_hasDoor i (nI k) M Q := by
  have hD := rB_D hb
  unfold wX5_hasDoor
  rw [rS_D hS]
  exact brf (nI_pos (by omega)) (brf (nI_ge hk (by omega)) h)
theorem u5_hasDoor_f (hS : rS M i a) (hb : rB a) {x : Int32} (hx : ∀ k, k < a 0 → x ≠ nI k) {Q : Int32 → Prop} (h : Q 0) : wX5_hasDoor i x M Q := by
  have hD := rB_D hb
  unfold wX5_hasDoor
  rw [rS_D hS]
  refine ⟨fun _ => h, fun h1 => ⟨fun _ => h, fun h2 => ?_⟩⟩
  rcases pk_ix x (n := a 0) (by omega) with q | q | ⟨j, q, e⟩
  · exact absurd q h1
  · exact absurd q h2
  · exact absurd e (hx j q)
theorem u5_hasExaminer_t (hS : rS M i a) (hb : rB a) {k : Nat} (hk : k < a 1) {Q : Int32 → Prop} (h : Q 1) : wX5_hasExaminer i (nI k) M Q := by
  have hD := rB_E hb
  unfold wX5_hasExaminer
  rw [rS_E hS]
  exact brf (nI_pos (by omega)) (brf (nI_ge hk (by omega)) h)
theorem u5_hasExaminer_f (hS : rS M i a) (hb : rB a) {x : Int32} (hx : ∀ k, k < a 1 → x ≠ nI k) {Q : Int32 → Prop} (h : Q 0) : wX5_hasExaminer i x M Q := by
  have hD := rB_E hb
  unfold wX5_hasExaminer
  rw [rS_E hS]
  refine ⟨fun _ => h, fun h1 => ⟨fun _ => h, fun h2 => ?_⟩⟩
  rcases pk_ix x (n := a 1) (by omega) with q | q | ⟨j, q, e⟩
  · exact absurd q h1
  · exact absurd q h2
  · exact absurd e (hx j q)
theorem u5_hasPair_t (hS : rS M i a) (hb : rB a) {x k : Nat} (hx : x < a 1) (hk : k < a 0) {Q : Int32 → Prop} (h : Q 1) : wX5_hasPair i (nI x) (nI k) M Q := by
  unfold wX5_hasPair
  exact u5_hasExaminer_t hS hb hx (br1 (u5_hasDoor_t hS hb hk (br1 h)))
theorem u5_hasPair_f (hS : rS M i a) (hb : rB a) {x y : Int32} (hx : (∀ k, k < a 1 → x ≠ nI k) ∨ ∀ k, k < a 0 → y ≠ nI k) {Q : Int32 → Prop} (h : Q 0) : wX5_hasPair i x y M Q := by
  have hE := rB_E hb
  unfold wX5_hasPair
  rcases zI_idx x (a 1) (by omega) with ⟨j, hj, rfl⟩ | ⟨-, q⟩
  · refine u5_hasExaminer_t hS hb hj (br1 (u5_hasDoor_f hS hb ?_ (br0 h)))
    rcases hx with hx | hx
    · exact absurd rfl (hx j hj)
    · exact hx
  · exact u5_hasExaminer_f hS hb q (br0 h)
theorem u5_hasEntry_t (hS : rS M i a) (hb : rB a) {n : Nat} (hk : n < a 3) {Q : Int32 → Prop} (h : Q 1) : wX5_hasEntry i (nI (n + 1)) M Q := by
  have hN := rB_N hb
  unfold wX5_hasEntry
  rw [rS_N hS]
  exact brf (nI_nlt (a := n + 1) (b := 1) (by omega) (by omega)) (brf (nI_nlt (by omega) (by omega)) h)
theorem u5_hasEntry_f (hS : rS M i a) (hb : rB a) {x : Int32} (hx : ∀ n, n < a 3 → x ≠ nI (n + 1)) {Q : Int32 → Prop} (h : Q 0) : wX5_hasEntry i x M Q := by
  have hN := rB_N hb
  unfold wX5_hasEntry
  rw [rS_N hS]
  refine ⟨fun _ => h, fun h1 => ⟨fun _ => h, fun h2 => ?_⟩⟩
  have e1 : ((1 : Int32)).toInt = 1 := by decide
  rw [Int32.lt_iff_toInt_lt] at h1 h2
  rw [nI_toInt (by omega)] at h2
  refine absurd ?_ (hx (x.toInt.toNat - 1) (by omega))
  rw [zI_eq, nI_toInt (by omega)]; omega
theorem u5_assigned (hS : rS M i a) (hb : rB a) {x k : Nat} (hx : x < 6) (hk : k < 8) {Q : Int32 → Prop} (h1 : zp a x k 1 = 1 → Q 1) (h0 : zp a x k 1 = 0 → Q 0) : wX5_assigned i (nI x) (nI k) M Q := by
  unfold wX5_assigned
  refine ⟨vin hx (by decide), ?_⟩
  rw [cl (by omega), rS_as hS hx]
  have hl := zm_lt (zm_p1 hb hx)
  have e := zm_bit (zm_p1 hb hx) hk
  have e1 := zm_p1 hb hx k hk
  refine bri (zb_and0 (by omega) (by omega)) (fun z => h0 ?_) (fun z => h1 ?_)
  · rw [e] at z; exact z
  · rw [e] at z; omega
theorem u5_neutral (hS : rS M i a) (hb : rB a) {x k : Nat} (hx : x < 6) (hk : k < 8) {Q : Int32 → Prop} (h1 : zneu a x k → Q 1) (h0 : ¬ zneu a x k → Q 0) : wX5_neutral i (nI x) (nI k) M Q := by
  unfold wX5_neutral
  refine ⟨vin hx (by decide), vin hk (by decide), ?_⟩
  rw [cl (by omega), cl (by omega), rS_xf hS hx, rS_df hS hk, rS_co hS hx]
  have b1 := hb.2.1 k hk
  have b2 := hb.2.2.1 x hx
  have hl := zm_lt (zm_p0 hb hx)
  have e := zm_bit (zm_p0 hb hx) hk
  refine bri (nI_eq (by omega) (by omega)) (fun z => h0 (fun y => y.1 z)) (fun z => ⟨vin hx (by decide), ?_⟩)
  refine bri (zb_and0 (by omega) (by omega)) (fun y => h1 ⟨z, ?_⟩) (fun y => h0 (fun w => y ?_))
  · rw [e] at y; exact y
  · rw [e]; exact w.2
theorem u5_canJudge (hS : rS M i a) (hb : rB a) {x k : Nat} (hx : x < 6) (hk : k < 8) {Q : Int32 → Prop} (h1 : zjud a x k → Q 1) (h0 : ¬ zjud a x k → Q 0) : wX5_canJudge i (nI x) (nI k) M Q := by
  unfold wX5_canJudge
  have b1 := hb.2.1 k hk
  have b2 := hb.2.2.1 x hx
  refine u5_neutral hS hb hx hk (fun z => br1 ?_) (fun z => br0 (h0 (fun y => z y.1)))
  refine ⟨vin hx (by decide), vin hk (by decide), ?_⟩
  rw [cl (by omega), cl (by omega), rS_xs hS hx, rS_dt hS hk]
  exact u6_contains (by omega) (by omega) (fun y => br1 (h1 ⟨z, y⟩)) (fun y => br0 (h0 (fun w => y w.2)))
theorem u5_loadOf (hS : rS M i a) (hb : rB a) {x : Nat} (hx : x < 6) {Q : Int32 → Prop} (h : Q (nI (zload a x))) : wX5_loadOf i (nI x) M Q := by
  unfold wX5_loadOf
  refine ⟨vin hx (by decide), ?_⟩
  rw [cl (by omega), rS_as hS hx]
  exact u_bitCount_m (zm_p1 hb hx) h
theorem u5_freeCapacity (hS : rS M i a) (hb : rB a) {x : Nat} (hx : x < 6) {Q : Int32 → Prop} (h : Q (nI (zx a x 2 - zload a x))) : wX5_freeCapacity i (nI x) M Q := by
  unfold wX5_freeCapacity
  refine ⟨vin hx (by decide), u5_loadOf hS hb hx ?_⟩
  rw [cl (by omega), rS_xc hS hx, pk_sub (zload_le hb hx)]
  exact h
theorem u5_gradeCount (hS : rS M i a) (hb : rB a) {k : Nat} (hk : k < 8) {Q : Int32 → Prop} (h : Q (nI (zgc a k))) : wX5_gradeCount i (nI k) M Q := by
  have hD := rB_D hb
  have hE := rB_E hb
  have key : ∀ m x, x + m = a 1 → lX5_gradeCount_4 i (nI k) M Q (m + 1) (nI (zs (fun x => if 0 < zp a x k 2 then 1 else 0) x)) (nI x) := by
    intro m
    induction m with
    | zero =>
      intro x hx
      unfold lX5_gradeCount_4
      rw [rS_E hS]
      have e : x = a 1 := by omega
      subst e
      exact brt (nI_le (Nat.le_refl _) (by omega)) h
    | succ m ih =>
      intro x hx
      unfold lX5_gradeCount_4
      rw [rS_E hS]
      refine brf (nI_ge (by omega) (by omega)) ?_
      have hx6 : x < 6 := by omega
      refine ⟨vin hx6 (by decide), vin hk (by decide), ?_⟩
      rw [cl (by omega), cl (by omega), rS_g hS hx6 hk]
      have b := hb.2.2.2.1 x k hx6 hk
      refine bri (nP_n1 (by omega)) (fun e => ?_) (fun e => ?_)
      · intro v0 ev0
        subst ev0
        have q := ih (x + 1) (by omega)
        rw [zs_succ, if_neg (by omega), Nat.add_zero, nI_succ] at q
        exact q
      · intro v0 ev0 v1 ev1
        subst ev0 ev1
        have q := ih (x + 1) (by omega)
        rw [zs_succ, if_pos (by omega), nI_succ, nI_succ] at q
        exact q
  unfold wX5_gradeCount
  exact ⟨a 1 + 1, key (a 1) 0 (by omega)⟩
theorem u5_assignedCount (hS : rS M i a) (hb : rB a) {k : Nat} (hk : k < 8) {Q : Int32 → Prop} (h : Q (nI (zcnt a k))) : wX5_assignedCount i (nI k) M Q := by
  have hD := rB_D hb
  have hE := rB_E hb
  have key : ∀ m x, x + m = a 1 → lX5_assignedCount_4 i (nI k) M Q (m + 1) (nI (zs (fun x => zp a x k 1) x)) (nI x) := by
    intro m
    induction m with
    | zero =>
      intro x hx
      unfold lX5_assignedCount_4
      rw [rS_E hS]
      have e : x = a 1 := by omega
      subst e
      rw [zcnt_E hb hk]
      exact brt (nI_le (Nat.le_refl _) (by omega)) h
    | succ m ih =>
      intro x hx
      unfold lX5_assignedCount_4
      rw [rS_E hS]
      refine brf (nI_ge (by omega) (by omega)) ?_
      have hx6 : x < 6 := by omega
      refine u5_assigned hS hb hx6 hk (fun e => br1 ?_) (fun e => br0 ?_)
      · intro v0 ev0 v1 ev1
        subst ev0 ev1
        have q := ih (x + 1) (by omega)
        rw [zs_succ, e, nI_succ, nI_succ] at q
        exact q
      · intro v0 ev0
        subst ev0
        have q := ih (x + 1) (by omega)
        rw [zs_succ, e, Nat.add_zero, nI_succ] at q
        exact q
  unfold wX5_assignedCount
  exact ⟨a 1 + 1, key (a 1) 0 (by omega)⟩
theorem u5_neutralCount (hS : rS M i a) (hb : rB a) {k : Nat} (hk : k < 8) {Q : Int32 → Prop} (h : Q (nI (zs (fun x => if zneu a x k then 1 else 0) (a 1)))) : wX5_neutralCount i (nI k) M Q := by
  have hD := rB_D hb
  have hE := rB_E hb
  have key : ∀ m x, x + m = a 1 → lX5_neutralCount_4 i (nI k) M Q (m + 1) (nI (zs (fun x => if zneu a x k then 1 else 0) x)) (nI x) := by
    intro m
    induction m with
    | zero =>
      intro x hx
      unfold lX5_neutralCount_4
      rw [rS_E hS]
      have e : x = a 1 := by omega
      subst e
      exact brt (nI_le (Nat.le_refl _) (by omega)) h
    | succ m ih =>
      intro x hx
      unfold lX5_neutralCount_4
      rw [rS_E hS]
      refine brf (nI_ge (by omega) (by omega)) ?_
      have hx6 : x < 6 := by omega
      refine u5_neutral hS hb hx6 hk (fun e => br1 ?_) (fun e => br0 ?_)
      · intro v0 ev0 v1 ev1
        subst ev0 ev1
        have q := ih (x + 1) (by omega)
        rw [zs_succ, if_pos e, nI_succ, nI_succ] at q
        exact q
      · intro v0 ev0
        subst ev0
        have q := ih (x + 1) (by omega)
        rw [zs_succ, if_neg e, Nat.add_zero, nI_succ] at q
        exact q
  unfold wX5_neutralCount
  exact ⟨a 1 + 1, key (a 1) 0 (by omega)⟩
theorem u5_gradeSum (hS : rS M i a) (hb : rB a) {k : Nat} (hk : k < 8) {Q : Int32 → Prop} (h : Q (nI (zgs a k))) : wX5_gradeSum i (nI k) M Q := by
  have hD := rB_D hb
  have hE := rB_E hb
  have key : ∀ m x, x + m = a 1 → lX5_gradeSum_4 i (nI k) M Q (m + 1) (nI (zs (fun x => zp a x k 2 - 1) x)) (nI x) := by
    intro m
    induction m with
    | zero =>
      intro x hx
      unfold lX5_gradeSum_4
      rw [rS_E hS]
      have e : x = a 1 := by omega
      subst e
      exact brt (nI_le (Nat.le_refl _) (by omega)) h
    | succ m ih =>
      intro x hx
      unfold lX5_gradeSum_4
      rw [rS_E hS]
      refine brf (nI_ge (by omega) (by omega)) ?_
      have hx6 : x < 6 := by omega
      refine ⟨vin hx6 (by decide), vin hk (by decide), ?_⟩
      rw [cl (by omega), cl (by omega), rS_g hS hx6 hk]
      have b := hb.2.2.2.1 x k hx6 hk
      refine bri (nP_n1 (by omega)) (fun e => ?_) (fun e => ⟨vin hx6 (by decide), vin hk (by decide), ?_⟩)
      · intro v0 ev0
        subst ev0
        have q := ih (x + 1) (by omega)
        rw [zs_succ, e, Nat.add_zero, nI_succ] at q
        exact q
      · intro v0 e0 v1 e1
        subst e0 e1
        have q := ih (x + 1) (by omega)
        rw [zs_succ, ← nI_add, ← nP_of (by omega), nI_succ] at q
        exact q
  unfold wX5_gradeSum
  exact ⟨a 1 + 1, key (a 1) 0 (by omega)⟩
theorem zlo_p (g : Nat → Nat) (x : Nat) (h : 0 < g x) (hg : g x < 100) : nI (zlo g (x + 1)) = if nP (g x) < nI (zlo g x) then nP (g x) else nI (zlo g x) := by
  have hz : ∀ x, zlo g x ≤ 20 := by
    intro x
    induction x with
    | zero => exact Nat.le_refl 20
    | succ n ih => unfold zlo; split <;> omega
  have hz := hz x
  rw [nP_of h]
  show nI (if 0 < g x ∧ g x - 1 < zlo g x then g x - 1 else zlo g x) = _
  by_cases q : g x - 1 < zlo g x
  · rw [if_pos ⟨h, q⟩, if_pos ((nI_ltI (by omega) (by omega)).mpr q)]
  · rw [if_neg (fun z => q z.2), if_neg (fun z => q ((nI_ltI (by omega) (by omega)).mp z))]
theorem zhi_p (g : Nat → Nat) (x : Nat) (h : 0 < g x) (hg : ∀ y, y ≤ x → g y < 100) : nI (zhi g (x + 1)) = if nI (zhi g x) < nP (g x) then nP (g x) else nI (zhi g x) := by
  have hz : ∀ y, y ≤ x → zhi g y ≤ 100 := by
    intro y hy
    induction y with
    | zero => exact Nat.zero_le _
    | succ n ih =>
      have := ih (by omega)
      have := hg n (by omega)
      unfold zhi; split <;> omega
  have hz := hz x (Nat.le_refl _)
  have hg := hg x (Nat.le_refl _)
  rw [nP_of h]
  show nI (if 0 < g x ∧ zhi g x < g x - 1 then g x - 1 else zhi g x) = _
  by_cases q : zhi g x < g x - 1
  · rw [if_pos ⟨h, q⟩, if_pos ((nI_ltI (by omega) (by omega)).mpr q)]
  · rw [if_neg (fun z => q z.2), if_neg (fun z => q ((nI_ltI (by omega) (by omega)).mp z))]
theorem zlo_n (g : Nat → Nat) (x : Nat) (h : g x = 0) : zlo g (x + 1) = zlo g x := by
  show (if 0 < g x ∧ g x - 1 < zlo g x then g x - 1 else zlo g x) = _
  rw [if_neg (by omega)]
theorem zhi_n (g : Nat → Nat) (x : Nat) (h : g x = 0) : zhi g (x + 1) = zhi g x := by
  show (if 0 < g x ∧ zhi g x < g x - 1 then g x - 1 else zhi g x) = _
  rw [if_neg (by omega)]
theorem u5_median (hS : rS M i a) (hb : rB a) {k : Nat} (hk : k < 8) {Q : Int32 → Prop} (h : Q (nP (zres a k))) : wX5_median i (nI k) M Q := by
  have hE := rB_E hb
  have h1 := zgc_le hb hk
  have h2 := zgs_le hb hk
  unfold wX5_median
  refine u5_gradeCount hS hb hk (bri (nI_leI (a := 2) (by decide) (by omega)) (fun z => u5_gradeSum hS hb hk ?_) (fun z => ?_))
  · refine bri (nI_eq (b := 2) (by omega) (by decide)) (fun y => ?_) (fun y => ?_)
    · have e : zres a k = zgs a k / 2 + 1 := by unfold zres; rw [if_neg (by omega), if_pos y]
      rw [e, nP_S] at h
      rw [show (2 : Int32) = nI 2 from rfl, pk_div (by omega) (by decide) (by decide)]
      exact h
    · have e : zres a k = zgs a k - zlo (fun x => zp a x k 2) (a 1) - zhi (fun x => zp a x k 2) (a 1) + 1 := by unfold zres; rw [if_neg (by omega), if_neg y]
      have q := z_lohi' hb hk z
      have key : ∀ m x, x + m = a 1 → lX5_median_38 i (nI k) M (fun x4_38k x5_38k => Q ((nI (zgs a k) - x4_38k) - x5_38k)) (m + 1) (nI (zlo (fun x => zp a x k 2) x)) (nI (zhi (fun x => zp a x k 2) x)) (nI x) := by
        intro m
        induction m with
        | zero =>
          intro x hx
          unfold lX5_median_38
          rw [rS_E hS]
          have e2 : x = a 1 := by omega
          subst e2
          refine brt (nI_le (Nat.le_refl _) (by omega)) ?_
          rw [pk_sub (by omega), pk_sub (by omega)]
          rw [e, nP_S] at h
          exact h
        | succ m ih =>
          intro x hx
          unfold lX5_median_38
          rw [rS_E hS]
          refine brf (nI_ge (by omega) (by omega)) ?_
          have hx6 : x < 6 := by omega
          refine ⟨vin hx6 (by decide), vin hk (by decide), ?_⟩
          rw [cl (by omega), cl (by omega), rS_g hS hx6 hk]
          have b := hb.2.2.2.1 x k hx6 hk
          intro v8 e8
          subst e8
          have q2 := ih (x + 1) (by omega)
          refine bri (nP_n1 (by omega)) (fun w => ?_) (fun w => ?_)
          · intro v e10
            subst e10
            rw [zlo_n (fun x => zp a x k 2) x w, zhi_n (fun x => zp a x k 2) x w, nI_succ] at q2
            exact q2
          · intro v11 e11 v12 e12 v13 e13
            subst e11 e12 e13
            rw [zlo_p (fun x => zp a x k 2) x (show 0 < zp a x k 2 by omega) (show zp a x k 2 < 100 by omega), zhi_p (fun x => zp a x k 2) x (show 0 < zp a x k 2 by omega) (fun y hy => show zp a y k 2 < 100 by have := hb.2.2.2.1 y k (by omega) hk; omega), nI_succ] at q2
            exact q2
      exact ⟨a 1 + 1, key (a 1) 0 (by omega)⟩
  · have e : zres a k = 0 := by unfold zres; rw [if_pos (by omega)]
    rw [e, nP_0] at h
    exact h
theorem u5_hasPassed (hS : rS M i a) (hb : rB a) {k : Nat} (hk : k < 8) {Q : Int32 → Prop} (h1 : zpas a k → Q 1) (h0 : ¬ zpas a k → Q 0) : wX5_hasPassed i (nI k) M Q := by
  unfold wX5_hasPassed
  have b := zres_le hb hk
  have b2 := rB_T hb
  refine u5_median hS hb hk ?_
  rw [rS_T hS]
  refine bri (nP_n1 (by omega)) (fun z => h0 (fun y => ?_)) (fun z => bri (nP_ltI (by omega) (by omega)) (fun y => h0 (fun w => ?_)) (fun y => h1 ⟨?_, ?_⟩))
  · omega
  · omega
  · omega
  · omega
theorem u5_deservesDegree (hS : rS M i a) (hb : rB a) {k : Nat} (hk : k < 8) {Q : Int32 → Prop} (h1 : zent a k → Q 1) (h0 : ¬ zent a k → Q 0) : wX5_deservesDegree i (nI k) M Q := by
  unfold wX5_deservesDegree
  rw [rS_gr hS]
  have hl := zm_lt (zm_d3 hb)
  have e := zm_bit (zm_d3 hb) hk
  refine u5_hasPassed hS hb hk (fun z => br1 (h1 (.inl z))) (fun z => br0 (u6_contains (by omega) (by omega) (fun y => br1 (h1 (.inr ?_))) (fun y => br0 (h0 (fun w => ?_)))))
  · rw [e] at y; exact y
  · rw [e] at y
    rcases w with w | w
    · exact z w
    · exact y w
theorem u5_entryOf (hS : rS M i a) (hb : rB a) {k : Nat} (hk : k < 8) {Q : Int32 → Prop} (h1 : 0 < zd a k 4 → Q (nI (zd a k 4))) (h0 : zd a k 4 = 0 → Q (-1)) : wX5_entryOf i (nI k) M Q := by
  have hN := rB_N hb
  have bk := hb.2.1 k hk
  have key : ∀ m n, n + m = a 3 → (∀ j, j < n → zd a k 4 ≠ j + 1) → lX5_entryOf_2 i (nI k) M Q (Q (-1)) (m + 1) (nI (n + 1)) := by
    intro m
    induction m with
    | zero =>
      intro n hn hj
      unfold lX5_entryOf_2
      rw [rS_N hS]
      refine brt (nI_lt (by omega) (by omega)) (h0 ?_)
      rcases Nat.eq_zero_or_pos (zd a k 4) with q | q
      · exact q
      · exact absurd (show zd a k 4 = (zd a k 4 - 1) + 1 by omega) (hj (zd a k 4 - 1) (by omega))
    | succ m ih =>
      intro n hn hj
      unfold lX5_entryOf_2
      rw [rS_N hS]
      have b := hb.2.2.2.2.1 n (by omega)
      have bn := b.2.2.2 (by omega)
      have e1 : nI (n + 1) - (1 : Int32) = nI n := nI_pred n
      rw [e1, cl (by omega), rS_en hS (by omega)]
      refine brf (nI_nlt (by omega) (by omega)) ⟨vin (by omega) (by decide), bri (nI_eq (by omega) (by omega)) (fun z => ?_) (fun z => ?_)⟩
      · rw [← z, bn.2] at h1
        exact h1 (by omega)
      · intro v e
        subst e
        have q := ih (n + 1) (by omega) (fun j hj2 => ?_)
        · rw [nI_succ (n + 1)] at q
          exact q
        · rcases Nat.lt_or_ge j n with w | w
          · exact hj j w
          · have w2 : j = n := by omega
            subst w2
            intro y
            apply z
            have := bk.2.2.2.2.2.2.2 (by omega)
            rw [y] at this
            exact this
  unfold wX5_entryOf
  exact ⟨a 3 + 1, key (a 3) 0 (by omega) (fun j hj => absurd hj (Nat.not_lt_zero j))⟩
/-- the door holds a degree that is not revoked -/
abbrev zhld (a : Nat → Nat) (k : Nat) : Prop := 0 < zd a k 4 ∧ ze a (zd a k 4 - 1) 1 = 0
theorem z_twice {m n : Nat} : 2 * m / 2 ^ (n + 1) % 2 = m / 2 ^ n % 2 := by
  rw [Nat.pow_succ, Nat.mul_comm (2 ^ n) 2, ← Nat.div_div_eq_div_mul, Nat.mul_div_cancel_left _ (by decide : 0 < 2)]
theorem zrv (hb : rB a) {n : Nat} (hn : n < 8) : 2 * zm (fun n => ze a n 1) / 2 ^ (n + 1) % 2 = ze a n 1 := by
  rw [z_twice]
  exact zm_bit (zm_e1 hb) hn
theorem u5_holdsDegree (hS : rS M i a) (hb : rB a) {k : Nat} (hk : k < 8) {Q : Int32 → Prop} (h1 : zhld a k → Q 1) (h0 : ¬ zhld a k → Q 0) : wX5_holdsDegree i (nI k) M Q := by
  unfold wX5_holdsDegree
  have hN := rB_N hb
  have bk := hb.2.1 k hk
  have hl := zm_lt (zm_e1 hb)
  rw [rS_rv hS]
  refine u5_entryOf hS hb hk (fun z => brf ?_ ?_) (fun z => brt rfl (h0 (by omega)))
  · intro y
    rw [← nP_0, ← nP_S, nP_eq (by omega) (by decide)] at y
    omega
  · have e := zrv hb (n := zd a k 4 - 1) (by omega)
    rw [show zd a k 4 - 1 + 1 = zd a k 4 by omega] at e
    have b := hb.2.2.2.2.1 (zd a k 4 - 1) (by omega)
    refine u6_contains (by omega) (by omega) (fun y => brf (by decide) (h0 ?_)) (fun y => brt rfl (h1 ⟨z, ?_⟩))
    · rw [e] at y; omega
    · rw [e] at y; omega
/-- a place in the order of ranks: the greater the better -/
def zkey (a : Nat → Nat) (k : Nat) : Nat := (zres a k * 4 + (if zres a k = 0 then 0 else zgc a k)) * 8 + (7 - k)
theorem u5_ranksBefore (hS : rS M i a) (hb : rB a) {k j : Nat} (hk : k < 8) (hj : j < 8) {Q : Int32 → Prop} (h1 : zkey a j < zkey a k → Q 1) (h0 : ¬ zkey a j < zkey a k → Q 0) : wX5_ranksBefore i (nI k) (nI j) M Q := by
  unfold wX5_ranksBefore
  have b1 := zres_le hb hk
  have b2 := zres_le hb hj
  have b3 := zgc_le hb hk
  have b4 := zgc_le hb hj
  unfold zkey at h1 h0
  refine u5_median hS hb hk (u5_median hS hb hj (bri (nP_eq (by omega) (by omega)) (fun z => u5_gradeCount hS hb hk (u5_gradeCount hS hb hj (bri (nP_n1 (by omega)) (fun y => bri (nI_leI (by omega) (by omega)) (fun w => h0 ?_) (fun w => h1 ?_)) (fun y => bri (nI_eq (by omega) (by omega)) (fun w => bri (nI_leI (by omega) (by omega)) (fun u => h0 ?_) (fun u => h1 ?_)) (fun w => bri (nI_leI (by omega) (by omega)) (fun u => h0 ?_) (fun u => h1 ?_)))))) (fun z => bri (nP_le (by omega) (by omega)) (fun w => h0 ?_) (fun w => h1 ?_))))
  · rw [if_pos y, if_pos (by omega)]; omega
  · rw [if_pos y, if_pos (by omega)]; omega
  · rw [if_neg y, if_neg (by omega)]; omega
  · rw [if_neg y, if_neg (by omega)]; omega
  · rw [if_neg y, if_neg (by omega)]; omega
  · rw [if_neg y, if_neg (by omega)]; omega
  · split <;> split <;> omega
  · split <;> split <;> omega
def zrk (a : Nat → Nat) (k : Nat) : Nat := zs (fun j => if zkey a k < zkey a j then 1 else 0) (a 0)
theorem u5_rankOf (hS : rS M i a) (hb : rB a) {k : Nat} (hk : k < 8) {Q : Int32 → Prop} (h : Q (nI (zrk a k))) : wX5_rankOf i (nI k) M Q := by
  have hD := rB_D hb
  have hE := rB_E hb
  have key : ∀ m x, x + m = a 0 → lX5_rankOf_4 i (nI k) M Q (m + 1) (nI (zs (fun j => if zkey a k < zkey a j then 1 else 0) x)) (nI x) := by
    intro m
    induction m with
    | zero =>
      intro x hx
      unfold lX5_rankOf_4
      rw [rS_D hS]
      have e : x = a 0 := by omega
      subst e
      exact brt (nI_le (Nat.le_refl _) (by omega)) h
    | succ m ih =>
      intro x hx
      unfold lX5_rankOf_4
      rw [rS_D hS]
      refine brf (nI_ge (by omega) (by omega)) ?_
      have hx6 : x < 8 := by omega
      refine u5_ranksBefore hS hb hx6 hk (fun e => br1 ?_) (fun e => br0 ?_)
      · intro v0 ev0 v1 ev1
        subst ev0 ev1
        have q := ih (x + 1) (by omega)
        rw [zs_succ, if_pos e, nI_succ, nI_succ] at q
        exact q
      · intro v0 ev0
        subst ev0
        have q := ih (x + 1) (by omega)
        rw [zs_succ, if_neg e, Nat.add_zero, nI_succ] at q
        exact q
  unfold wX5_rankOf
  exact ⟨a 0 + 1, key (a 0) 0 (by omega)⟩
theorem zrk_le (a : Nat → Nat) (k : Nat) : zrk a k ≤ a 0 := by
  unfold zrk
  have := zs_bound (f := fun j => if zkey a k < zkey a j then 1 else 0) (c := 1) (n := a 0) (fun j _ => by show (if _ then 1 else 0) ≤ 1; split <;> omega)
  omega
theorem u5_doorRanked (hS : rS M i a) (hb : rB a) {r : Int32} {Q : Int32 → Prop} (h1 : ∀ k, k < a 0 → r = nI (zrk a k) → (∀ j, j < k → r ≠ nI (zrk a j)) → Q (nI k)) (h0 : (∀ k, k < a 0 → r ≠ nI (zrk a k)) → Q (-1)) : wX5_doorRanked i r M Q := by
  have hD := rB_D hb
  have key : ∀ m k, k + m = a 0 → (∀ j, j < k → r ≠ nI (zrk a j)) → lX5_doorRanked_2 i r M Q (Q (-1)) (m + 1) (nI k) := by
    intro m
    induction m with
    | zero =>
      intro k hk hj
      unfold lX5_doorRanked_2
      rw [rS_D hS]
      exact brt (nI_le (by omega) (by omega)) (h0 (fun j hj2 => hj j (by omega)))
    | succ m ih =>
      intro k hk hj
      unfold lX5_doorRanked_2
      rw [rS_D hS]
      refine brf (nI_ge (by omega) (by omega)) (u5_rankOf hS hb (by omega) ⟨fun e => h1 k (by omega) e.symm hj, fun e => ?_⟩)
      intro v ev
      subst ev
      have q := ih (k + 1) (by omega) (fun j hj2 => ?_)
      · rw [nI_succ] at q; exact q
      · rcases Nat.lt_or_ge j k with w | w
        · exact hj j w
        · have w2 : j = k := by omega
          subst w2
          exact fun y => e y.symm
  unfold wX5_doorRanked
  exact ⟨a 0 + 1, key (a 0) 0 (by omega) (fun j hj => absurd hj (Nat.not_lt_zero j))⟩
end U5
