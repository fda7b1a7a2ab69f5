/-! Ranks, totals, means. -/
theorem zs_lt {f g : Nat → Nat} {j : Nat} : ∀ {n : Nat}, (∀ k, k < n → f k ≤ g k) → j < n → f j < g j → zs f n < zs g n
  | 0, _, h, _ => absurd h (Nat.not_lt_zero _)
  | n + 1, h, hj, hl => by
    rw [zs_succ, zs_succ]
    rcases Nat.lt_or_ge j n with q | q
    · have h1 := zs_lt (n := n) (fun k hk => h k (by omega)) q hl
      have h2 := h n (by omega)
      omega
    · have e : j = n := by omega
      subst e
      have h1 := zs_le (n := j) (f := f) (g := g) (fun k hk => h k (by omega))
      omega
theorem zs_split (f : Nat → Nat) (m : Nat) : ∀ n, zs f (m + n) = zs f m + zs (fun j => f (m + j)) n
  | 0 => rfl
  | n + 1 => by
    show zs f (m + n) + f (m + n) = zs f m + (zs (fun j => f (m + j)) n + f (m + n))
    rw [zs_split f m n]; omega
theorem zs_prod (f : Nat → Nat) (n : Nat) : ∀ m, zs f (n * m) = zs (fun i => zs (fun j => f (n * i + j)) n) m
  | 0 => rfl
  | m + 1 => by rw [Nat.mul_succ, zs_split, zs_prod f n m, zs_succ]
theorem zs_one (n : Nat) : zs (fun _ => 1) n = n := by
  induction n with
  | zero => rfl
  | succ n ih => rw [zs_succ, ih]
section RK
variable {a : Nat → Nat}
theorem zrk_lt {k : Nat} (hk : k < a 0) : zrk a k < a 0 := by
  have h := zs_lt (f := fun j => if zkey a k < zkey a j then 1 else 0) (g := fun _ => 1) (n := a 0) (j := k) (fun j _ => by show (if _ then 1 else 0) ≤ 1; split <;> omega) hk (by show (if zkey a k < zkey a k then 1 else 0) < 1; rw [if_neg (by omega)]; decide)
  rw [zs_one] at h
  exact h
theorem zrk_mono {k j : Nat} (hj : j < a 0) (h : zkey a k < zkey a j) : zrk a j < zrk a k := by
  refine zs_lt (j := j) (fun i _ => ?_) hj ?_
  · show (if zkey a j < zkey a i then 1 else 0) ≤ (if zkey a k < zkey a i then 1 else 0)
    split
    · rw [if_pos (by omega)]; exact Nat.le_refl 1
    · exact Nat.zero_le _
  · show (if zkey a j < zkey a j then 1 else 0) < (if zkey a k < zkey a j then 1 else 0)
    rw [if_neg (by omega), if_pos h]; decide
theorem zkey_inj {k j : Nat} (hk : k < 8) (hj : j < 8) (h : zkey a k = zkey a j) : k = j := by
  unfold zkey at h
  omega
theorem zrk_inj (hD : a 0 ≤ 8) {k j : Nat} (hk : k < a 0) (hj : j < a 0) (h : zrk a k = zrk a j) : k = j := by
  rcases Nat.lt_trichotomy (zkey a k) (zkey a j) with q | q | q
  · have := zrk_mono hj q; omega
  · exact zkey_inj (by omega) (by omega) q
  · have := zrk_mono hk q; omega
theorem zs_ind {p : Nat → Nat} {v : Nat} : ∀ n, (∀ k j, k < n → j < n → p k = p j → k = j) → zs (fun k => if p k = v then 1 else 0) n ≤ 1
  | 0, _ => Nat.zero_le 1
  | n + 1, h => by
    rw [zs_succ]
    have ih := zs_ind (p := p) (v := v) n (fun k j hk hj => h k j (by omega) (by omega))
    by_cases c : p n = v
    · rw [if_pos c, zs_zero]
      · decide
      · intro k hk
        exact if_neg (fun z => by have := h k n (by omega) (by omega) (z.trans c.symm); omega)
    · rw [if_neg c]; omega
theorem zs_ones {p : Nat → Nat} {n k : Nat} (h : p k < n) : zs (fun v => if p k = v then 1 else 0) n = 1 := by
  have e := zs_upd (fun _ => 0) (p k) 1 h
  rw [zs_zero (f := fun _ => 0) (fun _ _ => rfl)] at e
  rw [zs_cong (g := fun v => if v = p k then 1 else 0) (fun v _ => by
    by_cases c : p k = v
    · rw [if_pos c, if_pos c.symm]
    · rw [if_neg c, if_neg (fun z => c z.symm)])]
  omega
theorem zrk_surj (hD : a 0 ≤ 8) {v : Nat} (hv : v < a 0) : ∃ k, k < a 0 ∧ zrk a k = v := by
  have h1 : zs (fun v => zs (fun k => if zrk a k = v then 1 else 0) (a 0)) (a 0) = a 0 := by
    rw [zs_swap, zs_cong (g := fun _ => 1) (fun k hk => zs_ones (zrk_lt hk)), zs_one]
  have h2 : 0 < zs (fun k => if zrk a k = v then 1 else 0) (a 0) := by
    rcases Nat.eq_zero_or_pos (zs (fun k => if zrk a k = v then 1 else 0) (a 0)) with z | z
    · exfalso
      have h3 := zs_lt (f := fun v => zs (fun k => if zrk a k = v then 1 else 0) (a 0)) (g := fun _ => 1) (n := a 0) (j := v) (fun v _ => zs_ind _ (fun k j hk hj => zrk_inj hD hk hj)) hv (by show _ < 1; rw [z]; decide)
      rw [h1, zs_one] at h3
      omega
    · exact z
  obtain ⟨k, hk, h3⟩ := zs_pos h2
  refine ⟨k, hk, ?_⟩
  by_cases c : zrk a k = v
  · exact c
  · have h3 : 0 < (if zrk a k = v then 1 else 0) := h3
    rw [if_neg c] at h3
    exact absurd h3 (by decide)
/-- the door at a rank -/
def zat (a : Nat → Nat) (r : Nat) (n : Nat) : Nat := zs (fun k => if zrk a k = r then k else 0) n
theorem zat_t (hD : a 0 ≤ 8) {k : Nat} (hk : k < a 0) {n : Nat} (hn : n ≤ a 0) (h : k < n) : zat a (zrk a k) n = k := by
  unfold zat
  have e := zs_upd (fun _ => 0) k k h
  rw [zs_zero (f := fun _ => 0) (fun _ _ => rfl)] at e
  rw [zs_cong (g := fun v => if v = k then k else 0) (fun j hj => ?_)]
  · omega
  · by_cases c : j = k
    · subst c; rw [if_pos rfl, if_pos rfl]
    · rw [if_neg c, if_neg (fun z => c (zrk_inj hD (by omega) hk z))]
theorem zat_f {r n : Nat} (h : ∀ k, k < n → zrk a k ≠ r) : zat a r n = 0 := zs_zero (fun k hk => if_neg (h k hk))
end RK
def s_doorAtRank (g : zG) (r : Int32) : Nat × Nat × zG := if zok r (g.1 0) then (0, zat g.1 r.toNatClampNeg (g.1 0), g) else (1, 0, g)
theorem s_doorAtRank_G {g : zG} (h : GI g) (x : Int32) : GI (s_doorAtRank g x).2.2 := by unfold s_doorAtRank; split <;> exact h
theorem L_doorAtRank {M : sM} {g : zG} (hC : CI M g) (hG : GI g) (x : Int32) {Q : Int32 → sM → Prop} {X : Nat → sM → Prop} (h : kC M (s_doorAtRank g x) Q X) : wL_doorAtRank x M Q X := by
  have hD := rB_D hG.1
  unfold wL_doorAtRank wX6_doorAtRank wX6_requireThere
  refine u5_doorRanked hC.1 hG.1 (fun k hk e _ => ?_) (fun e => ?_)
  · have hr := zrk_lt hk
    subst e
    rw [show s_doorAtRank g (nI (zrk g.1 k)) = (0, k, g) by unfold s_doorAtRank; rw [if_pos (zok_n hr (by omega)), cl (by omega), zat_t hD hk (Nat.le_refl _) hk]] at h
    refine brf ?_ (kC_ok h hC (by omega))
    intro z
    rw [zI_eq, nI_toInt (by omega), show ((-1 : Int32)).toInt = -1 by decide] at z
    omega
  · have hv : ¬ zok x (g.1 0) := fun z => by
      obtain ⟨v, hv, rfl⟩ := zok_t z (by omega)
      obtain ⟨k, hk, e2⟩ := zrk_surj hD hv
      exact e k hk (by rw [e2])
    rw [show s_doorAtRank g x = (1, 0, g) from if_neg hv] at h
    exact brt rfl (brt rfl (kC_no h (by decide) hC))
/-! totals -/
def zasg (a : Nat → Nat) : Nat := zs (fun x => zload a x) (a 1)
theorem zasg_D {a : Nat → Nat} (hb : rB a) : zs (fun k => zcnt a k) (a 0) = zasg a := by
  unfold zasg
  rw [← zs_ext (f := fun k => zcnt a k) hb.1.1 (fun k h1 h2 => zs_zero (fun x hx => by have := hb.2.2.2.1 x k hx h2; omega)), ← zs_ext (f := fun x => zload a x) hb.1.2.1 (fun x h1 h2 => zs_zero (fun k hk => by have := hb.2.2.2.1 x k h2 hk; omega))]
  exact zs_swap (fun k x => zp a x k 1) 6 8
theorem zasg_le {a : Nat → Nat} (hb : rB a) : zasg a ≤ 24 := by
  have hE := rB_E hb
  have h1 := zs_bound (f := fun x => zload a x) (c := 4) (n := a 1) (fun x hx => by have := zload_le hb (x := x) (by omega); have := hb.2.2.1 x (by omega); show zload a x ≤ 4; omega)
  unfold zasg
  omega
theorem zall_D {a : Nat → Nat} (hb : rB a) : zs (fun k => zgs a k) (a 0) = zall a := by
  have hE := rB_E hb
  have e : zall a = zs (fun x => zs (fun k => zp a x k 2 - 1) 8) 6 := by
    unfold zall
    rw [show 48 = 8 * 6 from rfl, zs_prod]
    exact zs_cong (fun x _ => zs_cong (fun k _ => by unfold zp; rfl))
  rw [e, zs_swap, zs_ext (m := a 0) hb.1.1 (fun k h1 h2 => zs_zero (fun x hx => by have := hb.2.2.2.1 x k hx h2; omega))]
  refine zs_cong (fun k hk => ?_)
  unfold zgs
  exact (zs_ext hb.1.2.1 (fun x h1 h2 => by have := hb.2.2.2.1 x k h2 (by have := hb.1.1; omega); omega)).symm
def zgn (a : Nat → Nat) : Nat := zs (fun k => zgc a k) (a 0)
theorem zgn_le {a : Nat → Nat} (hb : rB a) : zgn a ≤ 24 := by
  have hD := rB_D hb
  have h1 := zs_bound (f := fun k => zgc a k) (c := 3) (n := a 0) (fun k hk => zgc_le hb (by omega))
  unfold zgn
  omega
theorem zall_le {a : Nat → Nat} (hb : rB a) : zall a ≤ 480 := by
  have hD := rB_D hb
  rw [← zall_D hb]
  have h1 := zs_bound (f := fun k => zgs a k) (c := 60) (n := a 0) (fun k hk => by have := zgs_le hb (k := k) (by omega); have := zgc_le hb (k := k) (by omega); show zgs a k ≤ 60; omega)
  omega
theorem L_assignments {M : sM} {g : zG} (hC : CI M g) (hG : GI g) {Q : Int32 → Prop} (h : Q (nI (zasg g.1))) : wX6_assignments M Q := by
  have hD := rB_D hG.1
  have hE := rB_E hG.1
  have key : ∀ m x, x + m = g.1 1 → lX6_assignments_4 M Q (m + 1) (nI (zs (fun x => zload g.1 x) x)) (nI x) := by
    intro m
    induction m with
    | zero =>
      intro x hx
      unfold lX6_assignments_4
      rw [rS_E hC.1]
      have e : x = g.1 1 := by omega
      subst e
      exact brt (nI_le (Nat.le_refl _) (by omega)) h
    | succ m ih =>
      intro x hx
      unfold lX6_assignments_4
      rw [rS_E hC.1]
      refine brf (nI_ge (by omega) (by omega)) ?_
      refine u5_loadOf hC.1 hG.1 (by omega) ?_
      intro v3 e3 v4 e4
      subst e3 e4
      have q := ih (x + 1) (by omega)
      rw [zs_succ, ← nI_add, nI_succ] at q
      exact q
  unfold wX6_assignments
  exact ⟨g.1 1 + 1, key (g.1 1) 0 (by omega)⟩
theorem L_assignmentsByDoors {M : sM} {g : zG} (hC : CI M g) (hG : GI g) {Q : Int32 → Prop} (h : Q (nI (zasg g.1))) : wX6_assignmentsByDoors M Q := by
  have hD := rB_D hG.1
  have hE := rB_E hG.1
  have key : ∀ m x, x + m = g.1 0 → lX6_assignmentsByDoors_4 M Q (m + 1) (nI (zs (fun x => zcnt g.1 x) x)) (nI x) := by
    intro m
    induction m with
    | zero =>
      intro x hx
      unfold lX6_assignmentsByDoors_4
      rw [rS_D hC.1]
      have e : x = g.1 0 := by omega
      subst e
      rw [zasg_D hG.1]
      exact brt (nI_le (Nat.le_refl _) (by omega)) h
    | succ m ih =>
      intro x hx
      unfold lX6_assignmentsByDoors_4
      rw [rS_D hC.1]
      refine brf (nI_ge (by omega) (by omega)) ?_
      refine u5_assignedCount hC.1 hG.1 (by omega) ?_
      intro v3 e3 v4 e4
      subst e3 e4
      have q := ih (x + 1) (by omega)
      rw [zs_succ, ← nI_add, nI_succ] at q
      exact q
  unfold wX6_assignmentsByDoors
  exact ⟨g.1 0 + 1, key (g.1 0) 0 (by omega)⟩
theorem L_gradeTotal {M : sM} {g : zG} (hC : CI M g) (hG : GI g) {Q : Int64 → Prop} (h : Q (lN (zall g.1))) : wX6_gradeTotal M Q := by
  have hD := rB_D hG.1
  have key : ∀ m x, x + m = g.1 0 → lX6_gradeTotal_4 M Q (m + 1) (lN (zs (fun k => zgs g.1 k) x)) (nI x) := by
    intro m
    induction m with
    | zero =>
      intro x hx
      unfold lX6_gradeTotal_4
      rw [rS_D hC.1]
      have e : x = g.1 0 := by omega
      subst e
      rw [zall_D hG.1]
      exact brt (nI_le (Nat.le_refl _) (by omega)) h
    | succ m ih =>
      intro x hx
      unfold lX6_gradeTotal_4
      rw [rS_D hC.1]
      refine brf (nI_ge (by omega) (by omega)) (u5_gradeSum hC.1 hG.1 (by omega) ?_)
      have b1 := zgs_le hG.1 (k := x) (by omega)
      have b2 := zgc_le hG.1 (k := x) (by omega)
      intro v3 e3 v4 e4
      rw [nI_l (by omega)] at e3
      rw [ia1] at e4
      subst e3 e4
      have q := ih (x + 1) (by omega)
      rw [zs_succ] at q
      have e : lN (zs (fun k => zgs g.1 k) x) + lN (zgs g.1 x) = lN (zs (fun k => zgs g.1 k) x + zgs g.1 x) := Int64.ofNat_add _ _ |>.symm
      rw [e]
      exact q
  unfold wX6_gradeTotal
  intro v e
  subst e
  exact ⟨g.1 0 + 1, key (g.1 0) 0 (by omega)⟩
theorem l2d_i {s : Nat} (h : s < 2 ^ 31) : FP.l2d (lN s) = FP.i2d (nI s) := by
  show Jvm.FP.Core.l2d (lN s) = Jvm.FP.Core.i2d (nI s)
  unfold Jvm.FP.Core.l2d Jvm.FP.Core.i2d
  rw [lN_toInt h, nI_toInt h]
theorem zd_nan : ∀ c, c < 25 → 0 < c → ∀ s, s < 481 → (FP.ddiv (FP.i2d (nI s)) (FP.i2d (nI c))) &&& 0x7fffffffffffffff ≤ 0x7ff0000000000000 := by decide +kernel
theorem zf_nan : ∀ c, c < 9 → 0 < c → ∀ s, s < 9 → ((FP.fdiv (FP.i2f (nI s)) (FP.i2f (nI c))) &&& 0x7fffffff ≤ 0x7f800000) ∧ ((FP.f2d (FP.fdiv (FP.i2f (nI s)) (FP.i2f (nI c)))) &&& 0x7fffffffffffffff ≤ 0x7ff0000000000000) := by decide +kernel
def kCD {α : Type} (M : sM) (c : Nat) (v : α) (g : zG) (Q : α → sM → Prop) (X : Nat → sM → Prop) : Prop := ∀ M', fC M M' → CI M' g → (c = 0 → Q v M') ∧ (c ≠ 0 → X c M')
def zmean (a : Nat → Nat) : UInt64 := FP.ddiv (FP.i2d (nI (zall a))) (FP.i2d (nI (zgn a)))
theorem L_meanGrade {M : sM} {g : zG} (hC : CI M g) (hG : GI g) {Q : UInt64 → sM → Prop} {X : Nat → sM → Prop} (h : kCD M (if zgn g.1 = 0 then 1 else 0) (zmean g.1) g Q X) : wL_meanGrade M Q X := by
  have hD := rB_D hG.1
  have b1 := zgn_le hG.1
  have b2 := zall_le hG.1
  unfold wL_meanGrade wX6_meanGrade
  have key : ∀ (K : Int32 → Prop), K (nI (zgn g.1)) → ∀ m x, x + m = g.1 0 → lX6_meanGrade_4 M K (m + 1) (nI (zs (fun k => zgc g.1 k) x)) (nI x) := by
    intro K hK m
    induction m with
    | zero =>
      intro x hx
      unfold lX6_meanGrade_4
      rw [rS_D hC.1]
      have e : x = g.1 0 := by omega
      subst e
      exact brt (nI_le (Nat.le_refl _) (by omega)) hK
    | succ m ih =>
      intro x hx
      unfold lX6_meanGrade_4
      rw [rS_D hC.1]
      refine brf (nI_ge (by omega) (by omega)) (u5_gradeCount hC.1 hG.1 (by omega) ?_)
      intro v3 e3 v4 e4
      subst e3 e4
      have q := ih (x + 1) (by omega)
      rw [zs_succ, ← nI_add, nI_succ] at q
      exact q
  refine ⟨g.1 0 + 1, key _ ?_ (g.1 0) 0 (by omega)⟩
  refine bri (nI_eq (b := 0) (by omega) (by decide)) (fun z => ?_) (fun z => ?_)
  · rw [if_pos z] at h
    exact brt rfl ((h M (fC_r M) hC).2 (by decide))
  · rw [if_neg z] at h
    refine L_gradeTotal hC hG ?_
    rw [l2d_i (by omega)]
    refine ⟨zd_nan _ (by omega) (by omega) _ (by omega), ?_⟩
    exact (h M (fC_r M) hC).1 rfl
def zpn (a : Nat → Nat) : Nat := zs (fun k => if zpas a k then 1 else 0) (a 0)
def zwr (a : Nat → Nat) : Nat := zs (fun k => if 0 < zres a k then 1 else 0) (a 0)
theorem zpn_le {a : Nat → Nat} (hb : rB a) : zpn a ≤ 8 := by
  have hD := rB_D hb
  have h1 := zs_bound (f := fun k => if zpas a k then 1 else 0) (c := 1) (n := a 0) (fun k hk => by show (if _ then 1 else 0) ≤ 1; split <;> omega)
  unfold zpn
  omega
theorem zwr_le {a : Nat → Nat} (hb : rB a) : zwr a ≤ 8 := by
  have hD := rB_D hb
  have h1 := zs_bound (f := fun k => if 0 < zres a k then 1 else 0) (c := 1) (n := a 0) (fun k hk => by show (if _ then 1 else 0) ≤ 1; split <;> omega)
  unfold zwr
  omega
def zshare (a : Nat → Nat) : UInt32 := FP.fdiv (FP.i2f (nI (zpn a))) (FP.i2f (nI (zwr a)))
theorem L_passShare {M : sM} {g : zG} (hC : CI M g) (hG : GI g) {Q : UInt32 → sM → Prop} {X : Nat → sM → Prop} (h : kCD M (if zwr g.1 = 0 then 1 else 0) (zshare g.1) g Q X) : wL_passShare M Q X := by
  have hD := rB_D hG.1
  have b1 := zpn_le hG.1
  have b2 := zwr_le hG.1
  unfold wL_passShare wX6_passShare
  have key : ∀ (K : Int32 → Int32 → Prop), K (nI (zpn g.1)) (nI (zwr g.1)) → ∀ m x, x + m = g.1 0 → lX6_passShare_6 M K (m + 1) (nI (zs (fun k => if zpas g.1 k then 1 else 0) x)) (nI (zs (fun k => if 0 < zres g.1 k then 1 else 0) x)) (nI x) := by
    intro K hK m
    induction m with
    | zero =>
      intro x hx
      unfold lX6_passShare_6
      rw [rS_D hC.1]
      have e : x = g.1 0 := by omega
      subst e
      exact brt (nI_le (Nat.le_refl _) (by omega)) hK
    | succ m ih =>
      intro x hx
      unfold lX6_passShare_6
      rw [rS_D hC.1]
      have hx8 : x < 8 := by omega
      have b := zres_le hG.1 hx8
      have q := ih (x + 1) (by omega)
      have tail : ∀ w, w = zs (fun k => if 0 < zres g.1 k then 1 else 0) (x + 1) → jX6_passShare_32 M (nI (zs (fun k => if zpas g.1 k then 1 else 0) x)) (nI x) (fun x1_6 x2_6 x3_6 => lX6_passShare_6 M K (m + 1) x1_6 x2_6 x3_6) (nI w) := by
        intro w ew
        subst ew
        unfold jX6_passShare_32
        refine u5_hasPassed hC.1 hG.1 hx8 (fun z => br1 ?_) (fun z => br0 ?_)
        · intro v3 e3 v4 e4
          rw [ia1] at e3 e4
          subst e3 e4
          rw [zs_succ (f := fun k => if zpas g.1 k then 1 else 0), if_pos z] at q
          exact q
        · intro v4 e4
          rw [ia1] at e4
          subst e4
          rw [zs_succ (f := fun k => if zpas g.1 k then 1 else 0), if_neg z, Nat.add_zero] at q
          exact q
      refine brf (nI_ge (by omega) (by omega)) (u5_median hC.1 hG.1 hx8 (bri (nP_n1 (by omega)) (fun z => tail _ ?_) (fun z => ?_)))
      · rw [zs_succ, if_neg (by omega), Nat.add_zero]
      · intro v14 e14
        rw [ia1] at e14
        subst e14
        exact tail _ (by rw [zs_succ, if_pos (by omega)])
  refine ⟨g.1 0 + 1, key _ ?_ (g.1 0) 0 (by omega)⟩
  refine bri (nI_eq (b := 0) (by omega) (by decide)) (fun z => ?_) (fun z => ?_)
  · rw [if_pos z] at h
    exact brt rfl ((h M (fC_r M) hC).2 (by decide))
  · rw [if_neg z] at h
    have n := zf_nan (zwr g.1) (by omega) (by omega) (zpn g.1) (by omega)
    refine ⟨n.1, ?_⟩
    exact (h M (fC_r M) hC).1 rfl
