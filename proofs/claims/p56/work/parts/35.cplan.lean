/-! The class's planner: survey, chains of exchanges, the size of a greatest plan. -/
def zG0 (a : Nat → Nat) (x k : Nat) : Prop := x < a 1 ∧ zcnt a k < 3 ∧ zjud a x k ∧ zp a x k 1 = 0
def zC0 (a : Nat → Nat) (x : Nat) : Nat := if x < a 1 then zx a x 2 - zload a x else 0
noncomputable def zgb (G : Nat → Nat → Prop) (k : Nat) : Nat → Nat := fun x => zif (x < 6 ∧ G x k) 1 0
theorem zgb_1 (G : Nat → Nat → Prop) (k : Nat) : ∀ x, x < 8 → zgb G k x ≤ 1 := fun x _ => by
  unfold zgb
  rcases Classical.em (x < 6 ∧ G x k) with q | q
  · rw [zif_t q]; omega
  · rw [zif_f q]; omega
theorem zm_64 {f : Nat → Nat} (h : ∀ k, k < 8 → f k ≤ 1) (h6 : f 6 = 0) (h7 : f 7 = 0) : zm f < 64 := by
  have h0 := h 0 (by decide)
  have h1 := h 1 (by decide)
  have h2 := h 2 (by decide)
  have h3 := h 3 (by decide)
  have h4 := h 4 (by decide)
  have h5 := h 5 (by decide)
  unfold zm; omega
theorem zgb_64 (G : Nat → Nat → Prop) (k : Nat) : zm (zgb G k) < 64 := zm_64 (zgb_1 G k) (zif_f (by omega) _ _) (zif_f (by omega) _ _)
/-- candidates, rooms and number of doors -/
def pC (M : sM) (G : Nat → Nat → Prop) (c : Nat → Nat) (d : Nat) : Prop := M 3 0 = nI d ∧ (∀ k, k < d → M 4 k = nI (zm (zgb G k))) ∧ ∀ x, x < 6 → M 5 x = nI (c x)
theorem pC_fr {M M' : sM} {G : Nat → Nat → Prop} {c : Nat → Nat} {d lo hi : Nat} (h : pC M G c d) (f : fr lo hi M M') (hl : 6 ≤ lo) : pC M' G c d := by
  refine ⟨?_, fun k hk => ?_, fun x hx => ?_⟩
  · rw [f 3 (by omega)]; exact h.1
  · rw [f 4 (by omega)]; exact h.2.1 k hk
  · rw [f 5 (by omega)]; exact h.2.2 x hx
theorem rS_pl {M M' : sM} {i : Nat} {a : Nat → Nat} (h : rS M i a) {lo hi : Nat} (f : fr lo hi M M') (hh : hi ≤ 46) : rS M' i a := rS_fr h (fun b _ => f _ (by unfold sw_st; omega))
theorem u3_candidatesFor {M : sM} {i : Nat} {a : Nat → Nat} (hS : rS M i a) (hb : rB a) {k : Nat} (hk : k < 8) {Q : Int32 → Prop} (h : Q (nI (zm (zgb (zG0 a) k)))) : wX3_candidatesFor i (nI k) M Q := by
  have hE := rB_E hb
  unfold wX3_candidatesFor
  refine u5_assignedCount hS hb hk ?_
  refine ⟨fun z => ?_, fun z => ?_⟩
  · have z3 : zcnt a k < 3 := (nI_ltI (b := 3) (by have := zcnt_le hb hk; omega) (by decide)).mp z
    have key : ∀ m x, x + m = a 1 → lX3_candidatesFor_15 i (nI k) M Q (m + 1) (nI (zm (fun y => if y < x then zgb (zG0 a) k y else 0))) (nI x) := by
      intro m
      induction m with
      | zero =>
        intro x hx
        unfold lX3_candidatesFor_15
        rw [rS_E hS]
        have e : x = a 1 := by omega
        subst e
        refine brt (nI_le (Nat.le_refl _) (by omega)) ?_
        rw [zm_cong (g := zgb (zG0 a) k) (fun y _ => ?_)]
        · exact h
        · show (if y < a 1 then zgb (zG0 a) k y else 0) = zgb (zG0 a) k y
          split
          · rfl
          · rename_i q
            exact (zif_f (fun w => q w.2.1) _ _).symm
      | succ m ih =>
        intro x hx
        unfold lX3_candidatesFor_15
        rw [rS_E hS]
        refine brf (nI_ge (by omega) (by omega)) ?_
        have hx6 : x < 6 := by omega
        have q := ih (x + 1) (by omega)
        have no : ¬ zG0 a x k → zm (fun y => if y < x + 1 then zgb (zG0 a) k y else 0) = zm (fun y => if y < x then zgb (zG0 a) k y else 0) := fun w => zm_cong (fun y _ => by
          show (if y < x + 1 then zgb (zG0 a) k y else 0) = (if y < x then zgb (zG0 a) k y else 0)
          by_cases e1 : y < x
          · rw [if_pos e1, if_pos (by omega)]
          · rw [if_neg e1]
            by_cases e2 : y = x
            · subst e2; rw [if_pos (by omega)]; exact zif_f (fun v => w v.2) _ _
            · rw [if_neg (by omega)])
        refine u5_canJudge hS hb hx6 hk (fun w1 => br1 ?_) (fun w1 => br0 ?_)
        · refine u5_assigned hS hb hx6 hk (fun w2 => br1 ?_) (fun w2 => br0 ?_)
          · intro v1 e1
            subst e1
            rw [no (fun w => by have := w.2.2.2; omega), nI_succ] at q
            exact q
          · intro v1 e1 v2 e2
            subst e1 e2
            have e3 : zm (fun y => if y < x + 1 then zgb (zG0 a) k y else 0) = zm (fun y => if y < x then zgb (zG0 a) k y else 0) + 2 ^ x := by
              rw [← zm_set (f := fun y => if y < x then zgb (zG0 a) k y else 0) (k := x) (by omega) (if_neg (by omega))]
              refine zm_cong (fun y _ => ?_)
              show (if y < x + 1 then zgb (zG0 a) k y else 0) = (if y = x then 1 else if y < x then zgb (zG0 a) k y else 0)
              by_cases e1 : y = x
              · subst e1
                rw [if_pos (by omega), if_pos rfl]
                exact zif_t ⟨hx6, by omega, z3, w1, w2⟩ _ _
              · rw [if_neg e1]
                by_cases e2 : y < x
                · rw [if_pos e2, if_pos (by omega)]
                · rw [if_neg e2, if_neg (by omega)]
            rw [e3, nI_succ] at q
            rw [zb_or _ ?_ x (by omega) ?_]
            · exact q
            · have := zm_lt (f := fun y => if y < x then zgb (zG0 a) k y else 0) (fun y hy => by
                show (if y < x then zgb (zG0 a) k y else 0) ≤ 1
                split
                · exact zgb_1 _ _ y hy
                · omega)
              omega
            · rw [zm_bit (f := fun y => if y < x then zgb (zG0 a) k y else 0) (fun y hy => by
                show (if y < x then zgb (zG0 a) k y else 0) ≤ 1
                split
                · exact zgb_1 _ _ y hy
                · omega) (by omega)]
              exact if_neg (by omega)
        · intro v1 e1
          subst e1
          rw [no (fun w => w1 w.2.2.1), nI_succ] at q
          exact q
    have q := key (a 1) 0 (by omega)
    exact ⟨a 1 + 1, q⟩
  · have z3 : ¬ zcnt a k < 3 := fun w => z ((nI_ltI (b := 3) (by have := zcnt_le hb hk; omega) (by decide)).mpr w)
    have e : zm (zgb (zG0 a) k) = 0 := by
      exact zm_cong (g := fun _ => 0) (fun y _ => zif_f (fun w => z3 w.2.2.1) _ _)
    rw [e] at h
    exact h
theorem u3_survey {M : sM} {i : Nat} {a : Nat → Nat} (hS : rS M i a) (hb : rB a) {Q : sM → Prop} (h : ∀ M', fr 3 6 M M' → pC M' (zG0 a) (zC0 a) (a 0) → Q M') : wX3_survey i M Q := by
  have hE := rB_E hb
  have hD := rB_D hb
  unfold wX3_survey
  intro M1 e1
  have f1 : fr 3 6 M M1 := by rw [e1]; exact fr_s M _ _ (by decide)
  have d1 : M1 3 0 = nI (a 0) := by rw [e1, ms_e]; exact rS_D hS
  have key2 : ∀ m k, k + m = a 0 → ∀ M2, fr 3 6 M M2 → M2 3 0 = nI (a 0) → (∀ j, j < k → M2 4 j = nI (zm (zgb (zG0 a) j))) → (∀ x, x < 6 → M2 5 x = nI (zC0 a x)) → lX3_survey_47 i (fun M_47k => Q M_47k) (m + 1) (nI k) M2 := by
    intro m
    induction m with
    | zero =>
      intro k hk M2 f2 d2 c2 r2
      unfold lX3_survey_47
      have e : k = a 0 := by omega
      subst e
      rw [d2]
      exact brt (nI_le (Nat.le_refl _) (by omega)) (h M2 f2 ⟨d2, c2, r2⟩)
    | succ m ih =>
      intro k hk M2 f2 d2 c2 r2
      unfold lX3_survey_47
      rw [d2]
      refine brf (nI_ge (by omega) (by omega)) ?_
      have hk8 : k < 8 := by omega
      refine u3_candidatesFor (rS_pl hS f2 (by decide)) hb hk8 ⟨vin hk8 (by decide), ?_⟩
      intro M3 e3 v ev
      subst ev
      rw [cl (by omega)] at e3
      have q := ih (k + 1) (by omega) M3 (fr_t f2 (by rw [e3]; exact fr_s M2 _ _ (by decide))) (by rw [e3, sw_ms_n _ _ _ (by decide)]; exact d2) (fun j hj => ?_) (fun x hx => by rw [e3, sw_ms_n _ _ _ (by decide)]; exact r2 x hx)
      · rw [nI_succ] at q; exact q
      · rw [e3, ms_a]
        by_cases e : j = k
        · subst e; rw [if_pos ⟨rfl, rfl⟩]
        · rw [if_neg (fun z => e z.2)]; exact c2 j (by omega)
  have key1 : ∀ m x, x + m = 6 → ∀ M2, fr 3 6 M M2 → M2 3 0 = nI (a 0) → (∀ y, y < x → M2 5 y = nI (zC0 a y)) → lX3_survey_10 i (fun M_10k => ∃ n47, lX3_survey_47 i (fun M_47k => Q M_47k) n47 (0 : Int32) M_10k) (m + 1) (nI x) M2 := by
    intro m
    induction m with
    | zero =>
      intro x hx M2 f2 d2 r2
      unfold lX3_survey_10
      have e : x = 6 := by omega
      subst e
      refine brt (nI_le (b := 6) (Nat.le_refl _) (by omega)) ?_
      exact ⟨a 0 + 1, key2 (a 0) 0 (by omega) M2 f2 d2 (fun j hj => absurd hj (Nat.not_lt_zero _)) r2⟩
    | succ m ih =>
      intro x hx M2 f2 d2 r2
      unfold lX3_survey_10
      refine brf (nI_ge (b := 6) (by omega) (by omega)) ?_
      have hx6 : x < 6 := by omega
      have hS2 := rS_pl hS f2 (by decide)
      have go : ∀ (w : Int32), w = nI (zC0 a x) → ∀ M3 : sM, M3 = sw_ms M2 5 (nI x).toNatClampNeg w → lX3_survey_10 i (fun M_10k => ∃ n47, lX3_survey_47 i (fun M_47k => Q M_47k) n47 (0 : Int32) M_10k) (m + 1) (nI x + 1) M3 := by
        intro w ew M3 e3
        subst ew
        rw [cl (by omega)] at e3
        have q := ih (x + 1) (by omega) M3 (fr_t f2 (by rw [e3]; exact fr_s M2 _ _ (by decide))) (by rw [e3, sw_ms_n _ _ _ (by decide)]; exact d2) (fun y hy => ?_)
        · rw [nI_succ] at q; exact q
        · rw [e3, ms_a]
          by_cases e : y = x
          · subst e; rw [if_pos ⟨rfl, rfl⟩]
          · rw [if_neg (fun z => e z.2)]; exact r2 y (by omega)
      by_cases hv : x < a 1
      · refine u5_hasExaminer_t hS2 hb hv (br1 (u5_freeCapacity hS2 hb hx6 ⟨vin hx6 (by decide), ?_⟩))
        intro M3 e3 v ev
        subst ev
        exact go _ (by unfold zC0; rw [if_pos hv]) M3 e3
      · refine u5_hasExaminer_f hS2 hb (fun k hk e => ?_) (br0 ⟨vin hx6 (by decide), ?_⟩)
        · have := (nI_eq (by omega) (by omega)).mp e; omega
        · intro M3 e3 v ev
          subst ev
          exact go _ (by unfold zC0; rw [if_neg hv]; rfl) M3 e3
  exact ⟨7, key1 6 0 rfl M1 f1 d1 (fun y hy => absurd hy (Nat.not_lt_zero _))⟩
/-! the doors given so far: 0, or the examiner and one more -/
def zgt (gv : Nat → Nat) : Nat → Nat → Nat := fun x k => if gv k = x + 1 then 1 else 0
def zgu (gv : Nat → Nat) (k v : Nat) : Nat → Nat := fun j => if j = k then v else gv j
theorem zgt_c {gv : Nat → Nat} {k : Nat} (h : gv k ≤ 6) : zmc (zgt gv) k = if gv k = 0 then 0 else 1 := by
  unfold zmc
  rcases Nat.eq_zero_or_pos (gv k) with q | q
  · rw [if_pos q]
    exact zs_zero (fun x _ => if_neg (by omega))
  · rw [if_neg (by omega)]
    have h1 := zs_upd (fun _ => 0) (gv k - 1) 1 (n := 6) (by omega)
    have h2 : zs (fun x => zgt gv x k) 6 = zs (fun x => if x = gv k - 1 then 1 else 0) 6 := zs_cong (fun x _ => by
      show (if gv k = x + 1 then 1 else 0) = if x = gv k - 1 then 1 else 0
      by_cases e : gv k = x + 1
      · rw [if_pos e, if_pos (by omega)]
      · rw [if_neg e, if_neg (by omega)])
    rw [h2]
    have h3 : zs (fun _ => 0) 6 = 0 := rfl
    omega
theorem zgt_r {gv : Nat → Nat} {k v x : Nat} (hk : k < 8) : zmr (zgt (zgu gv k v)) x + (if gv k = x + 1 then 1 else 0) = zmr (zgt gv) x + (if v = x + 1 then 1 else 0) := by
  have h1 := zs_upd (fun j => if gv j = x + 1 then 1 else 0) k (if v = x + 1 then 1 else 0) hk
  have h2 : zmr (zgt (zgu gv k v)) x = zs (fun j => if j = k then (if v = x + 1 then 1 else 0) else if gv j = x + 1 then 1 else 0) 8 := zs_cong (fun j _ => by
    show (if (if j = k then v else gv j) = x + 1 then 1 else 0) = if j = k then (if v = x + 1 then 1 else 0) else if gv j = x + 1 then 1 else 0
    by_cases e : j = k
    · rw [if_pos e, if_pos e]
    · rw [if_neg e, if_neg e])
  rw [h2]; exact h1
theorem zgt_r8 (gv : Nat → Nat) (x : Nat) : zmr (zgt gv) x ≤ 8 := by
  have := zs_bound (f := fun k => zgt gv x k) (n := 8) (c := 1) (fun k _ => by show (if gv k = x + 1 then 1 else 0) ≤ 1; split <;> omega)
  unfold zmr; omega
/-- the class's rows hold them -/
def pA (M : sM) (gv : Nat → Nat) : Prop := (∀ k, k < 8 → M 7 k = nP (gv k)) ∧ (∀ x, x < 6 → M 8 x = nI (zmr (zgt gv) x)) ∧ ∀ k, k < 8 → gv k ≤ 6
theorem pA_fr {M M' : sM} {gv : Nat → Nat} {lo hi : Nat} (h : pA M gv) (f : fr lo hi M M') (hl : 9 ≤ lo) : pA M' gv := by
  refine ⟨fun k hk => ?_, fun x hx => ?_, h.2.2⟩
  · rw [f 7 (by omega)]; exact h.1 k hk
  · rw [f 8 (by omega)]; exact h.2.1 x hx
theorem u3_exch {G : Nat → Nat → Prop} {k0 : Nat} {rk : Nat → Nat} {K : sM → Prop} : ∀ (n : Nat) (S : Nat → Prop) (gv : Nat → Nat) (M : sM) (x step : Nat), step + n < 8 → (∀ k, k < 8 → M 7 k = nP (gv k)) → (∀ k, k < 8 → gv k ≤ 6) → S x → rk x ≤ n →
    (∀ y, S y → y < 6 ∧ ∃ k, k < 8 ∧ M 9 y = nI k ∧ G y k ∧ ((k = k0 ∧ gv k = 0) ∨ ∃ z, gv k = z + 1 ∧ S z ∧ rk z < rk y)) →
    (∀ M' gv', fr 7 8 M M' → (∀ k, k < 8 → M' 7 k = nP (gv' k)) → (∀ k, k < 8 → gv' k ≤ 6) → (∀ k, k < 8 → zmc (zgt gv') k = zmc (zgt gv) k + if k = k0 then 1 else 0) → (∀ y, zmr (zgt gv') y = zmr (zgt gv) y + if y = x then 1 else 0) → (∀ k y, k < 8 → gv' k = y + 1 → gv k = y + 1 ∨ G y k) → K M') →
    lX3_exchange_14 K (n + 2) (nI x) (nI step) M
  | n, S, gv, M, x, step, hst, hM, h6, hSx, hrk, hS, h => by
    obtain ⟨hx6, k, hk, e9, hG, hc⟩ := hS x hSx
    unfold lX3_exchange_14
    refine brf (nI_ge (b := 8) (by omega) (by omega)) ?_
    refine brf (fun z => ?_) ⟨vin hx6 (by decide), ?_⟩
    · rw [← nP_0, eq_comm, nP_eqI (by decide) (by omega)] at z; omega
    intro v7 e7
    rw [cl (by omega), e9] at e7
    subst e7
    refine ⟨vin hk (by decide), ?_⟩
    intro v9 e9'
    rw [cl (by omega), hM k hk] at e9'
    subst e9'
    refine ⟨vin hk (by decide), ?_⟩
    intro M2 e2 v12 e12
    rw [cl (by omega)] at e2
    subst e12
    have f2 : fr 7 8 M M2 := by rw [e2]; exact fr_s M _ _ (by decide)
    have m7 : ∀ j, j < 8 → M2 7 j = nP (zgu gv k (x + 1) j) := fun j hj => by
      rw [e2, ms_a]
      unfold zgu
      by_cases e : j = k
      · subst e; rw [if_pos ⟨rfl, rfl⟩, if_pos rfl, nP_S]
      · rw [if_neg (fun z => e z.2), if_neg e]; exact hM j hj
    have g6 : ∀ j, j < 8 → zgu gv k (x + 1) j ≤ 6 := fun j hj => by
      unfold zgu
      split
      · omega
      · exact h6 j hj
    have gk : zgu gv k (x + 1) k = x + 1 := if_pos rfl
    rcases hc with ⟨hk0, g0⟩ | ⟨z, gz, hSz, hrz⟩
    · rw [g0, nP_0]
      have fin : K M2 := by
        refine h M2 (zgu gv k (x + 1)) f2 m7 g6 (fun j hj => ?_) (fun y => ?_) (fun j y hj e => ?_)
        · rw [zgt_c (g6 j hj), zgt_c (h6 j hj)]
          unfold zgu
          by_cases e : j = k
          · subst e; rw [if_pos rfl, if_neg (by omega), if_pos g0, if_pos hk0]
          · rw [if_neg e, if_neg (show ¬ j = k0 from fun w => e (w.trans hk0.symm))]; omega
        · have := zgt_r (gv := gv) (v := x + 1) (x := y) hk
          rw [if_neg (by omega)] at this
          by_cases e : y = x
          · rw [if_pos e]; rw [if_pos (by omega)] at this; omega
          · rw [if_neg e]; rw [if_neg (by omega)] at this; omega
        · unfold zgu at e
          by_cases q : j = k
          · rw [if_pos q] at e
            have e3 : y = x := by omega
            subst e3 q; exact .inr hG
          · rw [if_neg q] at e; exact .inl e
      unfold lX3_exchange_14
      refine ⟨fun _ => fin, fun _ => brt rfl fin⟩
    · obtain ⟨n, rfl⟩ : ∃ n', n = n' + 1 := ⟨n - 1, by omega⟩
      rw [gz, nP_S, ← nI_succ]
      have q := u3_exch (G := G) (k0 := k0) (rk := rk) (K := K) n (fun y => S y ∧ rk y ≤ rk z) (zgu gv k (x + 1)) M2 z (step + 1) (by omega) m7 g6 ⟨hSz, Nat.le_refl _⟩ (by omega) (fun y ⟨hSy, hry⟩ => ?_) (fun M' gv' f' m' g' c' r' o' => ?_)
      · exact q
      · obtain ⟨hy6, j, hj, e9y, hGy, hcy⟩ := hS y hSy
        have hne : j ≠ k := fun e => by
          subst e
          rcases hcy with ⟨-, w⟩ | ⟨u, w1, w2, w3⟩
          · omega
          · have : u = z := by omega
            subst this; omega
        refine ⟨hy6, j, hj, ?_, hGy, ?_⟩
        · rw [e2, sw_ms_n _ _ _ (by decide)]; exact e9y
        · unfold zgu
          rw [if_neg hne]
          rcases hcy with w | ⟨u, w1, w2, w3⟩
          · exact .inl w
          · exact .inr ⟨u, w1, ⟨w2, by omega⟩, w3⟩
      · refine h M' gv' (fr_t f2 f') m' g' (fun j hj => ?_) (fun y => ?_) (fun j y hj e => ?_)
        · rw [c' j hj, zgt_c (g6 j hj), zgt_c (h6 j hj)]
          unfold zgu
          by_cases e : j = k
          · subst e; rw [if_pos rfl, if_neg (show ¬ x + 1 = 0 by omega), if_neg (show ¬ gv j = 0 by omega)]
          · rw [if_neg e]
        · rw [r' y]
          have := zgt_r (gv := gv) (v := x + 1) (x := y) hk
          rw [gz] at this
          by_cases e : y = z
          · rw [if_pos e]; rw [if_pos (by omega)] at this
            by_cases e3 : y = x
            · rw [if_pos e3]; rw [if_pos (by omega)] at this; omega
            · rw [if_neg e3]; rw [if_neg (by omega)] at this; omega
          · rw [if_neg e]; rw [if_neg (by omega)] at this
            by_cases e3 : y = x
            · rw [if_pos e3]; rw [if_pos (by omega)] at this; omega
            · rw [if_neg e3]; rw [if_neg (by omega)] at this; omega
        · rcases o' j y hj e with w | w
          · unfold zgu at w
            by_cases q : j = k
            · rw [if_pos q] at w
              have e3 : y = x := by omega
              subst e3 q; exact .inr hG
            · rw [if_neg q] at w; exact .inl w
          · exact .inr w
/-! the queue -/
def pQ (M : sM) (d : Nat) (q : Nat → Nat) (w : Nat) : Prop := w = zs q d ∧ (∀ i, i < w → ∃ j, j < d ∧ M 10 i = nI j ∧ q j = 1) ∧ ∀ j, j < d → q j = 1 → ∃ i, i < w ∧ M 10 i = nI j
theorem pQ_cong {M : sM} {d w : Nat} {q q2 : Nat → Nat} (h : pQ M d q w) (e : ∀ j, j < d → q2 j = q j) : pQ M d q2 w := by
  refine ⟨h.1.trans (zs_cong (fun j hj => (e j hj).symm)), fun i hi => ?_, fun j hj hq => h.2.2 j hj (by rw [← e j hj]; exact hq)⟩
  obtain ⟨j, hj, e1, e2⟩ := h.2.1 i hi
  exact ⟨j, hj, e1, by rw [e j hj]; exact e2⟩
theorem pQ_fr {M M' : sM} {d w : Nat} {q : Nat → Nat} (h : pQ M d q w) (e : M' 10 = M 10) : pQ M' d q w := by
  unfold pQ; rw [e]; exact h
theorem pQ_lt {M : sM} {d w j : Nat} {q : Nat → Nat} (h : pQ M d q w) (h1 : ∀ z, z < d → q z ≤ 1) (hj : j < d) (h0 : q j = 0) : w < d := by
  have a1 := zs_upd q j 1 hj
  have a2 := zs_bound (f := fun z => if z = j then 1 else q z) (n := d) (c := 1) (fun z hz => by
    show (if z = j then 1 else q z) ≤ 1
    split
    · omega
    · exact h1 z hz)
  have := h.1
  omega
theorem pQ_le {M : sM} {d w : Nat} {q : Nat → Nat} (h : pQ M d q w) (h1 : ∀ z, z < d → q z ≤ 1) : w ≤ d := by
  have a2 := zs_bound (f := q) (n := d) (c := 1) h1
  have := h.1
  omega
theorem pQ_add {M : sM} {d w j : Nat} {q : Nat → Nat} (h : pQ M d q w) (hj : j < d) (h0 : q j = 0) : pQ (sw_ms M 10 w (nI j)) d (fun z => if z = j then 1 else q z) (w + 1) := by
  have a1 := zs_upd q j 1 hj
  refine ⟨by have := h.1; omega, fun i hi => ?_, fun z hz hq => ?_⟩
  · rcases Nat.lt_or_ge i w with r | r
    · obtain ⟨z, hz, e1, e2⟩ := h.2.1 i r
      refine ⟨z, hz, ?_, ?_⟩
      · rw [ms_a, if_neg (by omega)]; exact e1
      · show (if z = j then 1 else q z) = 1
        split
        · rfl
        · exact e2
    · have e : i = w := by omega
      subst e
      exact ⟨j, hj, by rw [ms_e], if_pos rfl⟩
  · by_cases e : z = j
    · subst e; exact ⟨w, by omega, by rw [ms_e]⟩
    · have hq : (if z = j then 1 else q z) = 1 := hq
      rw [if_neg e] at hq
      obtain ⟨i, hi, e1⟩ := h.2.2 z hz hq
      exact ⟨i, by omega, by rw [ms_a, if_neg (by omega)]; exact e1⟩
theorem u3_enqueue {M : sM} {gv : Nat → Nat} {d x w : Nat} {q : Nat → Nat} (hd : d ≤ 8) (h3 : M 3 0 = nI d) (h7 : ∀ k, k < 8 → M 7 k = nP (gv k)) (h6 : ∀ k, k < 8 → gv k ≤ 6) (hx : x < 6) (hq : pQ M d q w) (q1 : ∀ j, j < d → q j ≤ 1) (hn : ∀ j, j < d → gv j = x + 1 → q j = 0)
    {Q : Int32 → sM → Prop} (h : ∀ M' w', fr 10 11 M M' → w ≤ w' → (∀ i, i < w → M' 10 i = M 10 i) → pQ M' d (fun j => if gv j = x + 1 then 1 else q j) w' → Q (nI w') M') : wX3_enqueueDoorsOf (nI x) (nI w) M Q := by
  have key : ∀ m j, j + m = d → ∀ M2 w2, fr 10 11 M M2 → w ≤ w2 → (∀ i, i < w → M2 10 i = M 10 i) → pQ M2 d (fun z => if gv z = x + 1 ∧ z < j then 1 else q z) w2 → lX3_enqueueDoorsOf_5 (nI x) (fun x3_5k M_5k => Q x3_5k M_5k) (m + 1) (nI w2) (nI j) M2 := by
    intro m
    induction m with
    | zero =>
      intro j hj M2 w2 f2 hw hi hq2
      unfold lX3_enqueueDoorsOf_5
      have e : j = d := by omega
      subst e
      rw [f2 3 (by decide), h3]
      refine brt (nI_le (Nat.le_refl _) (by omega)) (h M2 w2 f2 hw hi (pQ_cong hq2 (fun z hz => ?_)))
      show (if gv z = x + 1 then 1 else q z) = (if gv z = x + 1 ∧ z < j then 1 else q z)
      by_cases e : gv z = x + 1
      · rw [if_pos e, if_pos ⟨e, hz⟩]
      · rw [if_neg e, if_neg (fun v => e v.1)]
    | succ m ih =>
      intro j hj M2 w2 f2 hw hi hq2
      unfold lX3_enqueueDoorsOf_5
      rw [f2 3 (by decide), h3]
      refine brf (nI_ge (by omega) (by omega)) ?_
      have hj8 : j < 8 := by omega
      refine ⟨vin hj8 (by decide), ?_⟩
      rw [cl (by omega), f2 7 (by decide), h7 j hj8]
      have g6 := h6 j hj8
      refine bri (nP_eqI (by omega) (by omega)) (fun z => ?_) (fun z => ?_)
      · have b1 : ∀ z, z < d → (if gv z = x + 1 ∧ z < j then 1 else q z) ≤ 1 := fun z hz => by
          split
          · omega
          · exact q1 z hz
        have b0 : (if gv j = x + 1 ∧ j < j then 1 else q j) = 0 := by rw [if_neg (by omega)]; exact hn j (by omega) z
        have hlt := pQ_lt hq2 b1 (j := j) (by omega) b0
        refine brf (nI_ge (b := 8) (by omega) (by omega)) ⟨vin (by omega) (by decide), ?_⟩
        intro M3 e3 v9 e9 v10 e10
        subst e9 e10
        rw [cl (by omega)] at e3
        have r := ih (j + 1) (by omega) M3 (w2 + 1) (fr_t f2 (by rw [e3]; exact fr_s M2 _ _ (by decide))) (by omega) (fun i hi2 => by rw [e3, ms_a, if_neg (by omega)]; exact hi i hi2) (by
          rw [e3]
          refine pQ_cong (pQ_add hq2 (j := j) (by omega) b0) (fun y hy => ?_)
          show (if gv y = x + 1 ∧ y < j + 1 then 1 else q y) = (if y = j then 1 else if gv y = x + 1 ∧ y < j then 1 else q y)
          by_cases e : y = j
          · subst e; rw [if_pos ⟨z, by omega⟩, if_pos rfl]
          · rw [if_neg e]
            by_cases e2 : gv y = x + 1 ∧ y < j
            · rw [if_pos e2, if_pos ⟨e2.1, by omega⟩]
            · rw [if_neg e2, if_neg (fun v => e2 ⟨v.1, by omega⟩)])
        rw [nI_succ, nI_succ] at r
        exact r
      · intro v4 e4
        subst e4
        have r := ih (j + 1) (by omega) M2 w2 f2 hw hi (pQ_cong hq2 (fun y hy => by
          show (if gv y = x + 1 ∧ y < j + 1 then 1 else q y) = (if gv y = x + 1 ∧ y < j then 1 else q y)
          by_cases e : y = j
          · subst e; rw [if_neg (fun v => z v.1), if_neg (fun v => z v.1)]
          · by_cases e2 : gv y = x + 1 ∧ y < j
            · rw [if_pos e2, if_pos ⟨e2.1, by omega⟩]
            · rw [if_neg e2, if_neg (fun v => e2 ⟨v.1, by omega⟩)]))
        rw [nI_succ] at r
        exact r
  unfold wX3_enqueueDoorsOf
  exact ⟨d + 1, key d 0 (by omega) M w (fr_r _ _ _) (Nat.le_refl _) (fun _ _ => rfl) (pQ_cong hq (fun y hy => if_neg (by omega)))⟩
theorem zb_dif : ∀ m, m < 64 → ∀ s, s < 64 → (nI m &&& (nI s ^^^ (-1 : Int32))) = nI (m &&& (63 ^^^ s)) := by decide +kernel
theorem zb_dif2 : ∀ m, m < 64 → ∀ s, s < 64 → (m &&& (63 ^^^ s)) < 64 ∧ ∀ x, x < 6 → ((m &&& (63 ^^^ s)) / 2 ^ x % 2 = 1 ↔ m / 2 ^ x % 2 = 1 ∧ s / 2 ^ x % 2 = 0) := by decide +kernel
/-- a door of the queue -/
def zqf (gv : Nat → Nat) (k0 : Nat) (sn : Nat → Nat) (j : Nat) : Nat := if j = k0 then 1 else if gv j = 0 then 0 else sn (gv j - 1)
def pO (M0 M : sM) (G : Nat → Nat → Prop) (c : Nat → Nat) (d k0 : Nat) (gv sn rk : Nat → Nat) (w : Nat) : Prop :=
  fr 9 11 M0 M ∧ (∀ x, sn x ≤ 1) ∧ (∀ x, sn x = 1 → x < 6) ∧ (∀ x, sn x = 1 → c x ≤ zmr (zgt gv) x ∧ rk x < zs sn 6 ∧ ∃ k, k < d ∧ M 9 x = nI k ∧ G x k ∧ ((k = k0 ∧ gv k = 0) ∨ ∃ z, gv k = z + 1 ∧ sn z = 1 ∧ rk z < rk x)) ∧ pQ M d (zqf gv k0 sn) w
theorem zqf_1 {gv sn : Nat → Nat} {k0 j : Nat} (h : ∀ x, sn x ≤ 1) : zqf gv k0 sn j ≤ 1 := by
  unfold zqf
  split
  · omega
  · split
    · omega
    · exact h _
theorem zqf_u {gv sn : Nat → Nat} {k0 x j : Nat} (h0 : gv k0 = 0) : zqf gv k0 (zgu sn x 1) j = if gv j = x + 1 then 1 else zqf gv k0 sn j := by
  unfold zqf zgu
  by_cases e1 : j = k0
  · subst e1; rw [if_pos rfl, if_neg (by omega), if_pos rfl]
  · rw [if_neg e1, if_neg e1]
    by_cases e2 : gv j = 0
    · rw [if_pos e2, if_neg (by omega), if_pos e2]
    · rw [if_neg e2, if_neg e2]
      by_cases e3 : gv j = x + 1
      · rw [if_pos e3, if_pos (by omega)]
      · rw [if_neg e3, if_neg (by omega)]
theorem sn_64 {sn : Nat → Nat} (h1 : ∀ x, sn x ≤ 1) (h2 : ∀ x, sn x = 1 → x < 6) : zm sn < 64 := by
  refine zm_64 (fun k _ => h1 k) ?_ ?_
  · have := h1 6
    have := h2 6
    omega
  · have := h1 7
    have := h2 7
    omega
section ADD
variable {M : sM} {G : Nat → Nat → Prop} {c : Nat → Nat} {d f k0 : Nat} {gv : Nat → Nat}
theorem u3_add (hd : d ≤ 8) (hk0 : k0 < d) (hc8 : ∀ x, x < 6 → c x < 100) (hP : pC M G c d) (hA : pA M gv) (hm : zMt G c f k0 (zgt gv)) (hf : f ≤ k0) {Q : Int32 → sM → Prop}
    (h1 : ∀ M' gv', fr 7 11 M M' → pA M' gv' → zMt G c f (k0 + 1) (zgt gv') → (∀ k, k < 8 → zmc (zgt gv') k = zmc (zgt gv) k + if k = k0 then 1 else 0) → Q 1 M')
    (h0 : ∀ M' (R : Nat → Prop), fr 7 11 M M' → pA M' gv → (∀ x, x < 6 → G x k0 → R x) → (∀ x, x < 6 → R x → zmr (zgt gv) x = c x) → (∀ x, x < 6 → R x → ∀ k, k < 8 → 0 < zgt gv x k → ∀ z, z < 6 → G z k → R z) → Q 0 M') : wX3_addByExchanges (nI k0) M Q := by
  obtain ⟨p3, p4, p5⟩ := hP
  have g6 := hA.2.2
  have gk0 : gv k0 = 0 := by
    have e := zmc_0 hm (k := k0) (by omega) (by omega)
    rw [zgt_c (g6 k0 (by omega))] at e
    by_cases q : gv k0 = 0
    · exact q
    · rw [if_neg q] at e; omega
  have gin : ∀ x k, x < 6 → k < 8 → gv k = x + 1 → G x k ∧ f ≤ k ∧ k < k0 := fun x k hx hk e => hm.1 x k hx hk (by show 0 < if gv k = x + 1 then 1 else 0; rw [if_pos e]; decide)
  have fin : ∀ M2 sn rk w, pO M M2 G c d k0 gv sn rk w → (∀ i j, i < w → j < d → M2 10 i = nI j → ∀ x, x < 6 → G x j → sn x = 1) → Q 0 M2 := by
    intro M2 sn rk w hO hh
    obtain ⟨o1, o2, o3, o4, o5⟩ := hO
    refine h0 M2 (fun x => sn x = 1) (fr_w o1 (by decide) (by decide)) (pA_fr hA o1 (by decide)) (fun x hx hG => ?_) (fun x hx hR => ?_) (fun x hx hR k hk hp z hz hG => ?_)
    · obtain ⟨i, hi, e⟩ := o5.2.2 k0 hk0 (if_pos rfl)
      exact hh i k0 hi hk0 e x hx hG
    · exact Nat.le_antisymm (hm.2.2 x hx) (o4 x hR).1
    · have e : gv k = x + 1 := by
        unfold zgt at hp
        by_cases e : gv k = x + 1
        · exact e
        · rw [if_neg e] at hp; omega
      have hkk := (gin x k hx hk e).2.2
      obtain ⟨i, hi, e2⟩ := o5.2.2 k (by omega) (by
        unfold zqf
        rw [if_neg (by omega), if_neg (by omega), e]; exact hR)
      exact hh i k hi (by omega) e2 z hz hG
  -- the inner loop, its end given
  have inner : ∀ v h, v < d → ∀ K : Int32 → Int32 → sM → Prop, (∀ M2 sn rk w, pO M M2 G c d k0 gv sn rk w → h < w → (∀ i j, i ≤ h → j < d → M2 10 i = nI j → ∀ x, x < 6 → G x j → sn x = 1) → K (nI w) (nI (zm sn)) M2) →
      ∀ m x, x + m = 6 → ∀ M2 sn rk w, pO M M2 G c d k0 gv sn rk w → h < w → M2 10 h = nI v → (∀ i j, i < h → j < d → M2 10 i = nI j → ∀ x, x < 6 → G x j → sn x = 1) → (∀ y, y < x → G y v → sn y = 1) → lX3_addByExchanges_39 (nI v) Q K (m + 1) (nI w) (nI (zm sn)) (nI x) M2 := by
    intro v h hv K hK m
    induction m with
    | zero =>
      intro x hx M2 sn rk w hO hw ev hh hy
      unfold lX3_addByExchanges_39
      have e : x = 6 := by omega
      subst e
      refine brt (nI_le (b := 6) (Nat.le_refl _) (by omega)) (hK M2 sn rk w hO hw (fun i j hi hj e x hx hG => ?_))
      rcases Nat.lt_or_ge i h with r | r
      · exact hh i j r hj e x hx hG
      · have e2 : i = h := by omega
        subst e2
        rw [ev] at e
        have e3 := (nI_eq (by omega) (by omega)).mp e
        subst e3
        exact hy x hx hG
    | succ m ih =>
      intro x hx M2 sn rk w hO hw ev hh hy
      obtain ⟨o1, o2, o3, o4, o5⟩ := hO
      have hx6 : x < 6 := by omega
      have hv8 : v < 8 := by omega
      unfold lX3_addByExchanges_39
      refine brf (nI_ge (b := 6) (by omega) (by omega)) ⟨vin hv8 (by decide), ?_⟩
      rw [cl (by omega), o1 4 (by decide), p4 v hv]
      have s64 := sn_64 o2 o3
      rw [zb_dif _ (zgb_64 G v) _ s64]
      have bd := zb_dif2 _ (zgb_64 G v) _ s64
      refine u6_contains (by omega) (by omega) (fun z => br1 ?_) (fun z => br0 ?_)
      · have z2 := (bd.2 x hx6).mp z
        rw [zm_bit (zgb_1 G v) (by omega), zm_bit (fun k _ => o2 k) (by omega)] at z2
        have hG : G x v := by
          unfold zgb at z2
          rcases Classical.em (x < 6 ∧ G x v) with r | r
          · exact r.2
          · rw [zif_f r] at z2; omega
        intro v13 e13
        rw [zb_or _ (by omega) x (by omega) (by rw [zm_bit (fun k _ => o2 k) (by omega)]; exact z2.2), ← zm_set (by omega) z2.2] at e13
        have e13 : v13 = nI (zm (zgu sn x 1)) := e13
        subst e13
        refine ⟨vin hx6 (by decide), ?_⟩
        intro M3 e3
        rw [cl (by omega)] at e3
        have f3 : fr 9 11 M M3 := fr_t o1 (by rw [e3]; exact fr_s M2 _ _ (by decide))
        refine ⟨vin hx6 (by decide), vin hx6 (by decide), ?_⟩
        rw [cl (by omega), f3 5 (by decide), f3 8 (by decide), p5 x hx6, hA.2.1 x hx6]
        have r8 := zgt_r8 gv x
        have c8 := hc8 x hx6
        have zsn : zs (zgu sn x 1) 6 = zs sn 6 + 1 := by
          have := zs_upd sn x 1 hx6
          unfold zgu; omega
        have sn1 : ∀ y, zgu sn x 1 y ≤ 1 := fun y => by unfold zgu; split; omega; exact o2 y
        have m9 : ∀ y, sn y = 1 → M3 9 y = M2 9 y := fun y hy => by
          rw [e3]; exact ms_j _ _ _ (fun e => by subst e; omega)
        have vq : v = k0 ∧ gv v = 0 ∨ ∃ z, gv v = z + 1 ∧ sn z = 1 := by
          obtain ⟨j, hj, e1, e2⟩ := o5.2.1 h hw
          rw [ev] at e1
          have e4 := (nI_eq (by omega) (by omega)).mp e1
          subst e4
          unfold zqf at e2
          by_cases q : v = k0
          · exact .inl ⟨q, by rw [q]; exact gk0⟩
          · rw [if_neg q] at e2
            by_cases q2 : gv v = 0
            · rw [if_pos q2] at e2; omega
            · rw [if_neg q2] at e2
              exact .inr ⟨gv v - 1, by omega, e2⟩
        refine bri (nI_leI (by omega) (by omega)) (fun full => ?_) (fun notf => ?_)
        · refine u3_enqueue (gv := gv) (q := zqf gv k0 sn) hd (by rw [f3 3 (by decide)]; exact p3) (fun k hk => by rw [f3 7 (by decide)]; exact hA.1 k hk) g6 hx6 (pQ_fr o5 (by rw [e3]; exact sw_ms_n _ _ _ (by decide))) (fun j _ => zqf_1 o2) (fun j hj e => ?_) ?_
          · unfold zqf
            rw [if_neg (fun e2 => by subst e2; omega), if_neg (by omega), e]; exact z2.2
          intro M4 w4 f4 hw4 hi4 hq4 v21 e21
          subst e21
          have r := ih (x + 1) (by omega) M4 (zgu sn x 1) (zgu rk x (zs sn 6)) w4 ⟨fr_t f3 (fr_w f4 (by decide) (by decide)), sn1, fun y hy => ?_, fun y hy => ?_, pQ_cong hq4 (fun j _ => zqf_u gk0)⟩ (by omega) (by rw [hi4 h hw, e3, sw_ms_n _ _ _ (by decide)]; exact ev) (fun i j hi hj e y hy hG => ?_) (fun y hyx hGy => ?_)
          · rw [nI_succ] at r; exact r
          · unfold zgu at hy
            by_cases e : y = x
            · omega
            · rw [if_neg e] at hy; exact o3 y hy
          · rw [zsn]
            by_cases e : y = x
            · subst e
              refine ⟨full, by unfold zgu; rw [if_pos rfl]; omega, v, hv, ?_, hG, ?_⟩
              · rw [f4 9 (by decide), e3, ms_e]
              · rcases vq with r | ⟨z, r1, r2⟩
                · exact .inl r
                · have zx : z ≠ y := fun e => by subst e; omega
                  refine .inr ⟨z, r1, by unfold zgu; rw [if_neg zx]; exact r2, ?_⟩
                  unfold zgu
                  rw [if_neg zx, if_pos rfl]
                  exact (o4 z r2).2.1
            · have hy1 : sn y = 1 := by unfold zgu at hy; rw [if_neg e] at hy; exact hy
              obtain ⟨w1, w2, k, w3, w4, w5, w6⟩ := o4 y hy1
              refine ⟨w1, by unfold zgu; rw [if_neg e]; omega, k, w3, by rw [f4 9 (by decide), m9 y hy1]; exact w4, w5, ?_⟩
              rcases w6 with w6 | ⟨z, t1, t2, t3⟩
              · exact .inl w6
              · have zx : z ≠ x := fun e => by subst e; omega
                refine .inr ⟨z, t1, by unfold zgu; rw [if_neg zx]; exact t2, ?_⟩
                unfold zgu
                rw [if_neg zx, if_neg e]; exact t3
          · have := hh i j hi hj (by rw [← e, hi4 i (by omega), e3, sw_ms_n _ _ _ (by decide)]) y hy hG
            unfold zgu
            split
            · rfl
            · exact this
          · unfold zgu
            by_cases e : y = x
            · rw [if_pos e]
            · rw [if_neg e]; exact hy y (by omega) hGy
        · unfold wX3_exchange
          refine ⟨vin hx6 (by decide), vin hx6 (by decide), ?_⟩
          intro M4 e4
          rw [cl (by omega), f3 8 (by decide), hA.2.1 x hx6, ← nI_succ] at e4
          have f4 : fr 8 9 M3 M4 := by rw [e4]; exact fr_s M3 _ _ (by decide)
          have zl : zs sn 6 ≤ 5 := by
            have := zs_upd sn x 1 hx6
            have b := zs_bound (f := zgu sn x 1) (n := 6) (c := 1) (fun y _ => sn1 y)
            omega
          refine ⟨zs sn 6 + 2, u3_exch (G := G) (k0 := k0) (rk := zgu rk x (zs sn 6)) (zs sn 6) (fun y => zgu sn x 1 y = 1) gv M4 x 0 (by omega) (fun k hk => by rw [f4 7 (by decide), f3 7 (by decide)]; exact hA.1 k hk) g6 (by unfold zgu; exact if_pos rfl) (by unfold zgu; rw [if_pos rfl]; exact Nat.le_refl _) (fun y hSy => ?_) (fun M' gv' f' a7 a6 ac ar ao => ?_)⟩
          · by_cases e : y = x
            · subst e
              refine ⟨hx6, v, hv8, by rw [f4 9 (by decide), e3, ms_e], hG, ?_⟩
              rcases vq with r | ⟨z, r1, r2⟩
              · exact .inl r
              · have zx : z ≠ y := fun e => by subst e; omega
                refine .inr ⟨z, r1, by unfold zgu; rw [if_neg zx]; exact r2, ?_⟩
                unfold zgu
                rw [if_neg zx, if_pos rfl]
                exact (o4 z r2).2.1
            · have hy1 : sn y = 1 := by have hSy : zgu sn x 1 y = 1 := hSy; unfold zgu at hSy; rw [if_neg e] at hSy; exact hSy
              obtain ⟨w1, w2, k, w3, w4, w5, w6⟩ := o4 y hy1
              refine ⟨o3 y hy1, k, by omega, by rw [f4 9 (by decide), m9 y hy1]; exact w4, w5, ?_⟩
              rcases w6 with w6 | ⟨z, t1, t2, t3⟩
              · exact .inl w6
              · have zx : z ≠ x := fun e => by subst e; omega
                refine .inr ⟨z, t1, by show zgu sn x 1 z = 1; unfold zgu; rw [if_neg zx]; exact t2, ?_⟩
                unfold zgu
                rw [if_neg zx, if_neg e]; exact t3
          · have ff : fr 7 11 M M' := fr_t (fr_w f3 (by decide) (by decide)) (fr_t (fr_w f4 (by decide) (by decide)) (fr_w f' (by decide) (by decide)))
            refine h1 M' gv' ff ⟨a7, fun y hy => ?_, a6⟩ ⟨fun y k hy hk hp => ?_, fun k hk => ?_, fun y hy => ?_⟩ ac
            · rw [f' 8 (by decide), e4, ms_a, ar y]
              by_cases e : y = x
              · subst e; rw [if_pos ⟨rfl, rfl⟩, if_pos rfl]
              · rw [if_neg (fun z => e z.2), if_neg e, f3 8 (by decide)]; exact hA.2.1 y hy
            · have e : gv' k = y + 1 := by
                unfold zgt at hp
                by_cases e : gv' k = y + 1
                · exact e
                · rw [if_neg e] at hp; omega
              have rng : f ≤ k ∧ k < k0 + 1 := by
                have t := ac k hk
                rw [zgt_c (a6 k hk), zgt_c (g6 k hk), if_neg (by omega)] at t
                by_cases q : k = k0
                · subst q; exact ⟨hf, by omega⟩
                · rw [if_neg q] at t
                  by_cases q2 : gv k = 0
                  · rw [if_pos q2] at t; omega
                  · have u := gin (gv k - 1) k (by have := g6 k hk; omega) hk (by omega)
                    exact ⟨u.2.1, by omega⟩
              rcases ao k y hk e with r | r
              · exact ⟨(gin y k hy hk r).1, rng⟩
              · exact ⟨r, rng⟩
            · have t := ac k hk
              rw [zgt_c (a6 k hk)]; split <;> omega
            · have t := hm.2.2 y hy
              rw [ar y]
              by_cases e : y = x
              · subst e; rw [if_pos rfl]; omega
              · rw [if_neg e]; omega
      · intro v12 e12
        subst e12
        have r := ih (x + 1) (by omega) M2 sn rk w ⟨o1, o2, o3, o4, o5⟩ hw ev hh (fun y hy2 hG => ?_)
        · rw [nI_succ] at r; exact r
        · rcases Nat.lt_or_ge y x with q | q
          · exact hy y q hG
          · have e : y = x := by omega
            subst e
            have t := o2 y
            rcases Nat.eq_zero_or_pos (sn y) with u | u
            · refine absurd ((bd.2 y hx6).mpr ?_) z
              rw [zm_bit (zgb_1 G v) (by omega), zm_bit (fun k _ => o2 k) (by omega)]
              exact ⟨zif_t ⟨hx6, hG⟩ _ _, u⟩
            · omega
  have outer : ∀ m h, h + m = 8 → ∀ M2 sn rk w, pO M M2 G c d k0 gv sn rk w → (∀ i j, i < h → j < d → M2 10 i = nI j → ∀ x, x < 6 → G x j → sn x = 1) → lX3_addByExchanges_14 Q (fun M_14k => Q (0 : Int32) M_14k) (m + 1) (nI w) (nI (zm sn)) (nI h) M2 := by
    intro m
    induction m with
    | zero =>
      intro h hh M2 sn rk w hO hp
      unfold lX3_addByExchanges_14
      have wd := pQ_le hO.2.2.2.2 (fun z _ => zqf_1 hO.2.1)
      refine brt (nI_le (by omega) (by omega)) (fin M2 sn rk w hO (fun i j hi => hp i j (by omega)))
    | succ m ih =>
      intro h hh M2 sn rk w hO hp
      unfold lX3_addByExchanges_14
      have wd := pQ_le hO.2.2.2.2 (fun z _ => zqf_1 hO.2.1)
      refine bri (nI_leI (by omega) (by omega)) (fun z => fin M2 sn rk w hO (fun i j hi => hp i j (by omega))) (fun z => ?_)
      refine brf (nI_ge (b := 8) (by omega) (by omega)) ⟨vin (by omega) (by decide), ?_⟩
      intro v5 e5
      rw [cl (by omega)] at e5
      obtain ⟨v, hv, ev, -⟩ := hO.2.2.2.2.2.1 h (by omega)
      rw [ev] at e5
      subst e5
      refine ⟨7, inner v h hv _ (fun M3 sn3 rk3 w3 hO3 hw3 hp3 => ?_) 6 0 rfl M2 sn rk w hO (by omega) ev hp (fun y hy => absurd hy (Nat.not_lt_zero _))⟩
      intro v6 e6
      subst e6
      have r := ih (h + 1) (by omega) M3 sn3 rk3 w3 hO3 (fun i j hi => hp3 i j (by omega))
      rw [nI_succ] at r
      exact r
  unfold wX3_addByExchanges
  intro M1 e1
  have f1 : fr 9 11 M M1 := by rw [e1]; exact fr_s M _ _ (by decide)
  have e1 : M1 = sw_ms M 10 0 (nI k0) := e1
  refine ⟨9, outer 8 0 rfl M1 (fun _ => 0) (fun _ => 0) 1 ⟨f1, fun _ => Nat.zero_le _, fun x hx => absurd hx Nat.zero_ne_one, fun x hx => absurd hx Nat.zero_ne_one, ?_⟩ (fun i j hi => absurd hi (Nat.not_lt_zero _))⟩
  rw [e1]
  refine pQ_cong (q := fun j => if j = k0 then 1 else 0) (pQ_add (w := 0) (q := fun _ => 0) ⟨(zs_zero (fun _ _ => rfl)).symm, fun i hi => absurd hi (Nat.not_lt_zero _), fun j hj hq => absurd hq Nat.zero_ne_one⟩ hk0 rfl) (fun j hj => ?_)
  unfold zqf
  by_cases e : j = k0
  · rw [if_pos e, if_pos e]
  · rw [if_neg e, if_neg e]; split <;> rfl
end ADD
