/-! Copies of a State; the history; the whole picture of both sides. -/
theorem u5_copyFrom {M : sM} {i i1 : Nat} {a : Nat → Nat} (hne : i ≠ i1) (hS : rS M i1 a) (hb : rB a) {Q : sM → Prop} (h : ∀ M', fr (sw_st i) (sw_st i + 17) M M' → rS M' i a → Q M') : wX5_copyFrom i i1 M Q := by
  have dj : ∀ b c, b < 17 → c < 17 → sw_st i1 + b ≠ sw_st i + c := fun b c hb hc => by unfold sw_st; omega
  have dj0 : ∀ c, c < 17 → sw_st i1 ≠ sw_st i + c := fun c hc => dj 0 c (by decide) hc
  have d00 : sw_st i1 ≠ sw_st i := dj 0 0 (by decide) (by decide)
  have db0 : ∀ b, b < 17 → sw_st i1 + b ≠ sw_st i := fun b hb => dj b 0 hb (by decide)
  unfold wX5_copyFrom
  intro M1 e1 M2 e2 M3 e3 M4 e4 M5 e5 M6 e6 M7 e7
  have n1 : ∀ q, q ≠ sw_st i → M1 q = M q := fun q hq => by rw [e1]; exact sw_ms_n _ _ _ hq
  have n2 : ∀ q, q ≠ sw_st i → M2 q = M q := fun q hq => by rw [e2, sw_ms_n _ _ _ hq]; exact n1 q hq
  have n3 : ∀ q, q ≠ sw_st i → M3 q = M q := fun q hq => by rw [e3, sw_ms_n _ _ _ hq]; exact n2 q hq
  have n4 : ∀ q, q ≠ sw_st i → M4 q = M q := fun q hq => by rw [e4, sw_ms_n _ _ _ hq]; exact n3 q hq
  have n5 : ∀ q, q ≠ sw_st i → M5 q = M q := fun q hq => by rw [e5, sw_ms_n _ _ _ hq]; exact n4 q hq
  have n6 : ∀ q, q ≠ sw_st i → M6 q = M q := fun q hq => by rw [e6, sw_ms_n _ _ _ hq]; exact n5 q hq
  have n7 : ∀ q, q ≠ sw_st i → M7 q = M q := fun q hq => by rw [e7, sw_ms_n _ _ _ hq]; exact n6 q hq
  rw [rS_ap hS] at e1
  rw [n1 _ d00, rS_gr hS] at e2
  rw [n2 _ d00, rS_rv hS] at e3
  rw [n3 _ d00, rS_T hS] at e4
  rw [n4 _ d00, rS_D hS] at e5
  rw [n5 _ d00, rS_E hS] at e6
  rw [n6 _ d00, rS_N hS] at e7
  have sc : M7 (sw_st i) 0 = nI (zm fun k => zd a k 2) ∧ M7 (sw_st i) 1 = nI (zm fun k => zd a k 3) ∧ M7 (sw_st i) 2 = nI (2 * zm fun n => ze a n 1) ∧ M7 (sw_st i) 3 = nI (a 0) ∧ M7 (sw_st i) 6 = nI (a 1) ∧ M7 (sw_st i) 14 = nI (a 2) ∧ M7 (sw_st i) 15 = nI (a 3) := by
    rw [e7, e6, e5, e4, e3, e2, e1]
    refine ⟨?_, ?_, ?_, ?_, ?_, ?_, ?_⟩
    · rw [ms_j _ _ _ (by decide), ms_j _ _ _ (by decide), ms_j _ _ _ (by decide), ms_j _ _ _ (by decide), ms_j _ _ _ (by decide), ms_j _ _ _ (by decide), ms_e]
    · rw [ms_j _ _ _ (by decide), ms_j _ _ _ (by decide), ms_j _ _ _ (by decide), ms_j _ _ _ (by decide), ms_j _ _ _ (by decide), ms_e]
    · rw [ms_j _ _ _ (by decide), ms_j _ _ _ (by decide), ms_j _ _ _ (by decide), ms_j _ _ _ (by decide), ms_e]
    · rw [ms_j _ _ _ (by decide), ms_j _ _ _ (by decide), ms_e]
    · rw [ms_j _ _ _ (by decide), ms_e]
    · rw [ms_j _ _ _ (by decide), ms_j _ _ _ (by decide), ms_j _ _ _ (by decide), ms_e]
    · rw [ms_e]
  have key1 : ∀ (m k : Nat) (M' : sM), k + m = 8 → ∀ K : sM → Prop, (∀ q, q ≠ sw_st i + 1 → q ≠ sw_st i + 2 → q ≠ sw_st i + 9 → M' q = M7 q) → (∀ j, j < k → M' (sw_st i + 1) j = nI (zd a j 0) ∧ M' (sw_st i + 2) j = nI (zd a j 1) ∧ M' (sw_st i + 9) j = nI (ze a j 0)) → (∀ M', (∀ q, q ≠ sw_st i + 1 → q ≠ sw_st i + 2 → q ≠ sw_st i + 9 → M' q = M7 q) → (∀ j, j < 8 → M' (sw_st i + 1) j = nI (zd a j 0) ∧ M' (sw_st i + 2) j = nI (zd a j 1) ∧ M' (sw_st i + 9) j = nI (ze a j 0)) → K M') → lX5_copyFrom_58 i i1 K (m + 1) (nI k) M' := by
    intro m
    induction m with
    | zero =>
      intro k M' hk K f1 f2 hK
      unfold lX5_copyFrom_58
      have e : k = 8 := by omega
      subst e
      exact brt (nI_le (Nat.le_refl _) (by decide)) (hK M' f1 f2)
    | succ m ih =>
      intro k M' hk K f1 f2 hK
      unfold lX5_copyFrom_58
      have hk8 : k < 8 := by omega
      have bk := hb.2.1 k hk8
      refine brf (nI_ge (b := 8) (by omega) (by decide)) ⟨vin hk8 (by decide), vin hk8 (by decide), ?_⟩
      rw [cl (by omega)]
      intro A eA
      rw [f1 _ (dj 1 1 (by decide) (by decide)) (dj 1 2 (by decide) (by decide)) (dj 1 9 (by decide) (by decide)), n7 _ (db0 1 (by decide)), rS_df hS hk8, nar_c (by omega)] at eA
      refine ⟨vin hk8 (by decide), vin hk8 (by decide), ?_⟩
      intro B eB
      rw [eA, sw_ms_n _ _ _ (dj 2 1 (by decide) (by decide)), ← eA, f1 _ (dj 2 1 (by decide) (by decide)) (dj 2 2 (by decide) (by decide)) (dj 2 9 (by decide) (by decide)), n7 _ (db0 2 (by decide)), rS_dt hS hk8] at eB
      refine ⟨vin hk8 (by decide), vin hk8 (by decide), ?_⟩
      intro C eC
      rw [eB, sw_ms_n _ _ _ (dj 9 2 (by decide) (by decide)), ← eB, eA, sw_ms_n _ _ _ (dj 9 1 (by decide) (by decide)), f1 _ (dj 9 1 (by decide) (by decide)) (dj 9 2 (by decide) (by decide)) (dj 9 9 (by decide) (by decide)), n7 _ (db0 9 (by decide)), rS_en hS hk8] at eC
      intro v ev
      rw [ia1] at ev
      subst ev
      refine ih (k + 1) C (by omega) K (fun q h1 h2 h3 => ?_) (fun j hj => ?_) hK
      · rw [eC, sw_ms_n _ _ _ h3, eB, sw_ms_n _ _ _ h2, eA, sw_ms_n _ _ _ h1]; exact f1 q h1 h2 h3
      · have c1 : C (sw_st i + 1) j = A (sw_st i + 1) j := by rw [eC, sw_ms_n _ _ _ (by omega), eB, sw_ms_n _ _ _ (by omega)]
        have c2 : C (sw_st i + 2) j = B (sw_st i + 2) j := by rw [eC, sw_ms_n _ _ _ (by omega)]
        rw [c1, c2, eA, eB, eC]
        by_cases w : j = k
        · subst w
          rw [ms_e, ms_e, ms_e]; exact ⟨rfl, rfl, rfl⟩
        · rw [ms_j _ _ _ w, ms_j _ _ _ w, ms_j _ _ _ w]
          have q := f2 j (by omega)
          rw [eB, eA, sw_ms_n _ _ _ (by omega), sw_ms_n _ _ _ (by omega), sw_ms_n _ _ _ (by omega)]
          exact q
  refine ⟨9, key1 8 0 M7 (by omega) _ (fun _ _ _ _ => rfl) (fun j hj => absurd hj (Nat.not_lt_zero j)) ?_⟩
  intro M8 f8 g8
  have s8 : ∀ b, b < 17 → b ≠ 0 → M8 (sw_st i1 + b) = M (sw_st i1 + b) := fun b hb h0 => by
    rw [f8 _ (dj b 1 hb (by decide)) (dj b 2 hb (by decide)) (dj b 9 hb (by decide))]; exact n7 _ (db0 b hb)
  have key3 : ∀ (m k : Nat) (M9 M' : sM), k + m = 8 → ∀ x, x < 6 → M9 (sw_st i1 + 11 + x) = M (sw_st i1 + 11 + x) → ∀ K : sM → Prop, (∀ q, q ≠ sw_st i + 11 + x → M' q = M9 q) → (∀ j, j < k → M' (sw_st i + 11 + x) j = nP (zp a x j 2)) → (∀ M', (∀ q, q ≠ sw_st i + 11 + x → M' q = M9 q) → (∀ j, j < 8 → M' (sw_st i + 11 + x) j = nP (zp a x j 2)) → K M') → lX5_copyFrom_188 i i1 (nI x) K (m + 1) (nI k) M' := by
    intro m
    induction m with
    | zero =>
      intro k M9 M' hk x hx h9 K f1 f2 hK
      unfold lX5_copyFrom_188
      have e : k = 8 := by omega
      subst e
      exact brt (nI_le (Nat.le_refl _) (by decide)) (hK M' f1 f2)
    | succ m ih =>
      intro k M9 M' hk x hx h9 K f1 f2 hK
      unfold lX5_copyFrom_188
      have hk8 : k < 8 := by omega
      refine brf (nI_ge (b := 8) (by omega) (by decide)) ⟨vin hx (by decide), vin hx (by decide), vin hk8 (by decide), vin hk8 (by decide), ?_⟩
      rw [cl (by omega), cl (by omega)]
      intro A eA
      rw [f1 _ (by rw [Nat.add_assoc, Nat.add_assoc]; exact dj _ _ (by omega) (by omega)), h9, rS_g hS hx hk8] at eA
      intro v ev
      rw [ia1] at ev
      subst ev
      refine ih (k + 1) M9 A (by omega) x hx h9 K (fun q h1 => ?_) (fun j hj => ?_) hK
      · rw [eA, sw_ms_n _ _ _ h1]; exact f1 q h1
      · rw [eA]
        by_cases w : j = k
        · subst w; rw [ms_e]
        · rw [ms_j _ _ _ w]; exact f2 j (by omega)
  have key2 : ∀ (m x : Nat) (M' : sM), x + m = 6 → (∀ q, (q < sw_st i + 3 ∨ sw_st i + 8 < q) → (q < sw_st i + 11 ∨ sw_st i + 16 < q) → M' q = M8 q) → (∀ y, y < x → (M' (sw_st i + 3) y = nI (zx a y 0) ∧ M' (sw_st i + 4) y = nI (zx a y 1) ∧ M' (sw_st i + 5) y = nI (zx a y 2) ∧ M' (sw_st i + 6) y = nI (zx a y 3) ∧ M' (sw_st i + 7) y = nI (zm fun k => zp a y k 0) ∧ M' (sw_st i + 8) y = nI (zm fun k => zp a y k 1)) ∧ ∀ k, k < 8 → M' (sw_st i + 11 + y) k = nP (zp a y k 2)) → lX5_copyFrom_108 i i1 (fun M_108k => Q M_108k) (m + 1) (nI x) M' := by
    intro m
    induction m with
    | zero =>
      intro x M' hx f1 f2
      unfold lX5_copyFrom_108
      have e : x = 6 := by omega
      subst e
      refine brt (nI_le (Nat.le_refl _) (by decide)) (h M' (fun q hq => ?_) ?_)
      · rw [f1 q (by omega) (by omega), f8 q (by omega) (by omega) (by omega)]; exact n7 q (by omega)
      · refine ⟨?_, fun k hk => ?_, fun y hy => (f2 y hy).1, fun y k hy hk => (f2 y hy).2 k hk⟩
        · rw [f1 _ (by omega) (by omega), f8 _ (by omega) (by omega) (by omega)]; exact sc
        · rw [f1 _ (by omega) (by omega), f1 _ (by omega) (by omega), f1 _ (by omega) (by omega)]; exact g8 k hk
    | succ m ih =>
      intro x M' hx f1 f2
      unfold lX5_copyFrom_108
      have hx6 : x < 6 := by omega
      have bx := hb.2.2.1 x hx6
      have djf : ∀ b, b < 17 → b ≠ 0 → M' (sw_st i1 + b) = M (sw_st i1 + b) := fun b hb hb0 => by
        rw [f1 _ (by unfold sw_st; omega) (by unfold sw_st; omega)]; exact s8 b hb hb0
      refine brf (nI_ge (b := 6) (by omega) (by decide)) ?_
      rw [cl (by omega)]
      refine ⟨vin hx6 (by decide), vin hx6 (by decide), ?_⟩
      intro A1 h1
      rw [djf 3 (by decide) (by decide), rS_xf hS hx6, nar_c (by omega)] at h1
      refine ⟨vin hx6 (by decide), vin hx6 (by decide), ?_⟩
      have r1 : ∀ b, b < 17 → b ≠ 0 → A1 (sw_st i1 + b) = M (sw_st i1 + b) := fun b hb hb0 => by rw [h1, sw_ms_n _ _ _ (dj b 3 hb (by decide))]; exact djf b hb hb0
      intro A2 h2
      rw [r1 4 (by decide) (by decide), rS_xs hS hx6] at h2
      refine ⟨vin hx6 (by decide), vin hx6 (by decide), ?_⟩
      have r2 : ∀ b, b < 17 → b ≠ 0 → A2 (sw_st i1 + b) = M (sw_st i1 + b) := fun b hb hb0 => by rw [h2, sw_ms_n _ _ _ (dj b 4 hb (by decide))]; exact r1 b hb hb0
      intro A3 h3
      rw [r2 5 (by decide) (by decide), rS_xc hS hx6] at h3
      refine ⟨vin hx6 (by decide), vin hx6 (by decide), ?_⟩
      have r3 : ∀ b, b < 17 → b ≠ 0 → A3 (sw_st i1 + b) = M (sw_st i1 + b) := fun b hb hb0 => by rw [h3, sw_ms_n _ _ _ (dj b 5 hb (by decide))]; exact r2 b hb hb0
      intro A4 h4
      rw [r3 6 (by decide) (by decide), rS_xl hS hx6] at h4
      refine ⟨vin hx6 (by decide), vin hx6 (by decide), ?_⟩
      have r4 : ∀ b, b < 17 → b ≠ 0 → A4 (sw_st i1 + b) = M (sw_st i1 + b) := fun b hb hb0 => by rw [h4, sw_ms_n _ _ _ (dj b 6 hb (by decide))]; exact r3 b hb hb0
      intro A5 h5
      rw [r4 7 (by decide) (by decide), rS_co hS hx6] at h5
      refine ⟨vin hx6 (by decide), vin hx6 (by decide), ?_⟩
      have r5 : ∀ b, b < 17 → b ≠ 0 → A5 (sw_st i1 + b) = M (sw_st i1 + b) := fun b hb hb0 => by rw [h5, sw_ms_n _ _ _ (dj b 7 hb (by decide))]; exact r4 b hb hb0
      intro A6 h6
      rw [r5 8 (by decide) (by decide), rS_as hS hx6] at h6
      have r6 : ∀ b, b < 17 → b ≠ 0 → A6 (sw_st i1 + b) = M (sw_st i1 + b) := fun b hb hb0 => by rw [h6, sw_ms_n _ _ _ (dj b 8 hb (by decide))]; exact r5 b hb hb0
      refine ⟨9, key3 8 0 A6 A6 (by omega) x hx6 (by rw [Nat.add_assoc]; exact r6 _ (by omega) (by omega)) _ (fun _ _ => rfl) (fun j hj => absurd hj (Nat.not_lt_zero j)) ?_⟩
      intro A7 f7 g7
      intro v ev
      rw [ia1] at ev
      subst ev
      refine ih (x + 1) A7 (by omega) (fun q q1 q2 => ?_) (fun y hy => ?_)
      · rw [f7 q (by omega), h6, sw_ms_n _ _ _ (by omega), h5, sw_ms_n _ _ _ (by omega), h4, sw_ms_n _ _ _ (by omega), h3, sw_ms_n _ _ _ (by omega), h2, sw_ms_n _ _ _ (by omega), h1, sw_ms_n _ _ _ (by omega)]
        exact f1 q q1 q2
      · have p3 : A7 (sw_st i + 3) = A1 (sw_st i + 3) := by rw [f7 _ (by omega), h6, sw_ms_n _ _ _ (by omega), h5, sw_ms_n _ _ _ (by omega), h4, sw_ms_n _ _ _ (by omega), h3, sw_ms_n _ _ _ (by omega), h2, sw_ms_n _ _ _ (by omega)]
        have p4 : A7 (sw_st i + 4) = A2 (sw_st i + 4) := by rw [f7 _ (by omega), h6, sw_ms_n _ _ _ (by omega), h5, sw_ms_n _ _ _ (by omega), h4, sw_ms_n _ _ _ (by omega), h3, sw_ms_n _ _ _ (by omega)]
        have p5 : A7 (sw_st i + 5) = A3 (sw_st i + 5) := by rw [f7 _ (by omega), h6, sw_ms_n _ _ _ (by omega), h5, sw_ms_n _ _ _ (by omega), h4, sw_ms_n _ _ _ (by omega)]
        have p6 : A7 (sw_st i + 6) = A4 (sw_st i + 6) := by rw [f7 _ (by omega), h6, sw_ms_n _ _ _ (by omega), h5, sw_ms_n _ _ _ (by omega)]
        have p7 : A7 (sw_st i + 7) = A5 (sw_st i + 7) := by rw [f7 _ (by omega), h6, sw_ms_n _ _ _ (by omega)]
        have p8 : A7 (sw_st i + 8) = A6 (sw_st i + 8) := f7 _ (by omega)
        have k4 : A1 (sw_st i + 4) = M' (sw_st i + 4) := by rw [h1, sw_ms_n _ _ _ (by omega)]
        have k5 : A2 (sw_st i + 5) = M' (sw_st i + 5) := by rw [h2, sw_ms_n _ _ _ (by omega), h1, sw_ms_n _ _ _ (by omega)]
        have k6 : A3 (sw_st i + 6) = M' (sw_st i + 6) := by rw [h3, sw_ms_n _ _ _ (by omega), h2, sw_ms_n _ _ _ (by omega), h1, sw_ms_n _ _ _ (by omega)]
        have k7 : A4 (sw_st i + 7) = M' (sw_st i + 7) := by rw [h4, sw_ms_n _ _ _ (by omega), h3, sw_ms_n _ _ _ (by omega), h2, sw_ms_n _ _ _ (by omega), h1, sw_ms_n _ _ _ (by omega)]
        have k8 : A5 (sw_st i + 8) = M' (sw_st i + 8) := by rw [h5, sw_ms_n _ _ _ (by omega), h4, sw_ms_n _ _ _ (by omega), h3, sw_ms_n _ _ _ (by omega), h2, sw_ms_n _ _ _ (by omega), h1, sw_ms_n _ _ _ (by omega)]
        rw [p3, p4, p5, p6, p7, p8]
        by_cases w : y = x
        · subst w
          refine ⟨?_, g7⟩
          rw [h6, ms_e, h5, ms_e, h4, ms_e, h3, ms_e, h2, ms_e, h1, ms_e]
          exact ⟨rfl, rfl, rfl, rfl, rfl, rfl⟩
        · have q := f2 y (by omega)
          refine ⟨?_, fun k hk => ?_⟩
          · rw [h6, ms_j _ _ _ w, k8, h5, ms_j _ _ _ w, k7, h4, ms_j _ _ _ w, k6, h3, ms_j _ _ _ w, k5, h2, ms_j _ _ _ w, k4, h1, ms_j _ _ _ w]
            exact q.1
          · rw [f7 _ (by omega), h6, sw_ms_n _ _ _ (by omega), h5, sw_ms_n _ _ _ (by omega), h4, sw_ms_n _ _ _ (by omega), h3, sw_ms_n _ _ _ (by omega), h2, sw_ms_n _ _ _ (by omega), h1, sw_ms_n _ _ _ (by omega)]
            exact q.2 k hk
  exact ⟨7, key2 6 0 M8 (by omega) (fun _ _ _ => rfl) (fun j hj => absurd hj (Nat.not_lt_zero j))⟩
