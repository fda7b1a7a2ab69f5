/-! The reference's plans: seats and their owners. -/
def zot (w : Nat → Nat) : Nat → Nat → Nat := fun x k => zs (fun q => if w (4 * x + q) = k + 1 then 1 else 0) 4
theorem zot_p {w : Nat → Nat} {x k : Nat} (h : 0 < zot w x k) : ∃ q, q < 4 ∧ w (4 * x + q) = k + 1 := by
  obtain ⟨q, hq, h2⟩ := zs_pos h
  refine ⟨q, hq, ?_⟩
  by_cases e : w (4 * x + q) = k + 1
  · exact e
  · have h2 : 0 < (if w (4 * x + q) = k + 1 then 1 else 0) := h2
    rw [if_neg e] at h2; omega
theorem zot_r {w : Nat → Nat} (h8 : ∀ p, p < 24 → w p ≤ 8) {x : Nat} (hx : x < 6) : zmr (zot w) x = zs (fun q => if w (4 * x + q) = 0 then 0 else 1) 4 := by
  unfold zmr zot
  rw [zs_swap (fun k q => if w (4 * x + q) = k + 1 then 1 else 0) 4 8]
  refine zs_cong (fun q hq => ?_)
  have b := h8 (4 * x + q) (by omega)
  rcases Nat.eq_zero_or_pos (w (4 * x + q)) with e | e
  · rw [if_pos e]
    exact zs_zero (fun k _ => if_neg (by omega))
  · rw [if_neg (by omega)]
    refine (zs_cong (g := fun k => if k = w (4 * x + q) - 1 then 1 else 0) (fun k _ => ?_)).trans (zs_at (w (4 * x + q) - 1) (by omega))
    show (if w (4 * x + q) = k + 1 then 1 else 0) = (if k = w (4 * x + q) - 1 then 1 else 0)
    by_cases e2 : w (4 * x + q) = k + 1
    · rw [if_pos e2, if_pos (by omega)]
    · rw [if_neg e2, if_neg (by omega)]
/-- owners changed at one place: the columns -/
theorem zot_u {w : Nat → Nat} {x q v j : Nat} (hx : x < 6) (hq : q < 4) : zmc (zot (zgu w (4 * x + q) v)) j + (if w (4 * x + q) = j + 1 then 1 else 0) = zmc (zot w) j + (if v = j + 1 then 1 else 0) := by
  have h1 := zs_upd (fun z => zot w z j) x (zot (zgu w (4 * x + q) v) x j) hx
  have h2 : zmc (zot (zgu w (4 * x + q) v)) j = zs (fun z => if z = x then zot (zgu w (4 * x + q) v) x j else zot w z j) 6 := zs_cong (fun z _ => by
    show zot (zgu w (4 * x + q) v) z j = _
    by_cases e : z = x
    · subst e; rw [if_pos rfl]
    · rw [if_neg e]
      refine zs_cong (fun r hr => ?_)
      show (if zgu w (4 * x + q) v (4 * z + r) = j + 1 then 1 else 0) = _
      unfold zgu
      rw [if_neg (show ¬ 4 * z + r = 4 * x + q by omega)])
  have h3 := zs_upd (fun r => if w (4 * x + r) = j + 1 then 1 else 0) q (if v = j + 1 then 1 else 0) hq
  have h4 : zot (zgu w (4 * x + q) v) x j = zs (fun r => if r = q then (if v = j + 1 then 1 else 0) else (if w (4 * x + r) = j + 1 then 1 else 0)) 4 := zs_cong (fun r _ => by
    show (if zgu w (4 * x + q) v (4 * x + r) = j + 1 then 1 else 0) = _
    unfold zgu
    by_cases e : r = q
    · subst e; rw [if_pos rfl, if_pos rfl]
    · rw [if_neg (show ¬ 4 * x + r = 4 * x + q by omega), if_neg e])
  have h5 : zot w x j = zs (fun r => if w (4 * x + r) = j + 1 then 1 else 0) 4 := rfl
  have h6 : zmc (zot w) j = zs (fun z => zot w z j) 6 := rfl
  omega
/-- the reference's rows for its plans -/
def pW (M : sM) (a c w T : Nat → Nat) : Prop := rM M a ∧ (∀ x, x < a 1 → M 38 x = nI (c x)) ∧ (∀ p, p < 24 → M 39 p = nP (w p)) ∧ ∀ x, x < 6 → M 40 x = nI (T x)
theorem pW_w {M : sM} {a c w T : Nat → Nat} (h : pW M a c w T) (p v : Nat) : pW (sw_ms M 39 p (nI v)) a c (zgu w p (v + 1)) T := by
  refine ⟨rM_fr h.1 (sw_ms_n _ _ _ (by decide)), fun x hx => by rw [sw_ms_n _ _ _ (by decide)]; exact h.2.1 x hx, fun r hr => ?_, fun x hx => by rw [sw_ms_n _ _ _ (by decide)]; exact h.2.2.2 x hx⟩
  rw [ms_a]
  unfold zgu
  by_cases e : r = p
  · subst e; rw [if_pos ⟨rfl, rfl⟩, if_pos rfl, nP_S]
  · rw [if_neg (fun z => e z.2), if_neg e]; exact h.2.2.1 r hr
theorem pW_T {M : sM} {a c w T : Nat → Nat} (h : pW M a c w T) (x v : Nat) : pW (sw_ms M 40 x (nI v)) a c w (zgu T x v) := by
  refine ⟨rM_fr h.1 (sw_ms_n _ _ _ (by decide)), fun y hy => by rw [sw_ms_n _ _ _ (by decide)]; exact h.2.1 y hy, fun r hr => by rw [sw_ms_n _ _ _ (by decide)]; exact h.2.2.1 r hr, fun y hy => ?_⟩
  rw [ms_a]
  unfold zgu
  by_cases e : y = x
  · subst e; rw [if_pos ⟨rfl, rfl⟩, if_pos rfl]
  · rw [if_neg (fun z => e z.2), if_neg e]; exact h.2.2.2 y hy
/-- a full seat: its owner was tried in vain -/
def zfl (G : Nat → Nat → Prop) (w T : Nat → Nat) (p : Nat) : Prop := ∃ j, w p = j + 1 ∧ ∀ z, z < 6 → G z j → T z = 1
theorem zfl_m {G : Nat → Nat → Prop} {w T T2 : Nat → Nat} {p : Nat} (h : zfl G w T p) (hT : ∀ z, T z = 1 → T2 z = 1) : zfl G w T2 p := by
  obtain ⟨j, e, h2⟩ := h
  exact ⟨j, e, fun z hz hG => hT z (h2 z hz hG)⟩
theorem nbt {n : Nat} (h : n ≤ 1) : vp_nar .boolean (nI n) = nI n := by
  rcases (show n = 0 ∨ n = 1 by omega) with e | e <;> subst e <;> decide
theorem u7_seat {a c : Nat → Nat} (hb : rB a) (hc4 : ∀ x, x < 6 → c x ≤ 4) : ∀ (n : Nat) (k : Nat) (M : sM) (w T : Nat → Nat) (Q : Int32 → sM → Prop), k < 8 → 7 ≤ n + zs T 6 → pW M a c w T → (∀ p, p < 24 → w p ≤ 8) → (∀ x, T x ≤ 1) →
    (∀ M' w' T', fr 39 41 M M' → pW M' a c w' T' → (∀ p, p < 24 → w' p ≤ 8) → (∀ x q, T x = 1 → q < 4 → w' (4 * x + q) = w (4 * x + q)) → (∀ x q, x < 6 → q < 4 → w' (4 * x + q) = w (4 * x + q) ∨ ∃ j, w' (4 * x + q) = j + 1 ∧ q < c x ∧ zG0 a x j) → (∀ j, j < 8 → zmc (zot w') j = zmc (zot w) j + if j = k then 1 else 0) → Q 1 M') →
    (∀ M' T', fr 39 41 M M' → pW M' a c w T' → (∀ x, T' x ≤ 1) → (∀ x, T x = 1 → T' x = 1) → (∀ x, x < 6 → zG0 a x k → T' x = 1) → (∀ x, T' x = 1 → T x = 1 ∨ ∀ q, q < c x → zfl (zG0 a) w T' (4 * x + q)) → Q 0 M') → wX7_seat n (nI k) M Q
  | 0, k, M, w, T, Q, hk, hn, hW, h8, hT, _, _ => by
    have := zs_bound (f := T) (n := 6) (c := 1) (fun x _ => hT x)
    omega
  | n + 1, k, M, w, T, Q, hk, hn, hW, h8, hT, h1, h0 => by
    have hE := rB_E hb
    have key : ∀ m x, x + m = a 1 → ∀ M2 T2, fr 39 41 M M2 → pW M2 a c w T2 → (∀ y, T2 y ≤ 1) → (∀ y, T y = 1 → T2 y = 1) → (∀ y, y < x → zG0 a y k → T2 y = 1) → (∀ y, T2 y = 1 → T y = 1 ∨ ∀ q, q < c y → zfl (zG0 a) w T2 (4 * y + q)) →
        lX7_seat_2 (nI k) (fun a1 M Q => wX7_seat n a1 M Q) Q (fun M_2k => Q (0 : Int32) M_2k) (m + 1) (nI x) M2 := by
      intro m
      induction m with
      | zero =>
        intro x hx M2 T2 f2 hW2 t1 tm tg tc
        unfold lX7_seat_2
        have e : x = a 1 := by omega
        rw [rM_1 hW2.1]
        refine brt (by rw [e]; exact nI_le (Nat.le_refl _) (by omega)) (h0 M2 T2 f2 hW2 t1 tm (fun y _ hG => tg y (by have := hG.1; omega) hG) tc)
      | succ m ih =>
        intro x hx M2 T2 f2 hW2 t1 tm tg tc
        have hx6 : x < 6 := by omega
        unfold lX7_seat_2
        rw [rM_1 hW2.1]
        refine brf (nI_ge (by omega) (by omega)) ⟨vin hx6 (by decide), ?_⟩
        rw [cl (by omega), hW2.2.2.2 x hx6]
        have tx := t1 x
        refine bri (nI_eq (b := 0) (by omega) (by decide)) (fun z => ?_) (fun z => ?_)
        · refine u7_canGet hW2.1 hb hx6 hk (fun g => br1 ⟨vin hx6 (by decide), ?_⟩) (fun g => br0 ?_)
          · have hG : zG0 a x k := ⟨by omega, g⟩
            intro M9 e9
            have e9 : M9 = sw_ms M2 40 x (nI 1) := e9
            have hW9 : pW M9 a c w (zgu T2 x 1) := by rw [e9]; exact pW_T hW2 x 1
            have f9 : fr 39 41 M M9 := fr_t f2 (by rw [e9]; exact fr_s M2 _ _ (by decide))
            have hnT : ¬ T x = 1 := fun e => by have := tm x e; omega
            have key2 : ∀ m2 q, q + m2 = c x → ∀ M3 T3, fr 39 41 M M3 → pW M3 a c w T3 → (∀ y, T3 y ≤ 1) → (∀ y, T2 y = 1 ∨ y = x → T3 y = 1) → (∀ y, T3 y = 1 → T y = 1 ∨ y = x ∨ ∀ q, q < c y → zfl (zG0 a) w T3 (4 * y + q)) → (∀ q', q' < q → zfl (zG0 a) w T3 (4 * x + q')) →
                lX7_seat_39 (nI k) (nI x) (fun a1 M Q => wX7_seat n a1 M Q) Q (fun M_39k => ∀ v10 : Int32, v10 = nI x + (1 : Int32) → ((fun x2_2 M_2 => lX7_seat_2 (nI k) (fun a1 M Q => wX7_seat n a1 M Q) Q (fun M_2k => Q (0 : Int32) M_2k) (m + 1) x2_2 M_2) v10 M_39k)) (m2 + 1) (nI q) M3 := by
              intro m2
              induction m2 with
              | zero =>
                intro q hq M3 T3 f3 hW3 u1 um uc up
                have eq : q = c x := by omega
                have c4 := hc4 x hx6
                unfold lX7_seat_39
                refine ⟨vin hx6 (by decide), ?_⟩
                rw [cl (by omega), hW3.2.1 x (by omega)]
                refine brt (by rw [eq]; exact nI_le (Nat.le_refl _) (by omega)) ?_
                intro v10 e10
                subst e10
                have r := ih (x + 1) (by omega) M3 T3 f3 hW3 u1 (fun y hy => um y (.inl (tm y hy))) (fun y hy hGy => by
                  rcases Nat.lt_or_ge y x with s | s
                  · exact um y (.inl (tg y s hGy))
                  · exact um y (.inr (by omega))) (fun y hy => by
                  rcases uc y hy with s | s | s
                  · exact .inl s
                  · subst s; exact .inr (fun q' hq' => up q' (by omega))
                  · exact .inr s)
                rw [nI_succ] at r
                exact r
              | succ m2 ih2 =>
                intro q hq M3 T3 f3 hW3 u1 um uc up
                have c4 := hc4 x hx6
                have hq4 : q < 4 := by omega
                have hp : 4 * x + q < 24 := by omega
                have wp8 := h8 (4 * x + q) hp
                unfold lX7_seat_39
                refine ⟨vin hx6 (by decide), ?_⟩
                rw [cl (by omega), hW3.2.1 x (by omega)]
                refine brf (nI_ge (by omega) (by omega)) ?_
                intro v14 e14
                have e14 : v14 = nI (4 * x + q) := by
                  rw [e14, show (4 : Int32) = nI 4 from rfl, pk_mul, nI_add]
                subst e14
                refine ⟨vin hp (by decide), ?_⟩
                rw [cl (by omega), hW3.2.2.1 _ hp]
                refine bri (nP_lt0 (by omega)) (fun z3 => ⟨vin hp (by decide), ?_⟩) (fun z3 => ⟨vin hp (by decide), ?_⟩)
                · intro M18 e18
                  have hW18 := pW_w hW3 (4 * x + q) k
                  rw [← e18] at hW18
                  refine h1 M18 _ T3 (fr_t f3 (by rw [e18]; exact fr_s M3 _ _ (by decide))) hW18 (fun p hp => ?_) (fun y r hy hr => ?_) (fun y r hy hr => ?_) (fun j hj => ?_)
                  · unfold zgu; split
                    · omega
                    · exact h8 p hp
                  · have hyx : y ≠ x := fun e => hnT (e ▸ hy)
                    unfold zgu
                    rw [if_neg (by omega)]
                  · unfold zgu
                    by_cases e : 4 * y + r = 4 * x + q
                    · rw [if_pos e]
                      have e2 : y = x := by omega
                      have e3 : r = q := by omega
                      subst e2 e3
                      exact .inr ⟨k, rfl, by omega, hG⟩
                    · rw [if_neg e]; exact .inl rfl
                  · have := zot_u (w := w) (v := k + 1) (j := j) hx6 hq4
                    rw [z3, if_neg (by omega)] at this
                    by_cases e : j = k
                    · rw [if_pos e]; rw [if_pos (by omega)] at this; omega
                    · rw [if_neg e]; rw [if_neg (by omega)] at this; omega
                · obtain ⟨o, ho⟩ : ∃ o, w (4 * x + q) = o + 1 := ⟨w (4 * x + q) - 1, by omega⟩
                  rw [ho, nP_S]
                  have zT : zs T 6 + 1 ≤ zs T3 6 := by
                    refine zs_lt (j := x) (fun y _ => ?_) hx6 ?_
                    · have := hT y
                      by_cases e : T y = 1
                      · have := um y (.inl (tm y e)); omega
                      · omega
                    · have := um x (.inr rfl)
                      have := hT x
                      omega
                  refine u7_seat hb hc4 n o M3 w T3 _ (by omega) (by omega) hW3 h8 u1 (fun M' w' T' f' hW' h8' wk wv wc => br1 ⟨vin hp (by decide), ?_⟩) (fun M' T' f' hW' s1 sm sg sc => br0 ?_)
                  · intro M25 e25
                    have hW25 := pW_w hW' (4 * x + q) k
                    rw [← e25] at hW25
                    have wpo : w' (4 * x + q) = o + 1 := (wk x q (um x (.inr rfl)) hq4).trans ho
                    refine h1 M25 _ T' (fr_t f3 (fr_t f' (by rw [e25]; exact fr_s M' _ _ (by decide)))) hW25 (fun p hp => ?_) (fun y r hy hr => ?_) (fun y r hy hr => ?_) (fun j hj => ?_)
                    · unfold zgu; split
                      · omega
                      · exact h8' p hp
                    · have hyx : y ≠ x := fun e => hnT (e ▸ hy)
                      unfold zgu
                      rw [if_neg (by omega)]
                      exact wk y r (um y (.inl (tm y hy))) hr
                    · unfold zgu
                      by_cases e : 4 * y + r = 4 * x + q
                      · rw [if_pos e]
                        have e2 : y = x := by omega
                        have e3 : r = q := by omega
                        subst e2 e3
                        exact .inr ⟨k, rfl, by omega, hG⟩
                      · rw [if_neg e]; exact wv y r hy hr
                    · have := zot_u (w := w') (v := k + 1) (j := j) hx6 hq4
                      rw [wpo] at this
                      have t := wc j hj
                      by_cases e : j = k
                      · rw [if_pos e]; rw [if_pos (show k + 1 = j + 1 by omega)] at this
                        by_cases e2 : j = o
                        · rw [if_pos e2] at t; rw [if_pos (by omega)] at this; omega
                        · rw [if_neg e2] at t; rw [if_neg (by omega)] at this; omega
                      · rw [if_neg e]; rw [if_neg (show ¬ k + 1 = j + 1 by omega)] at this
                        by_cases e2 : j = o
                        · rw [if_pos e2] at t; rw [if_pos (by omega)] at this; omega
                        · rw [if_neg e2] at t; rw [if_neg (by omega)] at this; omega
                  · intro v23 e23
                    subst e23
                    have r := ih2 (q + 1) (by omega) M' T' (fr_t f3 f') hW' s1 (fun y hy => sm y (um y hy)) (fun y hy => by
                      rcases sc y hy with s | s
                      · rcases uc y s with s | s | s
                        · exact .inl s
                        · exact .inr (.inl s)
                        · exact .inr (.inr (fun q' hq' => zfl_m (s q' hq') sm))
                      · exact .inr (.inr s)) (fun q' hq' => by
                      rcases Nat.lt_or_ge q' q with s | s
                      · exact zfl_m (up q' s) sm
                      · have e : q' = q := by omega
                        subst e
                        exact ⟨o, ho, sg⟩)
                    rw [nI_succ] at r
                    exact r
            refine ⟨c x + 1, key2 (c x) 0 (by omega) M9 (zgu T2 x 1) f9 hW9 (fun y => by unfold zgu; split; omega; exact t1 y) (fun y hy => ?_) (fun y hy => ?_) (fun q hq => absurd hq (Nat.not_lt_zero _))⟩
            · unfold zgu
              by_cases e : y = x
              · rw [if_pos e]
              · rw [if_neg e]
                rcases hy with hy | hy
                · exact hy
                · exact absurd hy e
            · by_cases e : y = x
              · exact .inr (.inl e)
              · have hy2 : T2 y = 1 := by unfold zgu at hy; rw [if_neg e] at hy; exact hy
                rcases tc y hy2 with s | s
                · exact .inl s
                · refine .inr (.inr (fun q hq => zfl_m (s q hq) (fun y2 hy2 => ?_)))
                  unfold zgu
                  split
                  · rfl
                  · exact hy2
          · intro v7 e7
            subst e7
            have r := ih (x + 1) (by omega) M2 T2 f2 hW2 t1 tm (fun y hy hGy => by
              rcases Nat.lt_or_ge y x with s | s
              · exact tg y s hGy
              · have e : y = x := by omega
                subst e; exact absurd hGy.2 g) tc
            rw [nI_succ] at r
            exact r
        · intro v4 e4
          subst e4
          have r := ih (x + 1) (by omega) M2 T2 f2 hW2 t1 tm (fun y hy hGy => by
            rcases Nat.lt_or_ge y x with s | s
            · exact tg y s hGy
            · have e : y = x := by omega
              subst e; omega) tc
          rw [nI_succ] at r
          exact r
    unfold wX7_seat
    exact ⟨a 1 + 1, key (a 1) 0 (by omega) M T (fr_r _ _ _) hW hT (fun y hy => hy) (fun y hy => absurd hy (Nat.not_lt_zero _)) (fun y hy => .inl hy)⟩
