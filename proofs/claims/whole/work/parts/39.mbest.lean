/-! The reference's plans: the size of a greatest plan, the best plan. -/
theorem fr_rM {M M' : sM} {a : Nat → Nat} (h : rM M a) {lo hi : Nat} (f : fr lo hi M M') (hl : 35 ≤ lo) : rM M' a := rM_fr h (f 34 (by omega))
theorem nI_any (v : Int32) : v = nI v.toBitVec.toNat := Int32.toBitVec_inj.mp (BitVec.eq_of_toNat_eq (by rw [pk_tn v.toBitVec.isLt]))
section MF
variable {M : sM} {a c : Nat → Nat} {f : Nat}
theorem u7_mostFrom (hb : rB a) (hf : f ≤ a 0) (hc4 : ∀ x, x < 6 → c x ≤ 4) (hM : rM M a) (h38 : ∀ x, x < a 1 → M 38 x = nI (c x)) {Q : Int32 → sM → Prop} (h : ∀ M', fr 39 41 M M' → Q (nI (zmx (zG0 a) c f (a 0))) M') : wX7_mostFrom (nI f) M Q := by
  have hD := rB_D hb
  have hE := rB_E hb
  have key3 : ∀ m k, k + m = a 0 → f ≤ k → ∀ M2 w T, fr 39 41 M M2 → pW M2 a c w T → (∀ p, p < 24 → w p ≤ 8) → (∀ x q, x < 6 → q < 4 → w (4 * x + q) ≠ 0 → q < c x ∧ zG0 a x (w (4 * x + q) - 1)) → zMt (zG0 a) c f k (zot w) → zCt (zG0 a) c f k (zot w) → lX7_mostFrom_28 (fun x2_28k M_28k => Q x2_28k M_28k) (m + 1) (nI (zmn (zot w))) (nI k) M2 := by
    intro m
    induction m with
    | zero =>
      intro k hk hfk M2 w T f2 hW h8 hV hm hc
      unfold lX7_mostFrom_28
      have e : k = a 0 := by omega
      rw [rM_0 hW.1]
      refine brt (by rw [e]; exact nI_le (Nat.le_refl _) (by omega)) ?_
      have r := h M2 f2
      rw [zmx_of (by rw [← e]; exact zCt_opt hm hc)] at r
      exact r
    | succ m ih =>
      intro k hk hfk M2 w T f2 hW h8 hV hm hc
      have hk8 : k < 8 := by omega
      unfold lX7_mostFrom_28
      rw [rM_0 hW.1]
      refine brf (nI_ge (by omega) (by omega)) ?_
      have key4 : ∀ m2 x, x + m2 = 6 → ∀ M3 T3, fr 39 41 M M3 → pW M3 a c w T3 → (∀ y, y < x → T3 y = 0) → (∀ y, 6 ≤ y → T3 y = 0) → lX7_mostFrom_41 (fun M_41k => wX7_seat 8 (nI k) M_41k (fun r2 M3 => (r2 = 0 → (∀ v5 : Int32, v5 = (nI (zmn (zot w)) + (0 : Int32)) → (∀ v6 : Int32, v6 = nI k + (1 : Int32) → ((fun x2_28 x3_28 M_28 => lX7_mostFrom_28 (fun x2_28k M_28k => Q x2_28k M_28k) (m + 1) x2_28 x3_28 M_28) v5 v6 M3)))) ∧ (¬ r2 = 0 → (∀ v7 : Int32, v7 = (nI (zmn (zot w)) + (1 : Int32)) → (∀ v8 : Int32, v8 = nI k + (1 : Int32) → ((fun x2_28 x3_28 M_28 => lX7_mostFrom_28 (fun x2_28k M_28k => Q x2_28k M_28k) (m + 1) x2_28 x3_28 M_28) v7 v8 M3)))))) (m2 + 1) (nI x) M3 := by
        intro m2
        induction m2 with
        | zero =>
          intro x hx M3 T3 f3 hW3 t0 t6
          unfold lX7_mostFrom_41
          have e : x = 6 := by omega
          subst e
          refine brt (nI_le (b := 6) (Nat.le_refl _) (by omega)) ?_
          have tz : ∀ y, T3 y = 0 := fun y => by
            rcases Nat.lt_or_ge y 6 with s | s
            · exact t0 y s
            · exact t6 y s
          refine u7_seat hb hc4 8 k M3 w T3 _ hk8 (by omega) hW3 h8 (fun y => by rw [tz y]; omega) (fun M' w' T' f' hW' h8' wk wv wc => br1 ?_) (fun M' T' f' hW' s1 sm sg sc => br0 ?_)
          · intro v7 e7 v8 e8
            subst e7 e8
            have hV' : ∀ x q, x < 6 → q < 4 → w' (4 * x + q) ≠ 0 → q < c x ∧ zG0 a x (w' (4 * x + q) - 1) := fun x q hx hq hne => by
              rcases wv x q hx hq with s | ⟨j, s1, s2, s3⟩
              · rw [s] at hne ⊢; exact hV x q hx hq hne
              · rw [s1, Nat.add_sub_cancel]; exact ⟨s2, s3⟩
            have hm' : zMt (zG0 a) c f (k + 1) (zot w') := by
              refine ⟨fun x j hx hj hp => ?_, fun j hj => ?_, fun x hx => ?_⟩
              · obtain ⟨q, hq, e⟩ := zot_p hp
                have v := hV' x q hx hq (by omega)
                rw [e, Nat.add_sub_cancel] at v
                refine ⟨v.2, ?_⟩
                have t := wc j hj
                have t2 : zot w' x j ≤ zmc (zot w') j := zs_mem (f := fun x => zot w' x j) hx
                by_cases e2 : j = k
                · subst e2; exact ⟨hfk, by omega⟩
                · rw [if_neg e2] at t
                  obtain ⟨y, hy, hpy⟩ := zs_pos (f := fun x => zot w x j) (n := 6) (by show 0 < zmc (zot w) j; omega)
                  have := hm.1 y j hy hj hpy
                  exact ⟨this.2.1, by omega⟩
              · have t := wc j hj
                have t2 := hm.2.1 j hj
                by_cases e2 : j = k
                · subst e2
                  rw [if_pos rfl, zmc_0 hm hj (by omega)] at t
                  omega
                · rw [if_neg e2] at t; omega
              · rw [zot_r h8' hx]
                have c4 := hc4 x hx
                have b : ∀ q, q < 4 → (if w' (4 * x + q) = 0 then 0 else 1) ≤ (if q < c x then 1 else 0) := fun q hq => by
                  by_cases e : w' (4 * x + q) = 0
                  · rw [if_pos e]; exact Nat.zero_le _
                  · rw [if_neg e, if_pos (hV' x q hx hq e).1]; exact Nat.le_refl 1
                have b2 : zs (fun q => if q < c x then 1 else 0) 4 = c x := by
                  rcases (show c x = 0 ∨ c x = 1 ∨ c x = 2 ∨ c x = 3 ∨ c x = 4 by omega) with e | e | e | e | e <;> rw [e] <;> rfl
                have := zs_le (n := 4) b
                omega
            have r := ih (k + 1) (by omega) (by omega) M' w' T' (fr_t f3 f') hW' h8' hV' hm' (zCt_yes hm hc hm' wc)
            rw [zmn_up hk8 wc, nI_succ, nI_succ] at r
            exact r
          · intro v5 e5 v6 e6
            have e5 : v5 = nI (zmn (zot w)) := e5.trans (nA _)
            subst e5 e6
            have clo : ∀ x, T' x = 1 → ∀ q, q < c x → zfl (zG0 a) w T' (4 * x + q) := fun x hx => by
              rcases sc x hx with s | s
              · rw [tz x] at s; omega
              · exact s
            have r := ih (k + 1) (by omega) (by omega) M' w T' (fr_t f3 f') hW' h8 hV (zMt_w hm) (zCt_no hm hc hfk (R := fun x => T' x = 1) sg (fun x hx hR => ?_) (fun x hx hR j hj hp z hz hG => ?_))
            · rw [nI_succ] at r
              exact r
            · refine Nat.le_antisymm (hm.2.2 x hx) ?_
              rw [zot_r h8 hx]
              have c4 := hc4 x hx
              have b : ∀ q, q < 4 → (if q < c x then 1 else 0) ≤ (if w (4 * x + q) = 0 then 0 else 1) := fun q hq => by
                by_cases e : q < c x
                · obtain ⟨j, e2, -⟩ := clo x hR q e
                  rw [if_pos e, if_neg (by omega)]; exact Nat.le_refl 1
                · rw [if_neg e]; exact Nat.zero_le _
              have b2 : zs (fun q => if q < c x then 1 else 0) 4 = c x := by
                rcases (show c x = 0 ∨ c x = 1 ∨ c x = 2 ∨ c x = 3 ∨ c x = 4 by omega) with e | e | e | e | e <;> rw [e] <;> rfl
              have := zs_le (n := 4) b
              omega
            · obtain ⟨q, hq, e⟩ := zot_p hp
              obtain ⟨j2, e2, h2⟩ := clo x hR q (hV x q hx hq (by omega)).1
              have e3 : j2 = j := by omega
              subst e3
              exact h2 z hz hG
        | succ m2 ih2 =>
          intro x hx M3 T3 f3 hW3 t0 t6
          have hx6 : x < 6 := by omega
          unfold lX7_mostFrom_41
          refine brf (nI_ge (b := 6) (by omega) (by omega)) ⟨vin hx6 (by decide), ?_⟩
          intro M18 e18 v19 e19
          subst e19
          rw [cl (by omega)] at e18
          have e18 : M18 = sw_ms M3 40 x (nI 0) := e18
          have r := ih2 (x + 1) (by omega) M18 (zgu T3 x 0) (fr_t f3 (by rw [e18]; exact fr_s M3 _ _ (by decide))) (by rw [e18]; exact pW_T hW3 x 0) (fun y hy => by
            unfold zgu
            split
            · rfl
            · exact t0 y (by omega)) (fun y hy => by
            unfold zgu
            split
            · rfl
            · exact t6 y hy)
          rw [nI_succ] at r
          exact r
      refine ⟨7, key4 6 0 rfl M2 (fun y => if y < 6 then T y else 0) f2 ⟨hW.1, hW.2.1, hW.2.2.1, fun y hy => by show M2 40 y = nI (if y < 6 then T y else 0); rw [if_pos hy]; exact hW.2.2.2 y hy⟩ (fun y hy => absurd hy (Nat.not_lt_zero _)) (fun y hy => if_neg (by omega))⟩
  have key1 : ∀ m p, p + m = 24 → ∀ M2, fr 39 41 M M2 → (∀ r, r < p → M2 39 r = -1) → (∃ T : Nat → Nat, ∀ x, x < 6 → M2 40 x = nI (T x)) → lX7_mostFrom_2 (fun M_2k => ∃ n28, lX7_mostFrom_28 (fun x2_28k M_28k => Q x2_28k M_28k) n28 (0 : Int32) (nI f) M_2k) (m + 1) (nI p) M2 := by
    intro m
    induction m with
    | zero =>
      intro p hp M2 f2 h7 ⟨T, hT⟩
      unfold lX7_mostFrom_2
      have e : p = 24 := by omega
      subst e
      refine brt (nI_le (b := 24) (Nat.le_refl _) (by omega)) ?_
      have z0 : zot (fun _ => 0) = fun _ _ => 0 := by
        funext x k
        exact zs_zero (fun q _ => if_neg (show ¬ 0 = k + 1 by omega))
      have zn : zmn (fun _ _ => 0) = 0 := zs_zero (fun k _ => zs_zero (fun _ _ => rfl))
      have r := key3 (a 0 - f) f (by omega) (Nat.le_refl _) M2 (fun _ => 0) T f2 ⟨fr_rM hM f2 (by decide), fun x hx => by rw [f2 38 (by decide)]; exact h38 x hx, fun p hp => by rw [h7 p hp, nP_0], hT⟩ (fun _ _ => Nat.zero_le _) (fun x q _ _ hne => absurd rfl hne) (by rw [z0]; exact zMt_0) (by rw [z0]; exact zCt_0)
      rw [z0, zn] at r
      exact ⟨_, r⟩
    | succ m ih =>
      intro p hp M2 f2 h7 ⟨T, hT⟩
      unfold lX7_mostFrom_2
      refine brf (nI_ge (b := 24) (by omega) (by omega)) ⟨vin (by omega) (by decide), ?_⟩
      intro M3 e3 v e
      subst e
      rw [cl (by omega)] at e3
      have r := ih (p + 1) (by omega) M3 (fr_t f2 (by rw [e3]; exact fr_s M2 _ _ (by decide))) (fun j hj => by
        rw [e3, ms_a]
        by_cases e : j = p
        · subst e; rw [if_pos ⟨rfl, rfl⟩]
        · rw [if_neg (fun z => e z.2)]; exact h7 j (by omega)) ⟨T, fun x hx => by rw [e3, sw_ms_n _ _ _ (by decide)]; exact hT x hx⟩
      rw [nI_succ] at r
      exact r
  unfold wX7_mostFrom
  exact ⟨25, key1 24 0 rfl M (fr_r _ _ _) (fun j hj => absurd hj (Nat.not_lt_zero _)) ⟨fun x => (M 40 x).toBitVec.toNat, fun x _ => nI_any _⟩⟩
theorem u7_mostFromS (hb : rB a) (hf : f + 1 ≤ a 0) (hc4 : ∀ x, x < 6 → c x ≤ 4) (hM : rM M a) (h38 : ∀ x, x < a 1 → M 38 x = nI (c x)) {Q : Int32 → sM → Prop} (h : ∀ M', fr 39 41 M M' → Q (nI (zmx (zG0 a) c (f + 1) (a 0))) M') : wX7_mostFrom (nI f + 1) M Q := by
  rw [← nI_succ]
  exact u7_mostFrom hb hf hc4 hM h38 h
end MF
theorem u7_countsSeats {M : sM} {a : Nat → Nat} (hM : rM M a) (hb : rB a) {Q : sM → Prop} (h : ∀ M', fr 38 39 M M' → (∀ x, x < a 1 → M' 38 x = nI (zC0 a x)) → Q M') : wX7_countsSeats M Q := by
  have hE := rB_E hb
  have key : ∀ m x, x + m = a 1 → ∀ M2, fr 38 39 M M2 → (∀ y, y < x → M2 38 y = nI (zC0 a y)) → lX7_countsSeats_2 (fun M_2k => Q M_2k) (m + 1) (nI x) M2 := by
    intro m
    induction m with
    | zero =>
      intro x hx M2 f2 h2
      unfold lX7_countsSeats_2
      have e : x = a 1 := by omega
      rw [rM_1 (fr_rM hM f2 (by decide))]
      exact brt (by rw [e]; exact nI_le (Nat.le_refl _) (by omega)) (h M2 f2 (fun j hj => h2 j (by omega)))
    | succ m ih =>
      intro x hx M2 f2 h2
      have hx6 : x < 6 := by omega
      have hM2 := fr_rM hM f2 (by decide)
      unfold lX7_countsSeats_2
      rw [rM_1 hM2]
      refine brf (nI_ge (by omega) (by omega)) ?_
      refine u7_examiner hM2 hx6 (w := 2) (by decide) (u7_loadOf hM2 hb hx6 ⟨vin hx6 (by decide), ?_⟩)
      intro M5 e5 v6 e6
      subst e6
      rw [cl (by omega), pk_sub (zload_le hb hx6)] at e5
      have r := ih (x + 1) (by omega) M5 (fr_t f2 (by rw [e5]; exact fr_s M2 _ _ (by decide))) (fun y hy => by
        rw [e5, ms_a]
        by_cases e : y = x
        · subst e; rw [if_pos ⟨rfl, rfl⟩]; unfold zC0; rw [if_pos (by omega)]
        · rw [if_neg (fun z => e z.2)]; exact h2 y (by omega))
      rw [nI_succ] at r
      exact r
  unfold wX7_countsSeats
  exact ⟨a 1 + 1, key (a 1) 0 (by omega) M (fr_r _ _ _) (fun y hy => absurd hy (Nat.not_lt_zero _))⟩
theorem zC0_le4 {a : Nat → Nat} (hb : rB a) : ∀ x, x < 6 → zC0 a x ≤ 4 := fun x hx => by
  have := (hb.2.2.1 x hx).2.2.1
  unfold zC0
  split <;> omega
theorem zfst_E {p : Nat → Prop} {n N : Nat} (hn : n ≤ N) (h : ∀ x, n ≤ x → ¬ p x) : zfst p N = zfst p n := by
  rcases zfst_s p n with ⟨h1, h2⟩ | ⟨x, h1, h2, h3, h4⟩
  · rw [h1]
    refine zfst_0 (fun x hx => ?_)
    rcases Nat.lt_or_ge x n with q | q
    · exact h2 x q
    · exact h x q
  · rw [h4]
    exact zfst_p h2 h3 (by omega)
theorem u7_plans {M : sM} {a : Nat → Nat} (hM : rM M a) (hb : rB a) {Q : Int32 → sM → Prop} (h : ∀ M', fr 38 42 M M' → (∀ j, j < a 0 → M' 41 j = nP (zbp (zG0 a) (zC0 a) (a 0) j)) → Q (nI (zmx (zG0 a) (zC0 a) 0 (a 0))) M') : wX7_plans M Q := by
  have hE := rB_E hb
  have hD := rB_D hb
  unfold wX7_plans
  refine u7_countsSeats hM hb (fun M1 f1 h1 => ?_)
  refine u7_mostFrom (f := 0) hb (Nat.zero_le _) (zC0_le4 hb) (fr_rM hM f1 (by decide)) h1 (fun M3 f3 => ?_)
  have key : ∀ m k, k + m = a 0 → ∀ M2, fr 38 42 M M2 → (∀ x, x < a 1 → M2 38 x = nI ((zpl (zG0 a) (zC0 a) (a 0) k).1 x)) → (∀ j, j < k → M2 41 j = nP (zbp (zG0 a) (zC0 a) (a 0) j)) → lX7_plans_14 (fun M_14k => Q (nI (zmx (zG0 a) (zC0 a) 0 (a 0))) M_14k) (m + 1) (nI (zpl (zG0 a) (zC0 a) (a 0) k).2) (nI k) M2 := by
    intro m
    induction m with
    | zero =>
      intro k hk M2 f2 s2 h6
      unfold lX7_plans_14
      have e : k = a 0 := by omega
      rw [rM_0 (fr_rM hM f2 (by decide))]
      refine brt (by rw [e]; exact nI_le (Nat.le_refl _) (by omega)) (h M2 f2 (fun j hj => h6 j (by omega)))
    | succ m ih =>
      intro k hk M2 f2 s2 h6
      have hk8 : k < 8 := by omega
      unfold lX7_plans_14
      rw [rM_0 (fr_rM hM f2 (by decide))]
      refine brf (nI_ge (by omega) (by omega)) ⟨vin hk8 (by decide), ?_⟩
      intro M6 e6
      rw [cl (by omega)] at e6
      have s8 := zpl_8 (G := zG0 a) (c := zC0 a) (d := a 0) k
      have sle : ∀ x, x < 6 → (zpl (zG0 a) (zC0 a) (a 0) k).1 x ≤ 4 := fun x hx => Nat.le_trans (zpl_le k x) (zC0_le4 hb x hx)
      have eE : zfst (zcp (zG0 a) (a 0) k (zpl (zG0 a) (zC0 a) (a 0) k)) 6 = zfst (zcp (zG0 a) (a 0) k (zpl (zG0 a) (zC0 a) (a 0) k)) (a 1) := zfst_E hE (fun x hx w => by have := w.1.1; omega)
      -- behind the door
      have nxt : ∀ M4, fr 38 42 M M4 → (∀ x, x < a 1 → M4 38 x = nI ((zpl (zG0 a) (zC0 a) (a 0) (k + 1)).1 x)) → (∀ j, j < k → M4 41 j = nP (zbp (zG0 a) (zC0 a) (a 0) j)) → M4 41 k = nP (zbp (zG0 a) (zC0 a) (a 0) k) → ∀ v7 : Int32, v7 = nI k + (1 : Int32) → lX7_plans_14 (fun M_14k => Q (nI (zmx (zG0 a) (zC0 a) 0 (a 0))) M_14k) (m + 1) (nI (zpl (zG0 a) (zC0 a) (a 0) (k + 1)).2) v7 M4 := fun M4 f4 s4 o4 k4 v7 e7 => by
        subst e7
        have r := ih (k + 1) (by omega) M4 f4 s4 (fun j hj => by
          rcases Nat.lt_or_ge j k with q | q
          · exact o4 j q
          · have e : j = k := by omega
            subst e; exact k4)
        rw [nI_succ] at r
        exact r
      have key2 : ∀ m2 x, x + m2 = a 1 → ∀ M4, fr 38 42 M M4 → (∀ x, x < a 1 → M4 38 x = nI ((zpl (zG0 a) (zC0 a) (a 0) k).1 x)) → (∀ j, j < k → M4 41 j = nP (zbp (zG0 a) (zC0 a) (a 0) j)) → M4 41 k = -1 → (∀ y, y < x → ¬ zcp (zG0 a) (a 0) k (zpl (zG0 a) (zC0 a) (a 0) k) y) →
          lX7_plans_34 (nI k) (fun x2_34k M_34k => ∀ v7 : Int32, v7 = nI k + (1 : Int32) → ((fun x2_14 x3_14 M_14 => lX7_plans_14 (fun M_14k => Q (nI (zmx (zG0 a) (zC0 a) 0 (a 0))) M_14k) (m + 1) x2_14 x3_14 M_14) x2_34k v7 M_34k)) (m2 + 1) (nI (zpl (zG0 a) (zC0 a) (a 0) k).2) (nI x) M4 := by
        intro m2
        induction m2 with
        | zero =>
          intro x hx M4 f4 s4 o4 k4 hn
          unfold lX7_plans_34
          have e : x = a 1 := by omega
          have z0 : zbp (zG0 a) (zC0 a) (a 0) k = 0 := eE.trans (zfst_0 (by rw [← e]; exact hn))
          rw [rM_1 (fr_rM hM f4 (by decide))]
          refine brt (by rw [e]; exact nI_le (Nat.le_refl _) (by omega)) ?_
          have r := nxt M4 f4 (by rw [zpl_0 z0]; exact s4) o4 (by rw [z0, nP_0]; exact k4)
          rw [zpl_0 z0] at r
          exact r
        | succ m2 ih2 =>
          intro x hx M4 f4 s4 o4 k4 hn
          have hx6 : x < 6 := by omega
          have hxE : x < a 1 := by omega
          have hM4 := fr_rM hM f4 (by decide)
          unfold lX7_plans_34
          rw [rM_1 hM4]
          refine brf (nI_ge (by omega) (by omega)) ⟨vin hk8 (by decide), ?_⟩
          rw [cl (by omega), k4]
          refine brf (by decide) ⟨vin hx6 (by decide), ?_⟩
          rw [cl (by omega), s4 x hxE]
          have c4 := sle x hx6
          have no : ¬ zcp (zG0 a) (a 0) k (zpl (zG0 a) (zC0 a) (a 0) k) x → ∀ M5, fr 38 42 M M5 → (∀ x, x < a 1 → M5 38 x = nI ((zpl (zG0 a) (zC0 a) (a 0) k).1 x)) → (∀ j, j < k → M5 41 j = nP (zbp (zG0 a) (zC0 a) (a 0) j)) → M5 41 k = -1 → ∀ v : Int32, v = nI x + 1 → lX7_plans_34 (nI k) (fun x2_34k M_34k => ∀ v7 : Int32, v7 = nI k + (1 : Int32) → ((fun x2_14 x3_14 M_14 => lX7_plans_14 (fun M_14k => Q (nI (zmx (zG0 a) (zC0 a) 0 (a 0))) M_14k) (m + 1) x2_14 x3_14 M_14) x2_34k v7 M_34k)) (m2 + 1) (nI (zpl (zG0 a) (zC0 a) (a 0) k).2) v M5 := fun hnx M5 f5 s5 o5 k5 v e => by
            subst e
            have r := ih2 (x + 1) (by omega) M5 f5 s5 o5 k5 (fun y hy => by
              rcases Nat.lt_or_ge y x with q | q
              · exact hn y q
              · have e : y = x := by omega
                subst e; exact hnx)
            rw [nI_succ] at r
            exact r
          refine bri (nI_leI (b := 0) (by omega) (by decide)) (fun z0 => fun v15 e15 => no (fun w => by have := w.2.1; omega) M4 f4 s4 o4 k4 v15 e15) (fun z0 => ?_)
          refine u7_canGet hM4 hb hx6 hk8 (fun g => br1 ⟨vin hx6 (by decide), vin hx6 (by decide), ?_⟩) (fun g => br0 (fun v18 e18 => no (fun w => g w.1.2) M4 f4 s4 o4 k4 v18 e18))
          have hG : zG0 a x k := ⟨hxE, g⟩
          intro M21 e21
          have e21 : M21 = sw_ms M4 38 x (nI ((zpl (zG0 a) (zC0 a) (a 0) k).1 x - 1)) := by
            rw [e21]
            have := nI_pred ((zpl (zG0 a) (zC0 a) (a 0) k).1 x - 1)
            rw [Nat.sub_add_cancel (by omega)] at this
            rw [this]
          have f21 : fr 38 39 M4 M21 := by rw [e21]; exact fr_s M4 _ _ (by decide)
          have s21 : ∀ y, y < a 1 → M21 38 y = nI (zsub (zpl (zG0 a) (zC0 a) (a 0) k).1 x y) := fun y hy => by
            rw [e21, ms_a]
            unfold zsub
            by_cases e : y = x
            · subst e; rw [if_pos ⟨rfl, rfl⟩, if_pos rfl]
            · rw [if_neg (fun z => e z.2), if_neg e]; exact s4 y hy
          refine u7_mostFromS hb (by omega) (fun y hy => by
            unfold zsub
            have := sle y hy
            split <;> omega) (fr_rM hM4 f21 (by decide)) s21 (fun M23 f23 => ?_)
          have s23 : ∀ y, y < a 1 → M23 38 y = nI (zsub (zpl (zG0 a) (zC0 a) (a 0) k).1 x y) := fun y hy => by rw [f23 38 (by decide)]; exact s21 y hy
          have f23' : fr 38 42 M M23 := fr_t f4 (fr_t (fr_w f21 (by decide) (by decide)) (fr_w f23 (by decide) (by decide)))
          have m41 : M23 41 = M4 41 := by rw [f23 41 (by decide), f21 41 (by decide)]
          have mx := zmx_8 (G := zG0 a) (c := zsub (zpl (zG0 a) (zC0 a) (a 0) k).1 x) (f := k + 1) (d := a 0)
          rw [show (1 : Int32) + nI (zmx (zG0 a) (zsub (zpl (zG0 a) (zC0 a) (a 0) k).1 x) (k + 1) (a 0)) = nI (1 + zmx (zG0 a) (zsub (zpl (zG0 a) (zC0 a) (a 0) k).1 x) (k + 1) (a 0)) from nI_add 1 _]
          refine bri (nI_eq (by omega) (by omega)) (fun w => ?_) (fun w => ?_)
          · -- this one
            have hp : zcp (zG0 a) (a 0) k (zpl (zG0 a) (zC0 a) (a 0) k) x := ⟨hG, by omega, w⟩
            have ez : zbp (zG0 a) (zC0 a) (a 0) k = x + 1 := zfst_p hp hn hx6
            unfold jX7_plans_103
            refine br1 ?_
            unfold jX7_plans_121
            refine ⟨vin hk8 (by decide), ?_⟩
            intro M25 e25
            rw [cl (by omega)] at e25
            refine br1 ?_
            unfold jX7_plans_133
            intro v26 e26
            have e26 : v26 = nI ((zpl (zG0 a) (zC0 a) (a 0) k).2 - 1) := by rw [e26]; exact pk_sub (b := 1) (by omega)
            subst e26
            refine ⟨vin hx6 (by decide), br1 ⟨vin hx6 (by decide), ?_⟩⟩
            intro M33 e33 v34 e34
            subst e34
            rw [cl (by omega), Int32.add_zero] at e33
            have sz : (zpl (zG0 a) (zC0 a) (a 0) (k + 1)) = (zsub (zpl (zG0 a) (zC0 a) (a 0) k).1 x, (zpl (zG0 a) (zC0 a) (a 0) k).2 - 1) := by
              rw [zpl_s (by omega), ez, Nat.add_sub_cancel]
            have e38 : M33 38 = M25 38 := by
              funext j
              rw [e33, ms_a]
              by_cases e : j = x
              · subst e; rw [if_pos ⟨rfl, rfl⟩]
              · rw [if_neg (fun z => e z.2)]
            have e41 : M33 41 = M25 41 := by rw [e33]; exact sw_ms_n _ _ _ (by decide)
            have k25 : M25 41 k = nI x := by rw [e25, ms_e]
            have fz : fr 38 42 M M33 := fr_t f23' (fr_t (M1 := M25) (by rw [e25]; exact fr_s M23 _ _ (by decide)) (by rw [e33]; exact fr_s M25 _ _ (by decide)))
            have r := nxt M33 fz (fun y hy => by rw [sz, e38, e25, sw_ms_n _ _ _ (by decide)]; exact s23 y hy) (fun j hj => by rw [e41, e25, ms_j _ _ _ (by omega), m41]; exact o4 j hj) (by rw [e41, k25, ez, nP_S])
            rw [sz] at r
            -- the loop ends: the door has its examiner
            obtain ⟨m3, em3⟩ : ∃ m3, m2 + 1 = m3 + 1 := ⟨m2, rfl⟩
            show lX7_plans_34 _ _ (m2 + 1) _ _ _
            unfold lX7_plans_34
            rw [rM_1 (fr_rM hM fz (by decide)), ← nI_succ x]
            refine ⟨fun _ => r, fun _ => ⟨vin hk8 (by decide), ?_⟩⟩
            rw [cl (by omega), e41, k25]
            exact brt (nI_pos' (by omega)) r
          · unfold jX7_plans_103
            refine br0 ?_
            unfold jX7_plans_121
            refine ⟨vin hk8 (by decide), ?_⟩
            intro M25 e25
            rw [cl (by omega)] at e25
            refine br0 ?_
            unfold jX7_plans_133
            intro v26 e26
            have e26 : v26 = nI (zpl (zG0 a) (zC0 a) (a 0) k).2 := by rw [e26]; exact Int32.sub_zero _
            subst e26
            refine ⟨vin hx6 (by decide), br0 ⟨vin hx6 (by decide), ?_⟩⟩
            intro M30 e30
            rw [cl (by omega)] at e30
            have s25 : ∀ y, y < a 1 → M25 38 y = nI (zsub (zpl (zG0 a) (zC0 a) (a 0) k).1 x y) := fun y hy => by rw [e25, sw_ms_n _ _ _ (by decide)]; exact s23 y hy
            refine no (fun u => w u.2.2) M30 (fr_t f23' (fr_t (M1 := M25) (by rw [e25]; exact fr_s M23 _ _ (by decide)) (by rw [e30]; exact fr_s M25 _ _ (by decide)))) (fun y hy => ?_) (fun j hj => ?_) ?_
            · have t := s25 y hy
              unfold zsub at t
              rw [e30, ms_a]
              by_cases e : y = x
              · subst e
                rw [if_pos rfl] at t
                rw [if_pos ⟨rfl, rfl⟩, t, ← nI_succ, Nat.sub_add_cancel (by omega)]
              · rw [if_neg e] at t
                rw [if_neg (fun z => e z.2)]; exact t
            · rw [e30, sw_ms_n _ _ _ (by decide), e25, ms_j _ _ _ (by omega), m41]; exact o4 j hj
            · rw [e30, sw_ms_n _ _ _ (by decide), e25, ms_e]
      exact ⟨a 1 + 1, key2 (a 1) 0 (by omega) M6 (fr_t f2 (by rw [e6]; exact fr_s M2 _ _ (by decide))) (fun x hx => by rw [e6, sw_ms_n _ _ _ (by decide)]; exact s2 x hx) (fun j hj => by rw [e6, ms_j _ _ _ (by omega)]; exact h6 j hj) (by rw [e6, ms_e]) (fun y hy => absurd hy (Nat.not_lt_zero _))⟩
  exact ⟨a 0 + 1, key (a 0) 0 (by omega) M3 (fr_t (fr_w f1 (by decide) (by decide)) (fr_w f3 (by decide) (by decide))) (fun x hx => by rw [f3 38 (by decide)]; exact h1 x hx) (fun j hj => absurd hj (Nat.not_lt_zero _))⟩
theorem fr_fd {M M' : sM} {lo hi : Nat} (f : fr lo hi M M') (h1 : 38 ≤ lo) (h2 : hi ≤ 43) : fd M M' := ⟨fun k _ _ h => f k (by omega), fun j _ => congrFun (f 33 (by omega)) j⟩
theorem u7_doPlan {M : sM} {a : Nat → Nat} (hM : rM M a) (hb : rB a) (ht : M 33 6 = 0) {Q : Int32 → sM → Prop} (h : zK (oPlan a) M Q) : wX7_doPlan M Q := by
  have hD := rB_D hb
  unfold wX7_doPlan
  refine u7_plans hM hb (fun M1 f1 h1 => ?_)
  have key : ∀ m k, k + m = a 0 → ∀ M2, fd M M2 → M2 33 6 = 0 → M2 41 = M1 41 → rM M2 (zpr a k) → lX7_doPlan_7 (fun M_7k => Q (nI (zmx (zG0 a) (zC0 a) 0 (a 0))) M_7k) (m + 1) (nI k) M2 := by
    intro m
    induction m with
    | zero =>
      intro k hk M2 f2 t2 e2 r2
      have I := zpi_k hb k (by omega)
      have e : k = a 0 := by omega
      unfold lX7_doPlan_7
      rw [rM_0 r2, I.2.1 0 (by omega)]
      refine brt (by rw [e]; exact nI_le (Nat.le_refl _) (by omega)) (h M2 f2 ?_ t2)
      subst e
      exact r2
    | succ m ih =>
      intro k hk M2 f2 t2 e2 r2
      have I := zpi_k hb k (by omega)
      have hk8 : k < 8 := by omega
      unfold lX7_doPlan_7
      rw [rM_0 r2, I.2.1 0 (by omega)]
      refine brf (nI_ge (by omega) (by omega)) ⟨vin hk8 (by decide), ?_⟩
      rw [cl (by omega), e2, h1 k (by omega)]
      have b6 := zbp_6 (G := zG0 a) (c := zC0 a) (d := a 0) (k := k)
      refine bri (nP_lt0 (by omega)) (fun z => ?_) (fun z => ⟨vin hk8 (by decide), ?_⟩)
      · intro v6 e6
        subst e6
        have r := ih (k + 1) (by omega) M2 f2 t2 e2 (by rw [zpr_0 z]; exact r2)
        rw [nI_succ] at r
        exact r
      · obtain ⟨x, hx, e, -⟩ := zbp_s z
        rw [e, nP_S]
        refine u7_setsPair (w := 1) (v := 1) hx hk8 (by decide) ?_
        intro v9 e9
        subst e9
        have r := ih (k + 1) (by omega) (sw_ms M2 34 (68 + 3 * (8 * x + k) + 1) (nI 1)) (fd_t f2 (fd_s _ _ _)) (by rw [ms_33]; exact t2) (by rw [sw_ms_n _ _ _ (by decide)]; exact e2) (by rw [zpr_s e]; exact rM_u r2 _ _)
        rw [nI_succ] at r
        exact r
  exact ⟨a 0 + 1, key (a 0) 0 (by omega) M1 (fr_fd f1 (by decide) (by decide)) (by rw [f1 33 (by decide)]; exact ht) rfl (fr_rM hM f1 (by decide))⟩
