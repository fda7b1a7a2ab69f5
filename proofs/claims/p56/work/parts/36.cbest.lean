/-! The class's planner: the size of a greatest plan, the best plan. -/
theorem zs_at (k0 : Nat) {n : Nat} (h : k0 < n) : zs (fun k => if k = k0 then 1 else 0) n = 1 := by
  have h1 := zs_upd (fun _ => 0) k0 1 h
  have h3 : zs (fun _ => 0) n = 0 := zs_zero (fun _ _ => rfl)
  omega
theorem zmn_up {m m2 : Nat → Nat → Nat} {k0 : Nat} (hk : k0 < 8) (h : ∀ k, k < 8 → zmc m2 k = zmc m k + if k = k0 then 1 else 0) : zmn m2 = zmn m + 1 := by
  unfold zmn
  rw [zs_cong (f := fun k => zmc m2 k) (g := fun k => zmc m k + if k = k0 then 1 else 0) h, zs_add, zs_at k0 hk]
theorem zmx_8 {G : Nat → Nat → Prop} {c : Nat → Nat} {f d : Nat} : zmx G c f d ≤ 8 := by
  obtain ⟨⟨m, hm, e⟩, -⟩ := zmx_opt (G := G) (c := c) (f := f) (d := d)
  have := zMt_8 hm
  omega
section GF
variable {M : sM} {G : Nat → Nat → Prop} {c : Nat → Nat} {d f : Nat}
theorem u3_greatestFrom (hd : d ≤ 8) (hf : f ≤ d) (hc8 : ∀ x, x < 6 → c x < 100) (hP : pC M G c d) {Q : Int32 → sM → Prop} (h : ∀ M', fr 7 11 M M' → Q (nI (zmx G c f d)) M') : wX3_greatestFrom (nI f) M Q := by
  have key3 : ∀ m k, k + m = d → f ≤ k → ∀ M2 gv, fr 7 11 M M2 → pA M2 gv → zMt G c f k (zgt gv) → zCt G c f k (zgt gv) → lX3_greatestFrom_46 (fun x2_46k M_46k => Q x2_46k M_46k) (m + 1) (nI (zmn (zgt gv))) (nI k) M2 := by
    intro m
    induction m with
    | zero =>
      intro k hk hfk M2 gv f2 hA hm hc
      unfold lX3_greatestFrom_46
      have e : k = d := by omega
      subst e
      rw [f2 3 (by decide), hP.1]
      refine brt (nI_le (Nat.le_refl _) (by omega)) ?_
      rw [← zmx_of (zCt_opt hm hc)]
      exact h M2 f2
    | succ m ih =>
      intro k hk hfk M2 gv f2 hA hm hc
      unfold lX3_greatestFrom_46
      rw [f2 3 (by decide), hP.1]
      refine brf (nI_ge (by omega) (by omega)) ?_
      refine u3_add (G := G) (c := c) (d := d) (f := f) (gv := gv) hd (by omega) hc8 ⟨by rw [f2 3 (by decide)]; exact hP.1, fun j hj => by rw [f2 4 (by decide)]; exact hP.2.1 j hj, fun x hx => by rw [f2 5 (by decide)]; exact hP.2.2 x hx⟩ hA hm hfk (fun M' gv' f' hA' hm' hc' => br1 ?_) (fun M' R f' hA' r1 r2 r3 => br0 ?_)
      · intro v6 e6 v7 e7
        subst e6 e7
        have r := ih (k + 1) (by omega) (by omega) M' gv' (fr_t f2 f') hA' hm' (zCt_yes hm hc hm' hc')
        rw [zmn_up (by omega) hc', nI_succ, nI_succ] at r
        exact r
      · intro v5 e5
        subst e5
        have r := ih (k + 1) (by omega) (by omega) M' gv (fr_t f2 f') hA' (zMt_w hm) (zCt_no hm hc hfk r1 r2 r3)
        rw [nI_succ] at r
        exact r
  have key2 : ∀ m x, x + m = 6 → ∀ M2, fr 7 11 M M2 → (∀ k, k < 8 → M2 7 k = -1) → (∀ y, y < x → M2 8 y = 0) → lX3_greatestFrom_23 (fun M_23k => ∃ n46, lX3_greatestFrom_46 (fun x2_46k M_46k => Q x2_46k M_46k) n46 (0 : Int32) (nI f) M_23k) (m + 1) (nI x) M2 := by
    intro m
    induction m with
    | zero =>
      intro x hx M2 f2 h7 h8
      unfold lX3_greatestFrom_23
      have e : x = 6 := by omega
      subst e
      refine brt (nI_le (b := 6) (Nat.le_refl _) (by omega)) ?_
      have z0 : zgt (fun _ => 0) = fun _ _ => 0 := by
        funext x k
        show (if 0 = x + 1 then 1 else 0) = 0
        rw [if_neg (by omega)]
      have zn : zmn (fun _ _ => 0) = 0 := zs_zero (fun k _ => zs_zero (fun _ _ => rfl))
      have zr : ∀ x, zmr (fun _ _ => 0) x = 0 := fun x => zs_zero (fun _ _ => rfl)
      have r := key3 (d - f) f (by omega) (Nat.le_refl _) M2 (fun _ => 0) f2 ⟨fun k hk => by rw [h7 k hk, nP_0], fun y hy => by rw [z0, zr y, h8 y hy]; rfl, fun k _ => Nat.zero_le _⟩ (by rw [z0]; exact zMt_0) (by rw [z0]; exact zCt_0)
      rw [z0, zn] at r
      exact ⟨_, r⟩
    | succ m ih =>
      intro x hx M2 f2 h7 h8
      unfold lX3_greatestFrom_23
      refine brf (nI_ge (b := 6) (by omega) (by omega)) ⟨vin (by omega) (by decide), ?_⟩
      intro M3 e3 v18 e18
      subst e18
      rw [cl (by omega)] at e3
      have r := ih (x + 1) (by omega) M3 (fr_t f2 (by rw [e3]; exact fr_s M2 _ _ (by decide))) (fun k hk => by rw [e3, sw_ms_n _ _ _ (by decide)]; exact h7 k hk) (fun y hy => by
        rw [e3, ms_a]
        by_cases e : y = x
        · subst e; rw [if_pos ⟨rfl, rfl⟩]
        · rw [if_neg (fun z => e z.2)]; exact h8 y (by omega))
      rw [nI_succ] at r
      exact r
  have key1 : ∀ m k, k + m = 8 → ∀ M2, fr 7 11 M M2 → (∀ j, j < k → M2 7 j = -1) → lX3_greatestFrom_2 (fun M_2k => ∃ n23, lX3_greatestFrom_23 (fun M_23k => ∃ n46, lX3_greatestFrom_46 (fun x2_46k M_46k => Q x2_46k M_46k) n46 (0 : Int32) (nI f) M_23k) n23 (0 : Int32) M_2k) (m + 1) (nI k) M2 := by
    intro m
    induction m with
    | zero =>
      intro k hk M2 f2 h7
      unfold lX3_greatestFrom_2
      have e : k = 8 := by omega
      subst e
      refine brt (nI_le (b := 8) (Nat.le_refl _) (by omega)) ?_
      exact ⟨7, key2 6 0 rfl M2 f2 h7 (fun y hy => absurd hy (Nat.not_lt_zero _))⟩
    | succ m ih =>
      intro k hk M2 f2 h7
      unfold lX3_greatestFrom_2
      refine brf (nI_ge (b := 8) (by omega) (by omega)) ⟨vin (by omega) (by decide), ?_⟩
      intro M3 e3 v e
      subst e
      rw [cl (by omega)] at e3
      have r := ih (k + 1) (by omega) M3 (fr_t f2 (by rw [e3]; exact fr_s M2 _ _ (by decide))) (fun j hj => by
        rw [e3, ms_a]
        by_cases e : j = k
        · subst e; rw [if_pos ⟨rfl, rfl⟩]
        · rw [if_neg (fun z => e z.2)]; exact h7 j (by omega))
      rw [nI_succ] at r
      exact r
  unfold wX3_greatestFrom
  exact ⟨9, key1 8 0 rfl M (fr_r _ _ _) (fun j hj => absurd hj (Nat.not_lt_zero _))⟩
end GF
theorem zC0_4 {a : Nat → Nat} (hb : rB a) : ∀ x, x < 6 → zC0 a x < 100 := fun x hx => by
  have := (hb.2.2.1 x hx).2.2.1
  unfold zC0
  split <;> omega
theorem u3_sizeByExchanges {M : sM} {i : Nat} {a : Nat → Nat} (hS : rS M i a) (hb : rB a) {Q : Int32 → sM → Prop} (h : ∀ M', fr 3 11 M M' → Q (nI (zmx (zG0 a) (zC0 a) 0 (a 0))) M') : wX3_sizeByExchanges i M Q := by
  have hD := rB_D hb
  unfold wX3_sizeByExchanges
  refine u3_survey hS hb (fun M1 f1 hP => ?_)
  exact u3_greatestFrom (f := 0) hD (Nat.zero_le _) (zC0_4 hb) hP (fun M' f' => h M' (fr_t (fr_w f1 (by decide) (by decide)) (fr_w f' (by decide) (by decide))))
theorem pC_sub {M : sM} {G : Nat → Nat → Prop} {c : Nat → Nat} {d x : Nat} (hP : pC M G c d) (hx : x < 6) (h0 : 0 < c x) : pC (sw_ms M 5 x (M 5 x - 1)) G (zsub c x) d := by
  refine ⟨by rw [sw_ms_n _ _ _ (by decide)]; exact hP.1, fun k hk => by rw [sw_ms_n _ _ _ (by decide)]; exact hP.2.1 k hk, fun y hy => ?_⟩
  rw [ms_a]
  unfold zsub
  by_cases e : y = x
  · subst e
    rw [if_pos ⟨rfl, rfl⟩, if_pos rfl, hP.2.2 y hx]
    have := nI_pred (c y - 1)
    rw [Nat.sub_add_cancel h0] at this
    exact this
  · rw [if_neg (fun z => e z.2), if_neg e]; exact hP.2.2 y hy
theorem pC_add {M : sM} {G : Nat → Nat → Prop} {c : Nat → Nat} {d x : Nat} (hP : pC M G (zsub c x) d) (hx : x < 6) (h0 : 0 < c x) : pC (sw_ms M 5 x (M 5 x + 1)) G c d := by
  refine ⟨by rw [sw_ms_n _ _ _ (by decide)]; exact hP.1, fun k hk => by rw [sw_ms_n _ _ _ (by decide)]; exact hP.2.1 k hk, fun y hy => ?_⟩
  have t := hP.2.2 y hy
  unfold zsub at t
  rw [ms_a]
  by_cases e : y = x
  · subst e
    rw [if_pos rfl] at t
    rw [if_pos ⟨rfl, rfl⟩, t, ← nI_succ, Nat.sub_add_cancel h0]
  · rw [if_neg e] at t
    rw [if_neg (fun z => e z.2)]; exact t
theorem pC_7 {M M' : sM} {G : Nat → Nat → Prop} {c : Nat → Nat} {d : Nat} (h : pC M G c d) (f : fr 6 11 M M') : pC M' G c d := pC_fr h f (Nat.le_refl _)
theorem u3_bestChoice {M : sM} {G : Nat → Nat → Prop} {s : (Nat → Nat) × Nat} {d k : Nat} (hd : d ≤ 8) (hk : k < d) (hc8 : ∀ x, x < 6 → s.1 x < 100) (hl : s.2 < 100) (hP : pC M G s.1 d) {Q : Int32 → sM → Prop} (h : ∀ M', fr 5 11 M M' → M' 6 = M 6 → pC M' G s.1 d → Q (nP (zfst (zcp G d k s) 6)) M') : wX3_bestChoice (nI k) (nI s.2) M Q := by
  have hk8 : k < 8 := by omega
  have key : ∀ m x, x + m = 6 → ∀ M2, fr 5 11 M M2 → M2 6 = M 6 → pC M2 G s.1 d → (∀ y, y < x → ¬ zcp G d k s y) → lX3_bestChoice_2 (nI k) (nI s.2) Q (fun M_2k => Q (-1 : Int32) M_2k) (m + 1) (nI x) M2 := by
    intro m
    induction m with
    | zero =>
      intro x hx M2 f2 h6 hP2 hn
      unfold lX3_bestChoice_2
      have e : x = 6 := by omega
      subst e
      refine brt (nI_le (b := 6) (Nat.le_refl _) (by omega)) ?_
      have r := h M2 f2 h6 hP2
      rw [zfst_0 hn, nP_0] at r
      exact r
    | succ m ih =>
      intro x hx M2 f2 h6 hP2 hn
      have hx6 : x < 6 := by omega
      unfold lX3_bestChoice_2
      refine brf (nI_ge (b := 6) (by omega) (by omega)) ⟨vin hk8 (by decide), ?_⟩
      rw [cl (by omega), hP2.2.1 k hk]
      have no : ¬ zcp G d k s x → ∀ M3, fr 5 11 M M3 → M3 6 = M 6 → pC M3 G s.1 d → lX3_bestChoice_2 (nI k) (nI s.2) Q (fun M_2k => Q (-1 : Int32) M_2k) (m + 1) (nI x + 1) M3 := fun hnx M3 f3 h63 hP3 => by
        have r := ih (x + 1) (by omega) M3 f3 h63 hP3 (fun y hy => by
          rcases Nat.lt_or_ge y x with q | q
          · exact hn y q
          · have e : y = x := by omega
            subst e; exact hnx)
        rw [nI_succ] at r
        exact r
      have b64 := zgb_64 G k
      refine u6_contains (by omega) (by omega) (fun z => br1 ?_) (fun z => br0 ?_)
      · rw [zm_bit (zgb_1 G k) (by omega)] at z
        have hG : G x k := by
          unfold zgb at z
          rcases Classical.em (x < 6 ∧ G x k) with r | r
          · exact r.2
          · rw [zif_f r] at z; omega
        refine ⟨vin hx6 (by decide), ?_⟩
        rw [cl (by omega), hP2.2.2 x hx6]
        have c8 := hc8 x hx6
        refine bri (nI_leI (b := 0) (by omega) (by decide)) (fun z0 => ?_) (fun z0 => ?_)
        · intro v8 e8
          subst e8
          exact no (fun w => by have := w.2.1; omega) M2 f2 h6 hP2
        · refine ⟨vin hx6 (by decide), vin hx6 (by decide), ?_⟩
          intro M11 e11
          rw [← hP2.2.2 x hx6] at e11
          have hP11 : pC M11 G (zsub s.1 x) d := by rw [e11]; exact pC_sub hP2 hx6 (by omega)
          have f11 : fr 5 6 M2 M11 := by rw [e11]; exact fr_s M2 _ _ (by decide)
          rw [← nI_succ]
          refine u3_greatestFrom hd (by omega) (fun y hy => by
            unfold zsub
            have := hc8 y hy
            split <;> omega) hP11 (fun M13 f13 => ?_)
          intro v14 e14
          refine ⟨vin hx6 (by decide), vin hx6 (by decide), ?_⟩
          intro M17 e17
          have hP13 : pC M13 G (zsub s.1 x) d := pC_fr hP11 f13 (by decide)
          have hP17 : pC M17 G s.1 d := by rw [e17]; exact pC_add hP13 hx6 (by omega)
          have f17 : fr 5 11 M M17 := fr_t f2 (fr_t (fr_w f11 (by decide) (by decide)) (fr_t (fr_w f13 (by decide) (by decide)) (by rw [e17]; exact fr_s M13 _ _ (by decide))))
          have h617 : M17 6 = M 6 := by rw [e17, sw_ms_n _ _ _ (by decide), f13 6 (by decide), f11 6 (by decide)]; exact h6
          have mx := zmx_8 (G := G) (c := zsub s.1 x) (f := k + 1) (d := d)
          have e14 : v14 = nI (1 + zmx G (zsub s.1 x) (k + 1) d) := e14.trans (nI_add 1 _)
          subst e14
          refine bri (nI_eq (by omega) (by omega)) (fun w => ?_) (fun w => ?_)
          · have hp : zcp G d k s x := ⟨hG, by omega, w⟩
            have r := h M17 f17 h617 hP17
            rw [zfst_p hp hn hx6, nP_S] at r
            exact r
          · intro v19 e19
            subst e19
            exact no (fun u => w u.2.2) M17 f17 h617 hP17
      · intro v5 e5
        subst e5
        refine no (fun w => z ?_) M2 f2 h6 hP2
        rw [zm_bit (zgb_1 G k) (by omega)]
        exact zif_t ⟨hx6, w.1⟩ _ _
  unfold wX3_bestChoice
  exact ⟨7, key 6 0 rfl M (fr_r _ _ _) rfl hP (fun y hy => absurd hy (Nat.not_lt_zero _))⟩
theorem zpl_le {G : Nat → Nat → Prop} {c : Nat → Nat} {d : Nat} : ∀ k x, (zpl G c d k).1 x ≤ c x
  | 0, x => Nat.le_refl _
  | k + 1, x => by
    have ih := zpl_le (G := G) (c := c) (d := d) k x
    by_cases q : zbp G c d k = 0
    · rw [zpl_0 q]; exact ih
    · rw [zpl_s q]
      show zsub (zpl G c d k).1 _ x ≤ c x
      unfold zsub
      split <;> omega
theorem zpl_8 {G : Nat → Nat → Prop} {c : Nat → Nat} {d : Nat} : ∀ k, (zpl G c d k).2 ≤ 8
  | 0 => zmx_8
  | k + 1 => by
    have ih := zpl_8 (G := G) (c := c) (d := d) k
    by_cases q : zbp G c d k = 0
    · rw [zpl_0 q]; exact ih
    · rw [zpl_s q]
      show (zpl G c d k).2 - 1 ≤ 8
      omega
theorem zbp_6 {G : Nat → Nat → Prop} {c : Nat → Nat} {d k : Nat} : zbp G c d k ≤ 6 := by
  by_cases q : zbp G c d k = 0
  · omega
  · obtain ⟨x, hx, e, -⟩ := zbp_s q
    omega
theorem u3_findBest {M : sM} {i : Nat} {a : Nat → Nat} (hS : rS M i a) (hb : rB a) {Q : sM → Prop} (h : ∀ M', fr 3 11 M M' → (∀ j, j < a 0 → M' 6 j = nP (zbp (zG0 a) (zC0 a) (a 0) j)) → Q M') : wX3_findBest i M Q := by
  have hD := rB_D hb
  unfold wX3_findBest
  refine u3_survey hS hb (fun M1 f1 hP1 => ?_)
  refine u3_greatestFrom (f := 0) hD (Nat.zero_le _) (zC0_4 hb) hP1 (fun M3 f3 => ?_)
  have key : ∀ m k, k + m = a 0 → ∀ M2, fr 3 11 M M2 → pC M2 (zG0 a) (zpl (zG0 a) (zC0 a) (a 0) k).1 (a 0) → (∀ j, j < k → M2 6 j = nP (zbp (zG0 a) (zC0 a) (a 0) j)) → lX3_findBest_13 (fun M_13k => Q M_13k) (m + 1) (nI (zpl (zG0 a) (zC0 a) (a 0) k).2) (nI k) M2 := by
    intro m
    induction m with
    | zero =>
      intro k hk M2 f2 hP2 h6
      unfold lX3_findBest_13
      have e : k = a 0 := by omega
      rw [hP2.1]
      refine brt (by rw [e]; exact nI_le (Nat.le_refl _) (by omega)) (h M2 f2 (fun j hj => h6 j (by omega)))
    | succ m ih =>
      intro k hk M2 f2 hP2 h6
      have hk8 : k < 8 := by omega
      unfold lX3_findBest_13
      rw [hP2.1]
      refine brf (nI_ge (by omega) (by omega)) ?_
      refine u3_bestChoice (G := zG0 a) (s := zpl (zG0 a) (zC0 a) (a 0) k) hD (by omega) (fun x hx => Nat.lt_of_le_of_lt (zpl_le k x) (zC0_4 hb x hx)) (by have := zpl_8 (G := zG0 a) (c := zC0 a) (d := a 0) k; omega) hP2 (fun M6 f6 h66 hP6 => ?_)
      refine ⟨vin hk8 (by decide), ?_⟩
      intro M8 e8
      rw [cl (by omega)] at e8
      refine ⟨vin hk8 (by decide), ?_⟩
      have eb : zfst (zcp (zG0 a) (a 0) k (zpl (zG0 a) (zC0 a) (a 0) k)) 6 = zbp (zG0 a) (zC0 a) (a 0) k := rfl
      rw [eb] at e8
      have b6 := zbp_6 (G := zG0 a) (c := zC0 a) (d := a 0) (k := k)
      have m6 : M8 6 k = nP (zbp (zG0 a) (zC0 a) (a 0) k) := by rw [e8, ms_e]
      have f8 : fr 3 11 M M8 := fr_t f2 (fr_t (fr_w f6 (by decide) (by decide)) (by rw [e8]; exact fr_s M6 _ _ (by decide)))
      have hP8 : pC M8 (zG0 a) (zpl (zG0 a) (zC0 a) (a 0) k).1 (a 0) := pC_fr hP6 (lo := 6) (hi := 7) (by rw [e8]; exact fr_s M6 _ _ (by decide)) (by decide)
      have o6 : ∀ j, j < k + 1 → M8 6 j = nP (zbp (zG0 a) (zC0 a) (a 0) j) := fun j hj => by
        by_cases e : j = k
        · subst e; exact m6
        · rw [e8, ms_j _ _ _ e, h66]; exact h6 j (by omega)
      rw [cl (by omega), m6]
      refine bri (nP_n1 (by omega)) (fun z => ?_) (fun z => ?_)
      · intro v11 e11
        subst e11
        have r := ih (k + 1) (by omega) M8 f8 (by rw [zpl_0 z]; exact hP8) o6
        rw [zpl_0 z, nI_succ] at r
        exact r
      · obtain ⟨x, hx, e, w⟩ := zbp_s z
        rw [e, nP_S]
        refine ⟨vin hk8 (by decide), vin hx (by decide), vin hx (by decide), ?_⟩
        intro M15 e15 v16 e16 v17 e17
        rw [cl (by omega)] at e15
        subst e17
        have wl := w.2.2
        have sz : (zpl (zG0 a) (zC0 a) (a 0) (k + 1)) = (zsub (zpl (zG0 a) (zC0 a) (a 0) k).1 x, (zpl (zG0 a) (zC0 a) (a 0) k).2 - 1) := by
          rw [zpl_s z, e, Nat.add_sub_cancel]
        have r := ih (k + 1) (by omega) M15 (fr_t f8 (by rw [e15]; exact fr_s M8 _ _ (by decide))) (by rw [sz, e15]; exact pC_sub hP8 hx w.2.1) (fun j hj => by rw [e15, sw_ms_n _ _ _ (by decide)]; exact o6 j hj)
        have e2 : v16 = nI ((zpl (zG0 a) (zC0 a) (a 0) k).2 - 1) := by
          rw [e16]
          have := pk_m1 ((zpl (zG0 a) (zC0 a) (a 0) k).2 - 1)
          rw [Nat.sub_add_cancel (by omega)] at this
          exact this
        rw [sz, nI_succ] at r
        rw [e2]
        exact r
  exact ⟨a 0 + 1, key (a 0) 0 (by omega) M3 (fr_t (fr_w f1 (by decide) (by decide)) (fr_w f3 (by decide) (by decide))) (pC_fr hP1 f3 (by decide)) (fun j hj => absurd hj (Nat.not_lt_zero _))⟩
