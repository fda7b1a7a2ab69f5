/-! Panels at the face; the invariants' check. -/
theorem zpc_216 (a : Nat → Nat) (k : Nat) : zpc a k ≤ 216 := zT_le (fun _ _ _ => zpan_1 _ _ _ _ _)
def s_panelCount (g : zG) (x : Int32) : Nat × Nat × zG := if zok x (g.1 0) then (0, zpc g.1 x.toNatClampNeg, g) else (1, 0, g)
theorem s_panelCount_G {g : zG} (h : GI g) (x : Int32) : GI (s_panelCount g x).2.2 := by unfold s_panelCount; split <;> exact h
theorem L_panelCount {M : sM} {g : zG} (hC : CI M g) (hG : GI g) (x : Int32) {Q : Int32 → sM → Prop} {X : Nat → sM → Prop} (h : kC M (s_panelCount g x) Q X) : wL_panelCount x M Q X := by
  have hD := rB_D hG.1
  unfold wL_panelCount wX6_panelCount wX6_requireDoor
  by_cases hv : zok x (g.1 0)
  · obtain ⟨k, hk, rfl⟩ := zok_t hv (by omega)
    have hk8 : k < 8 := by omega
    rw [show s_panelCount g (nI k) = (0, zpc g.1 k, g) by unfold s_panelCount; rw [if_pos hv, cl (by omega)]] at h
    have b := zpc_216 g.1 k
    exact u5_hasDoor_t hC.1 hG.1 hk (br1 (u2_countByTrying hC.1 hG.1 hk8 (kC_ok h hC (by omega))))
  · rw [show s_panelCount g x = (1, 0, g) from if_neg hv] at h
    exact u5_hasDoor_f hC.1 hG.1 (zok_f hv (by omega)) (br0 (brt rfl (kC_no h (by decide) hC)))
theorem L_panelCountByFrames {M : sM} {g : zG} (hC : CI M g) (hG : GI g) (x : Int32) {Q : Int32 → sM → Prop} {X : Nat → sM → Prop} (h : kC M (s_panelCount g x) Q X) : wL_panelCountByFrames x M Q X := by
  have hD := rB_D hG.1
  unfold wL_panelCountByFrames wX6_panelCountByFrames wX6_requireDoor
  by_cases hv : zok x (g.1 0)
  · obtain ⟨k, hk, rfl⟩ := zok_t hv (by omega)
    have hk8 : k < 8 := by omega
    rw [show s_panelCount g (nI k) = (0, zpc g.1 k, g) by unfold s_panelCount; rw [if_pos hv, cl (by omega)]] at h
    have b := zpc_216 g.1 k
    exact u5_hasDoor_t hC.1 hG.1 hk (br1 (u2_countByFrames hC.1 hG.1 hk8 (fun M' f => kC_w2 h (by omega) (fr_C14 f (by decide)) (CI_s hC f (by decide) (by decide)))))
  · rw [show s_panelCount g x = (1, 0, g) from if_neg hv] at h
    exact u5_hasDoor_f hC.1 hG.1 (zok_f hv (by omega)) (br0 (brt rfl (kC_no h (by decide) hC)))
def zbits (m e : Nat) : Nat := zs (fun q => m / 2 ^ q % 2) e
theorem u6_memberAt {m p : Nat} (hm : m < 64) (hp : p < 3) {Q : Int32 → Prop} (h1 : ∀ e, e < 6 → m / 2 ^ e % 2 = 1 → zbits m e = p → Q (nI e)) (h0 : (∀ e, e < 6 → m / 2 ^ e % 2 = 1 → zbits m e ≠ p) → Q (-1)) : wX6_memberAt (nI m) (nI p) Q := by
  have key : ∀ k e, e + k = 6 → (∀ u, u < e → m / 2 ^ u % 2 = 1 → zbits m u ≠ p) → lX6_memberAt_4 (nI m) (nI p) Q (Q (-1 : Int32)) (k + 1) (nI (zbits m e)) (nI e) := by
    intro k
    induction k with
    | zero =>
      intro e he hn
      unfold lX6_memberAt_4
      have e0 : e = 6 := by omega
      subst e0
      exact brt (nI_le (b := 6) (Nat.le_refl _) (by omega)) (h0 hn)
    | succ k ih =>
      intro e he hn
      unfold lX6_memberAt_4
      refine brf (nI_ge (b := 6) (by omega) (by omega)) ?_
      have bz : zbits m e ≤ 6 := by
        have := zs_bound (f := fun q => m / 2 ^ q % 2) (n := e) (c := 1) (fun q _ => by have := Nat.mod_lt (m / 2 ^ q) (by decide : 0 < 2); omega)
        unfold zbits; omega
      refine u6_contains (by omega) (by omega) (fun b => br1 ?_) (fun b => br0 ?_)
      · refine bri (nI_eq (by omega) (by omega)) (fun q => h1 e (by omega) b q) (fun q => ?_)
        intro v6 e6 v7 e7
        subst e6 e7
        have r := ih (e + 1) (by omega) (fun u hu hb => by
          rcases Nat.lt_or_ge u e with w | w
          · exact hn u w hb
          · have e2 : u = e := by omega
            subst e2; exact q)
        rw [show zbits m (e + 1) = zbits m e + m / 2 ^ e % 2 from rfl, b, nI_succ, nI_succ] at r
        exact r
      · intro v4 e4
        subst e4
        have r := ih (e + 1) (by omega) (fun u hu hb => by
          rcases Nat.lt_or_ge u e with w | w
          · exact hn u w hb
          · have e2 : u = e := by omega
            subst e2; exact absurd hb b)
        have b0 : m / 2 ^ e % 2 = 0 := by have := Nat.mod_lt (m / 2 ^ e) (by decide : 0 < 2); omega
        rw [show zbits m (e + 1) = zbits m e + m / 2 ^ e % 2 from rfl, b0, Nat.add_zero, nI_succ] at r
        exact r
  unfold wX6_memberAt
  exact ⟨7, key 6 0 rfl (fun u hu => absurd hu (Nat.not_lt_zero _))⟩
theorem zb_cn3 : ∀ n, n < 216 → n / 36 < n / 6 % 6 → n / 6 % 6 < n % 6 → zbits (2 ^ (n / 36) + 2 ^ (n / 6 % 6) + 2 ^ (n % 6)) (n / 36) = 0 ∧ zbits (2 ^ (n / 36) + 2 ^ (n / 6 % 6) + 2 ^ (n % 6)) (n / 6 % 6) = 1 ∧ zbits (2 ^ (n / 36) + 2 ^ (n / 6 % 6) + 2 ^ (n % 6)) (n % 6) = 2 := by decide +kernel
theorem zb_cn {x y z : Nat} (hx : x < y) (hy : y < z) (hz : z < 6) : zbits (2 ^ x + 2 ^ y + 2 ^ z) x = 0 ∧ zbits (2 ^ x + 2 ^ y + 2 ^ z) y = 1 ∧ zbits (2 ^ x + 2 ^ y + 2 ^ z) z = 2 := by
  have r := zb_cn3 (36 * x + 6 * y + z) (by omega)
  rw [show (36 * x + 6 * y + z) / 36 = x by omega, show (36 * x + 6 * y + z) / 6 % 6 = y by omega, show (36 * x + 6 * y + z) % 6 = z by omega] at r
  exact r hx hy
noncomputable def zmb (a : Nat → Nat) (k p : Nat) : Nat := if p = 0 then (zff a k - 1) / 36 else if p = 1 then (zff a k - 1) / 6 % 6 else (zff a k - 1) % 6
theorem zmb_6 {a : Nat → Nat} {k p : Nat} : zmb a k p < 6 := by
  have lt216 : zff a k ≤ 216 := by
    rcases zfst_s (fun n => zpan a k (n / 36) (n / 6 % 6) (n % 6) = 1) 216 with ⟨s, -⟩ | ⟨n, s1, -, -, s4⟩
    · unfold zff; omega
    · unfold zff; omega
  unfold zmb
  split
  · omega
  · split <;> omega
noncomputable def s_panelMember (g : zG) (x p : Int32) : Nat × Nat × zG := if zok x (g.1 0) then (if zok p 3 then (if zff g.1 x.toNatClampNeg = 0 then (3, 0, g) else (0, zmb g.1 x.toNatClampNeg p.toNatClampNeg, g)) else (2, 0, g)) else (1, 0, g)
theorem s_panelMember_G {g : zG} (h : GI g) (x p : Int32) : GI (s_panelMember g x p).2.2 := by
  unfold s_panelMember
  repeat' split
  all_goals exact h
theorem L_panelMember {M : sM} {g : zG} (hC : CI M g) (hG : GI g) (x p : Int32) {Q : Int32 → sM → Prop} {X : Nat → sM → Prop} (h : kC M (s_panelMember g x p) Q X) : wL_panelMember x p M Q X := by
  have hD := rB_D hG.1
  unfold wL_panelMember wX6_panelMember wX6_requireDoor
  by_cases hv : zok x (g.1 0)
  · obtain ⟨k, hk, rfl⟩ := zok_t hv (by omega)
    have hk8 : k < 8 := by omega
    refine u5_hasDoor_t hC.1 hG.1 hk (br1 ?_)
    by_cases hp : zok p 3
    · obtain ⟨p, hp3, rfl⟩ := zok_t hp (by decide)
      rw [show s_panelMember g (nI k) (nI p) = (if zff g.1 k = 0 then (3, 0, g) else (0, zmb g.1 k p, g)) by unfold s_panelMember; rw [if_pos hv, if_pos hp, cl (by omega), cl (by omega)]] at h
      refine brf (nI_pos (by omega)) (brt (nI_lt (b := 3) hp3 (by decide)) ?_)
      unfold wX6_requireThere
      refine u2_firstFor hC.1 hG.1 hk8 (fun z => ?_) (fun a b c h1 h2 h3 hq hf => ?_)
      · rw [if_pos z] at h
        refine u6_memberAt (m := 0) (by decide) hp3 (fun e he hb _ => ?_) (fun _ => brt rfl (brf (by simp) (brf (by simp) (brt rfl (kC_no h (by decide) hC)))))
        rw [Nat.zero_div] at hb; exact absurd hb (by decide)
      · rw [if_neg (by omega)] at h
        have bm := zb_in a (by omega) b (by omega) c h3 h1 h2
        have cn := zb_cn h1 h2 h3
        have ev : zmb g.1 k p = if p = 0 then a else if p = 1 then b else c := by
          unfold zmb
          rw [hf, show (36 * a + 6 * b + c + 1 - 1) / 36 = a by omega, show (36 * a + 6 * b + c + 1 - 1) / 6 % 6 = b by omega, show (36 * a + 6 * b + c + 1 - 1) % 6 = c by omega]
        have e6 := zmb_6 (a := g.1) (k := k) (p := p)
        refine u6_memberAt bm.1 hp3 (fun e he hb hc => ?_) (fun hn => ?_)
        · have ee : e = zmb g.1 k p := by
            rw [ev]
            rw [bm.2 e he] at hb
            by_cases q1 : e = a
            · subst q1; rw [if_pos (by omega)]
            · by_cases q2 : e = b
              · subst q2; rw [if_neg (by omega), if_pos (by omega)]
              · by_cases q3 : e = c
                · subst q3; rw [if_neg (by omega), if_neg (by omega)]
                · rw [if_neg q1, if_neg q2, if_neg q3] at hb; omega
          subst ee
          refine brf (fun z => ?_) (kC_ok h hC (by omega))
          rw [← nP_0, eq_comm, nP_eqI (by decide) (by omega)] at z; omega
        · exfalso
          rcases (show p = 0 ∨ p = 1 ∨ p = 2 by omega) with e | e | e <;> subst e
          · exact hn a (by omega) (by rw [bm.2 a (by omega), if_pos rfl, if_neg (by omega), if_neg (by omega)]) cn.1
          · exact hn b (by omega) (by rw [bm.2 b (by omega), if_neg (by omega), if_pos rfl, if_neg (by omega)]) cn.2.1
          · exact hn c (by omega) (by rw [bm.2 c (by omega), if_neg (by omega), if_neg (by omega), if_pos rfl]) cn.2.2
    · rw [show s_panelMember g (nI k) p = (2, 0, g) by unfold s_panelMember; rw [if_pos hv, if_neg hp]] at h
      have r : X 2 M := kC_no h (by decide) hC
      refine ⟨fun _ => brf (by simp) (brt rfl r), fun n0 => ⟨fun l3 => ?_, fun _ => brf (by simp) (brt rfl r)⟩⟩
      refine absurd ?_ hp
      have z3 : ((3 : Int32)).toInt = 3 := by decide
      rw [Int32.lt_iff_toInt_lt] at n0 l3
      have z0 : ((0 : Int32)).toInt = 0 := by decide
      exact ⟨by omega, by omega⟩
  · rw [show s_panelMember g x p = (1, 0, g) from if_neg hv] at h
    exact u5_hasDoor_f hC.1 hG.1 (zok_f hv (by omega)) (br0 (brt rfl (kC_no h (by decide) hC)))
theorem oApp_c (a : Nat → Nat) (k : Int32) : (oApp a k).1 ≤ 3 ∧ ((oApp a k).1 ≠ 0 → (oApp a k).2.2 = a) := by
  unfold oApp
  by_cases h1 : zok k (a 0)
  · rw [if_pos h1]
    unfold oAppN
    by_cases h2 : zres a k.toNatClampNeg = 0 ∨ a 2 < zres a k.toNatClampNeg ∨ zd a k.toNatClampNeg 2 = 1
    · rw [if_pos h2]; exact ⟨by simp, fun _ => rfl⟩
    · rw [if_neg h2]
      by_cases h3 : zff a k.toNatClampNeg = 0
      · rw [if_pos h3]; exact ⟨by simp, fun _ => rfl⟩
      · rw [if_neg h3]; exact ⟨Nat.zero_le _, fun z => absurd rfl z⟩
  · rw [if_neg h1]; exact ⟨by simp, fun _ => rfl⟩
theorem oApp_v {a : Nat → Nat} (k : Int32) : (oApp a k).2.1 < 2 ^ 31 := by
  unfold oApp
  by_cases h1 : zok k (a 0)
  · rw [if_pos h1]
    unfold oAppN
    by_cases h2 : zres a k.toNatClampNeg = 0 ∨ a 2 < zres a k.toNatClampNeg ∨ zd a k.toNatClampNeg 2 = 1
    · rw [if_pos h2]; exact (by decide : 0 < 2 ^ 31)
    · rw [if_neg h2]
      by_cases h3 : zff a k.toNatClampNeg = 0
      · rw [if_pos h3]; exact (by decide : 0 < 2 ^ 31)
      · rw [if_neg h3]
        have := zvt_3 a k.toNatClampNeg
        show zvt a k.toNatClampNeg < _
        omega
  · rw [if_neg h1]; exact (by decide : 0 < 2 ^ 31)
theorem oApp_B {a : Nat → Nat} (hb : rB a) (k : Int32) : rB (oApp a k).2.2 := by
  have hD := rB_D hb
  unfold oApp
  by_cases h1 : zok k (a 0)
  · rw [if_pos h1]
    obtain ⟨k, hk, rfl⟩ := zok_t h1 (by omega)
    rw [cl (by omega)]
    unfold oAppN
    by_cases h2 : zres a k = 0 ∨ a 2 < zres a k ∨ zd a k 2 = 1
    · rw [if_pos h2]; exact hb
    · rw [if_neg h2]
      by_cases h3 : zff a k = 0
      · rw [if_pos h3]; exact hb
      · rw [if_neg h3]; exact rB_appeal hb hk (by split <;> omega)
  · rw [if_neg h1]; exact hb
theorem L_appeal {M : sM} {g : zG} (hC : CI M g) (hG : GI g) (k : Int32) {Q : Int32 → sM → Prop} {X : Nat → sM → Prop} (h : kC M (zstep g (oApp g.1 k)) Q X) : wL_appeal k M Q X := by
  have K := oApp_c g.1 k
  have V := oApp_v (a := g.1) k
  unfold wL_appeal wX6_appeal
  refine c_chg hC hG (oApp g.1 k) (-1) (-3) (-4) (fun M1 R => wX2_tryAppeal 0 k M1 R) (fun z => K.2 z) V (fun M1 R s1 hR => u2_tryAppeal s1 hG.1 k (fun oo M' e fF sS => by subst e; exact hR M' (fP_fr fF) sS)) (fun z M' fF cC => ?_) (fun z M' P fF cC => ?_)
  · refine kC_w (s := zstep g (oApp g.1 k)) h z V fF ?_
    show CI M' (zchg g _)
    unfold zchg
    rw [if_pos z]; exact cC
  · have hc : CI M' (zchg g (oApp g.1 k)) := by unfold zchg; rw [if_neg z]; exact cC
    have q := (h M' fF hc).2 z
    have q : X (oApp g.1 k).1 M' := q
    unfold zans
    rw [if_neg z]
    have K1 : (oApp g.1 k).1 = 1 ∨ (oApp g.1 k).1 = 2 ∨ (oApp g.1 k).1 = 3 := by have := K.1; omega
    rcases K1 with K1 | K1 | K1
    · rw [K1] at q ⊢
      exact ⟨by decide, rf1 (brt rfl q)⟩
    · rw [K1] at q ⊢
      exact ⟨by decide, rf3 (brf (by simp) (brt rfl q))⟩
    · rw [K1] at q ⊢
      exact ⟨by decide, rf4 (brf (by simp) (brf (by simp) (brt rfl q)))⟩
/-! the check of the invariants -/
theorem L_isConsistent {M : sM} {g : zG} (hC : CI M g) (hG : GI g) {Q : Int32 → sM → Prop} (h : ∀ M', fC M M' → CI M' g → Q 1 M') : wX6_isConsistent M Q := by
  have hD := rB_D hG.1
  have hE := rB_E hG.1
  unfold wX6_isConsistent
  refine L_assignments hC hG (L_assignmentsByDoors hC hG (brt rfl ?_))
  refine u3_sizeByExchanges hC.1 hG.1 (fun M5 f5 => ?_)
  have C5 := CI_s hC f5 (by decide) (by decide)
  refine u3_sizeBySets C5.1 hG.1 (fun M7 f7 => brt rfl ?_)
  have C7 := CI_s C5 f7 (by decide) (by decide)
  have F7 : fC M M7 := fC_t (fr_C14 f5 (by decide)) (fr_C14 f7 (by decide))
  have diff : ∀ M8, CI M8 g → ∀ R : Int32 → Prop, R 1 → wX6_framesDiffer M8 R := fun M8 C8 R hR => by
    have inner : ∀ x, x < g.1 1 → ∀ K : Prop, K → ∀ m k, k + m = g.1 0 → lX6_framesDiffer_15 M8 (nI x) R K (m + 1) (nI k) := by
      intro x hx K hK m
      induction m with
      | zero =>
        intro k hk
        unfold lX6_framesDiffer_15
        have e : k = g.1 0 := by omega
        rw [rS_D C8.1]
        exact brt (by rw [e]; exact nI_le (Nat.le_refl _) (by omega)) hK
      | succ m ih =>
        intro k hk
        have hk8 : k < 8 := by omega
        have hx6 : x < 6 := by omega
        unfold lX6_framesDiffer_15
        rw [rS_D C8.1]
        refine brf (nI_ge (by omega) (by omega)) ?_
        have r := ih (k + 1) (by omega)
        rw [nI_succ] at r
        refine u5_assigned C8.1 hG.1 hx6 hk8 (fun a1 => br1 ⟨vin hx6 (by decide), vin hk8 (by decide), ?_⟩) (fun _ => br0 (fun v e => by rw [e]; exact r))
        have b := (hG.1.2.2.2.1 x k hx6 hk8).2.2.2.2 a1
        have bx := (hG.1.2.2.1 x hx6).1
        have bk := (hG.1.2.1 k hk8).1
        rw [cl (by omega), cl (by omega), rS_xf C8.1 hx6, rS_df C8.1 hk8]
        exact brf (fun e => b.2.2 ((nI_eq (by omega) (by omega)).mp e)) (fun v e => by rw [e]; exact r)
    have outer : ∀ m x, x + m = g.1 1 → lX6_framesDiffer_2 M8 R (R (1 : Int32)) (m + 1) (nI x) := by
      intro m
      induction m with
      | zero =>
        intro x hx
        unfold lX6_framesDiffer_2
        have e : x = g.1 1 := by omega
        rw [rS_E C8.1]
        exact brt (by rw [e]; exact nI_le (Nat.le_refl _) (by omega)) hR
      | succ m ih =>
        intro x hx
        unfold lX6_framesDiffer_2
        rw [rS_E C8.1]
        refine brf (nI_ge (by omega) (by omega)) ?_
        have r := ih (x + 1) (by omega)
        rw [nI_succ] at r
        exact ⟨_, inner x (by omega) _ (fun v e => by rw [e]; exact r) (g.1 0) 0 (by omega)⟩
    unfold wX6_framesDiffer
    exact ⟨_, outer (g.1 1) 0 (by omega)⟩
  have key : ∀ m k, k + m = g.1 0 → ∀ M8, fC M M8 → CI M8 g → lX6_panelCountsAgree_2 (fun r9 M10 => (r9 = 0 → (Q (0 : Int32) M10)) ∧ (¬ r9 = 0 → (wX6_framesDiffer M10 (fun r12 => (r12 = 0 → (Q (0 : Int32) M10)) ∧ (¬ r12 = 0 → (Q (1 : Int32) M10)))))) (fun M_2k => (fun r9 M10 => (r9 = 0 → (Q (0 : Int32) M10)) ∧ (¬ r9 = 0 → (wX6_framesDiffer M10 (fun r12 => (r12 = 0 → (Q (0 : Int32) M10)) ∧ (¬ r12 = 0 → (Q (1 : Int32) M10)))))) (1 : Int32) M_2k) (m + 1) (nI k) M8 := by
    intro m
    induction m with
    | zero =>
      intro k hk M8 F8 C8
      unfold lX6_panelCountsAgree_2
      have e : k = g.1 0 := by omega
      rw [rS_D C8.1]
      exact brt (by rw [e]; exact nI_le (Nat.le_refl _) (by omega)) (br1 (diff M8 C8 _ (br1 (h M8 F8 C8))))
    | succ m ih =>
      intro k hk M8 F8 C8
      have hk8 : k < 8 := by omega
      unfold lX6_panelCountsAgree_2
      rw [rS_D C8.1]
      refine brf (nI_ge (by omega) (by omega)) ?_
      refine u2_countByTrying C8.1 hG.1 hk8 (u2_countByFrames C8.1 hG.1 hk8 (fun M9 f9 => brt rfl ?_))
      intro v e
      subst e
      have r := ih (k + 1) (by omega) M9 (fC_t F8 (fr_C14 f9 (by decide))) (CI_s C8 f9 (by decide) (by decide))
      rw [nI_succ] at r
      exact r
  unfold wX6_panelCountsAgree
  exact ⟨_, key (g.1 0) 0 (by omega) M7 F7 C7⟩
