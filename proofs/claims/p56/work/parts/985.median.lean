/-! The pure part: the median. -/
def zmI (m lo hi sum : Nat) (f : Nat → Int32) : Prop :=
  (m = 0 ∧ lo = 20 ∧ hi = 0 ∧ sum = 0) ∨ (∃ p, m = 1 ∧ p ≤ 20 ∧ lo = p ∧ hi = p ∧ sum = p ∧ f 0 = nI p) ∨ (∃ p q, m = 2 ∧ p ≤ q ∧ q ≤ 20 ∧ lo = p ∧ hi = q ∧ sum = p + q ∧ f 0 = nI p ∧ f 1 = nI q) ∨ (∃ p q r, m = 3 ∧ p ≤ q ∧ q ≤ r ∧ r ≤ 20 ∧ lo = p ∧ hi = r ∧ sum = p + q + r ∧ f 1 = nI q)
theorem pL_ins {m lo hi sum v : Nat} {f : Nat → Int32} {K : Int32 → (Nat → Int32) → Prop} (h : zmI m lo hi sum f) (hm : m ≤ 2) (hv : v ≤ 20) (hK : ∀ j f', j ≤ 2 → zmI (m + 1) (min lo v) (max hi v) (sum + v) (upd f' j (nI v)) → K (nI j) f') : lL_median_35 (nI v) K 4 (nI m) f := by
  rcases h with ⟨rfl, rfl, rfl, rfl⟩ | ⟨p, rfl, h1, g1, g2, g3, h2⟩ | ⟨p, q, rfl, h1, h2, rfl, rfl, rfl, h3, h4⟩ | ⟨p, q, r, rfl, _⟩
  · rw [lL_median_35.eq_2]
    exact ⟨fun _ => hK 0 f (by decide) (Or.inr (Or.inl ⟨v, rfl, hv, by omega, by omega, by omega, if_pos rfl⟩)), fun w => absurd (by decide) w⟩
  · rw [lL_median_35.eq_2]
    refine ⟨fun w => absurd w (nI_nle (by decide) (by decide)), fun _ => ?_⟩
    rw [show nI 1 - 1 = nI 0 from nI_pred 0]
    refine ⟨nI_in (by decide) (by decide), fun w => ?_, fun w => ⟨nI_in (by decide) (by decide), nI_in (by decide) (by decide), fun f34 h34 v35 h35 => ?_⟩⟩
    · rw [nI_clamp (by decide), h2, nI_leI (by omega) (by omega)] at w
      exact hK 1 f (by decide) (Or.inr (Or.inr (Or.inl ⟨p, v, rfl, w, hv, by omega, by omega, by omega, (if_neg (by decide)).trans h2, if_pos rfl⟩)))
    · rw [nI_clamp (by decide), h2, nI_leI (by omega) (by omega)] at w
      rw [nI_clamp (by decide), nI_clamp (by decide), h2] at h34
      subst h34; subst h35
      show lL_median_35 (nI v) K 3 (nI 0) _
      rw [lL_median_35.eq_2]
      exact ⟨fun _ => hK 0 _ (by decide) (Or.inr (Or.inr (Or.inl ⟨v, p, rfl, by omega, h1, by omega, by omega, by omega, if_pos rfl, (if_neg (by decide)).trans (if_pos rfl)⟩))), fun w => absurd (by decide) w⟩
  · rw [lL_median_35.eq_2]
    refine ⟨fun w => absurd w (nI_nle (by decide) (by decide)), fun _ => ?_⟩
    rw [show nI 2 - 1 = nI 1 from nI_pred 1]
    refine ⟨nI_in (by decide) (by decide), fun w => ?_, fun w => ⟨nI_in (by decide) (by decide), nI_in (by decide) (by decide), fun f34 h34 v35 h35 => ?_⟩⟩
    · rw [nI_clamp (by decide), h4, nI_leI (by omega) (by omega)] at w
      exact hK 2 f (by decide) (Or.inr (Or.inr (Or.inr ⟨lo, hi, v, rfl, h1, w, hv, by omega, by omega, by omega, (if_neg (by decide)).trans h4⟩)))
    · rw [nI_clamp (by decide), h4, nI_leI (by omega) (by omega)] at w
      rw [nI_clamp (by decide), nI_clamp (by decide), h4] at h34
      subst h34; subst h35
      show lL_median_35 (nI v) K 3 (nI 1) _
      rw [lL_median_35.eq_2]
      refine ⟨fun w => absurd w (nI_nle (by decide) (by decide)), fun _ => ?_⟩
      rw [show nI 1 - 1 = nI 0 from nI_pred 0]
      have e0 : upd f 2 (nI hi) 0 = nI lo := (if_neg (by decide)).trans h3
      refine ⟨nI_in (by decide) (by decide), fun w2 => ?_, fun w2 => ⟨nI_in (by decide) (by decide), nI_in (by decide) (by decide), fun f34 h34 v35 h35 => ?_⟩⟩
      · rw [nI_clamp (by decide), e0, nI_leI (by omega) (by omega)] at w2
        exact hK 1 _ (by decide) (Or.inr (Or.inr (Or.inr ⟨lo, v, hi, rfl, w2, by omega, h2, by omega, by omega, by omega, if_pos rfl⟩)))
      · rw [nI_clamp (by decide), e0, nI_leI (by omega) (by omega)] at w2
        rw [nI_clamp (by decide), nI_clamp (by decide), e0] at h34
        subst h34; subst h35
        show lL_median_35 (nI v) K 2 (nI 0) _
        rw [lL_median_35.eq_2]
        exact ⟨fun _ => hK 0 _ (by decide) (Or.inr (Or.inr (Or.inr ⟨v, lo, hi, rfl, by omega, h1, h2, by omega, by omega, by omega, (if_neg (by decide)).trans (if_pos rfl)⟩))), fun w => absurd (by decide) w⟩
  · omega
theorem zlo_m (g : Nat → Nat) (x : Nat) (h : 0 < g x) : zlo g (x + 1) = min (zlo g x) (g x - 1) := by
  show (if _ then _ else _) = _
  split <;> omega
theorem zhi_m (g : Nat → Nat) (x : Nat) (h : 0 < g x) : zhi g (x + 1) = max (zhi g x) (g x - 1) := by
  show (if _ then _ else _) = _
  split <;> omega
theorem zgc_3 {a : Nat → Nat} (hb : rB a) {k : Nat} (hk : k < 8) : zgc a k ≤ 3 := by
  have h6 := rB_E hb
  have h1 : zgc a k ≤ zs (fun x => zp a x k 1) (a 1) := zs_le (fun x hx => by
    have h := hb.2.2.2.1 x k (by omega) hk
    by_cases e : 0 < zp a x k 2
    · rw [if_pos e]
      by_cases e1 : zp a x k 1 = 0
      · have := h.2.2.2.1 e1; omega
      · omega
    · rw [if_neg e]; omega)
  have h2 := zs_mono (fun x => zp a x k 1) (m := a 1) (n := 6) h6
  have h3 := hb.2.2.2.2.2.1 k hk
  omega
theorem pL_med9 {z : zG} (hG : GI z) {k : Nat} (hk : k < z.1 0) {K : Int32 → (Nat → Int32) → Prop} (hK : ∀ f, zmI (zgc z.1 k) (zlo (fun x => zp z.1 x k 2) (z.1 1)) (zhi (fun x => zp z.1 x k 2) (z.1 1)) (zgs z.1 k) f → K (nI (zgc z.1 k)) f) : ∀ (n x fuel : Nat) (f : Nat → Int32), n < fuel → x + n = z.1 1 → zmI (zs (fun x => if 0 < zp z.1 x k 2 then 1 else 0) x) (zlo (fun x => zp z.1 x k 2) x) (zhi (fun x => zp z.1 x k 2) x) (zs (fun x => zp z.1 x k 2 - 1) x) f → lL_median_9 (nI k) z K fuel (nI (zs (fun x => if 0 < zp z.1 x k 2 then 1 else 0) x)) (nI x) f := by
  have hb := hG.1
  have h8 := rB_D hb
  have h6 := rB_E hb
  intro n
  induction n with
  | zero =>
    intro x fuel f hf hx h
    obtain ⟨f0, rfl⟩ : ∃ f, fuel = f + 1 := ⟨fuel - 1, by omega⟩
    have e : x = z.1 1 := by omega
    rw [lL_median_9.eq_2]
    rw [e] at h ⊢
    exact ⟨fun _ => hK f h, fun w => absurd (nI_le (Nat.le_refl _) (by omega)) w⟩
  | succ n ih =>
    intro x fuel f hf hx h
    obtain ⟨f0, rfl⟩ : ∃ f, fuel = f + 1 := ⟨fuel - 1, by omega⟩
    have hg := v_gradeBy (z := z) (x := x) (k := k) (by omega) hk h6 h8
    have hr := hb.2.2.2.1 x k (by omega) (by omega)
    rw [lL_median_9.eq_2]
    refine ⟨fun w => absurd w (nI_ge (by omega) (by omega)), fun _ v14 h14 => ?_⟩
    rw [hg] at h14
    by_cases e : zp z.1 x k 2 = 0
    · rw [if_pos e] at h14
      subst h14
      refine ⟨fun _ v16 h16 => ?_, fun w => absurd (by decide) w⟩
      subst h16
      rw [nI_1]
      have h' := ih (x + 1) f0 f (by omega) (by omega)
      rw [zlo_n _ x e, zhi_n _ x e, zs_succ, zs_succ] at h'
      simp only [e] at h'
      exact h' h
    · rw [if_neg e] at h14
      subst h14
      refine ⟨fun w => absurd w (nI_pos (by omega)), fun _ => ?_⟩
      have hc : zs (fun x => if 0 < zp z.1 x k 2 then 1 else 0) (x + 1) ≤ zgc z.1 k := zs_mono _ (by omega)
      have h3 := zgc_3 hb (k := k) (by omega)
      have hs : zs (fun x => if 0 < zp z.1 x k 2 then 1 else 0) (x + 1) = zs (fun x => if 0 < zp z.1 x k 2 then 1 else 0) x + 1 := by
        rw [zs_succ, if_pos (by omega)]
      refine pL_ins h (by omega) (by omega) (fun j f' hj h' => ⟨nI_in (by omega) (by decide), fun f22 h22 v23 h23 v24 h24 => ?_⟩)
      subst h22; subst h23; subst h24
      rw [nI_clamp (by omega), nI_1, nI_1, ← hs]
      refine ih (x + 1) f0 _ (by omega) (by omega) ?_
      rw [hs, zlo_m _ x (by omega), zhi_m _ x (by omega), zs_succ]
      exact h'
theorem pL_median {z : zG} (hG : GI z) {k : Nat} (hk : k < z.1 0) {Q : Int32 → Prop} (h : Q (if zres z.1 k = 0 then -13 else nI (zres z.1 k - 1))) : wL_median (nI k) z Q := by
  have h6 := rB_E hG.1
  refine pL_med9 hG hk (fun f hf => ?_) (z.1 1) 0 7 (fun _ => 0) (by omega) (by omega) (Or.inl ⟨rfl, rfl, rfl, rfl⟩)
  rcases hf with ⟨h0, _⟩ | ⟨p, h0, _⟩ | ⟨p, q, h0, h1, h2, h3, h4, h5, h7, h8⟩ | ⟨p, q, r, h0, h1, h2, h3, h4, h5, h7, h8⟩
  · have e : zres z.1 k = 0 := by unfold zres; rw [h0]; rfl
    rw [if_pos e] at h
    rw [h0]
    exact ⟨fun w => absurd w (by decide), fun _ => h⟩
  · have e : zres z.1 k = 0 := by unfold zres; rw [h0]; rfl
    rw [if_pos e] at h
    rw [h0]
    exact ⟨fun w => absurd w (by decide), fun _ => h⟩
  · have e : zres z.1 k = zgs z.1 k / 2 + 1 := by unfold zres; rw [h0]; rfl
    rw [if_neg (by omega), e, Nat.add_sub_cancel, h5] at h
    rw [h0]
    refine ⟨fun _ => ⟨fun _ => ⟨nI_in (c := 0) (by decide) (by decide), nI_in (c := 1) (by decide) (by decide), ?_⟩, fun w => absurd rfl w⟩, fun w => absurd (by decide) w⟩
    show Q ((f 0 + f 1) / nI 2)
    rw [h7, h8, nI_add, pk_div (by omega) (by decide) (by decide)]
    exact h
  · have e : zres z.1 k = zgs z.1 k - zlo (fun x => zp z.1 x k 2) (z.1 1) - zhi (fun x => zp z.1 x k 2) (z.1 1) + 1 := by unfold zres; rw [h0]; rfl
    rw [if_neg (by omega), e, Nat.add_sub_cancel, h4, h5, h7, show p + q + r - p - r = q by omega] at h
    rw [h0]
    refine ⟨fun _ => ⟨fun w => absurd w (by decide), fun _ => ⟨nI_in (c := 1) (by decide) (by decide), ?_⟩⟩, fun w => absurd (by decide) w⟩
    show Q (f 1)
    rw [h8]
    exact h
