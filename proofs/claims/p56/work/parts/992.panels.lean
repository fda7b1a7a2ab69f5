/-! The pure part: panels. -/
theorem zb_or2 : ∀ p, p < 64 → ∀ q, q < 64 → (nI p ||| nI q) = nI (p ||| q) := by decide +kernel
theorem v_panelMember {z : zG} {k p : Nat} (h : k < z.1 0) (h8 : z.1 0 ≤ 8) (hp : p < 3) : zv (s_panelMember z (nI k) (nI p)) [(-11), (-12), (-13)] = if zff z.1 k = 0 then -13 else nI (zmb z.1 k p) := by
  have e : s_panelMember z (nI k) (nI p) = if zff z.1 k = 0 then (3, 0, z) else (0, zmb z.1 k p, z) := by
    unfold s_panelMember; rw [if_pos (zok_n h (by omega)), if_pos (zok_n hp (by decide)), nI_clamp (by omega), nI_clamp (by omega)]
  rw [e]
  by_cases hz : zff z.1 k = 0
  · rw [if_pos hz, if_pos hz]; rfl
  · rw [if_neg hz, if_neg hz]; rfl
theorem pL_pn50 {z : zG} (hG : GI z) {k : Nat} (hk : k < z.1 0) {m : Nat} (hm : m < 64) {K : Int32 → Int32 → Prop} (hK : ∀ t : Int32, ((t = 1 ∧ zIs z.1 k m (z.1 1)) ∨ (t = 0 ∧ ¬ zIs z.1 k m (z.1 1))) → K (nI (zFm (zgx z.1) m (z.1 1))) t) : ∀ (n j fuel : Nat) (t : Int32), n < fuel → j + n = z.1 1 → ((t = 1 ∧ zIs z.1 k m j) ∨ (t = 0 ∧ ¬ zIs z.1 k m j)) → lL_panels__50 z (nI (z.1 1)) (nI k) (nI m) K fuel (nI (zFm (zgx z.1) m j)) t (nI j) := by
  have hb := hG.1
  have h8 := rB_D hb
  have h6 := rB_E hb
  intro n
  induction n with
  | zero =>
    intro j fuel t hf hj ht
    obtain ⟨f, rfl⟩ : ∃ f, fuel = f + 1 := ⟨fuel - 1, by omega⟩
    rw [lL_panels__50.eq_2]
    have e : j = z.1 1 := by omega
    rw [e] at ht ⊢
    exact ⟨fun _ => hK t ht, fun w => absurd (nI_le (Nat.le_refl _) (by omega)) w⟩
  | succ n ih =>
    intro j fuel t hf hj ht
    obtain ⟨f, rfl⟩ : ∃ f, fuel = f + 1 := ⟨fuel - 1, by omega⟩
    have hj1 : j < z.1 1 := by omega
    have rj := hb.2.2.1 j (by omega)
    have rj2 := rj.2.2.2.2 hj1
    have hF : zFm (zgx z.1) m j < 64 := zFm_lt (fun i hi => zgx_lt hb (by omega))
    have hs : zIs z.1 k m (j + 1) ↔ zIs z.1 k m j ∧ (m / 2 ^ j % 2 = 1 → zst z.1 k j) := by
      constructor
      · exact fun h => ⟨⟨h.1, fun i hi => h.2 i (by omega)⟩, h.2 j (by omega)⟩
      · refine fun h => ⟨h.1.1, fun i hi => ?_⟩
        rcases Nat.lt_or_ge i j with q | q
        · exact h.1.2 i q
        · rw [show i = j by omega]; exact h.2
    rw [lL_panels__50.eq_2]
    refine ⟨fun w => absurd w (nI_ge (by omega) (by omega)), fun _ => bri (zb_shr1 (by omega) (by omega)) (fun b => ?_) (fun b => ?_)⟩
    · have hgx := zgx_lt hb hj1
      have e1 : (nI (zFm (zgx z.1) m j) ||| ((1 : Int32) <<< (((nI (s_frameOfExaminer z (nI j)).2.1) - (97 : Int32)) &&& 31))) = nI (zFm (zgx z.1) m (j + 1)) := by
        rw [e_frameOfExaminer (z := z) hj1 (by omega)]
        show (nI (zFm (zgx z.1) m j) ||| ((1 : Int32) <<< ((nI (zx z.1 j 0) - nI 97) &&& 31))) = nI (zFm (zgx z.1) m j ||| (if m / 2 ^ j % 2 = 1 then zgx z.1 j else 0))
        rw [pk_sub (by omega), zb_shl _ (by omega), if_pos b]
        exact zb_or2 _ hF _ hgx
      have j99 : ∀ t' : Int32, ((t' = 1 ∧ zIs z.1 k m (j + 1)) ∨ (t' = 0 ∧ ¬ zIs z.1 k m (j + 1))) → jL_panels__99 z (nI (zFm (zgx z.1) m j)) (nI j) 1 (fun x5_50 x6_50 x7_50 => lL_panels__50 z (nI (z.1 1)) (nI k) (nI m) K f x5_50 x6_50 x7_50) t' := by
        intro t' ht'
        refine ⟨fun w => absurd w (by decide), fun _ => ⟨by rw [e_frameOfExaminer (z := z) hj1 (by omega)], fun v77 h77 v78 h78 => ?_⟩⟩
        rw [e1] at h77
        subst h77; subst h78
        rw [nI_1]
        exact ih (j + 1) f t' (by omega) (by omega) ht'
      rcases ht with ⟨rfl, h⟩ | ⟨rfl, h⟩
      · refine ⟨fun w => absurd w (by decide), fun _ => ⟨fun w => absurd w (by decide), fun _ => pL_canSit hG hj1 hk ?_⟩⟩
        by_cases c : zst z.1 k j
        · rw [if_pos c]
          exact ⟨fun w => absurd w (by decide), fun _ => j99 1 (Or.inl ⟨rfl, hs.mpr ⟨h, fun _ => c⟩⟩)⟩
        · rw [if_neg c]
          exact ⟨fun _ => j99 0 (Or.inr ⟨rfl, fun q => c ((hs.mp q).2 b)⟩), fun w => absurd rfl w⟩
      · exact ⟨fun _ => j99 0 (Or.inr ⟨rfl, fun q => h (hs.mp q).1⟩), fun w => absurd rfl w⟩
    · have e1 : (nI (zFm (zgx z.1) m j) ||| (0 : Int32)) = nI (zFm (zgx z.1) m (j + 1)) := by
        show (nI (zFm (zgx z.1) m j) ||| nI 0) = nI (zFm (zgx z.1) m j ||| (if m / 2 ^ j % 2 = 1 then zgx z.1 j else 0))
        rw [if_neg b]
        exact zb_or2 _ hF _ (by decide)
      have j99 : ∀ t' : Int32, ((t' = 1 ∧ zIs z.1 k m (j + 1)) ∨ (t' = 0 ∧ ¬ zIs z.1 k m (j + 1))) → jL_panels__99 z (nI (zFm (zgx z.1) m j)) (nI j) 0 (fun x5_50 x6_50 x7_50 => lL_panels__50 z (nI (z.1 1)) (nI k) (nI m) K f x5_50 x6_50 x7_50) t' := by
        intro t' ht'
        refine ⟨fun _ v77 h77 v78 h78 => ?_, fun w => absurd rfl w⟩
        rw [e1] at h77
        subst h77; subst h78
        rw [nI_1]
        exact ih (j + 1) f t' (by omega) (by omega) ht'
      rcases ht with ⟨rfl, h⟩ | ⟨rfl, h⟩
      · exact ⟨fun w => absurd w (by decide), fun _ => ⟨fun _ => j99 1 (Or.inl ⟨rfl, hs.mpr ⟨h, fun q => absurd q b⟩⟩), fun w => absurd rfl w⟩⟩
      · exact ⟨fun _ => j99 0 (Or.inr ⟨rfl, fun q => h (hs.mp q).1⟩), fun w => absurd rfl w⟩
theorem pL_pn45 {z : zG} (hG : GI z) {k : Nat} (hk : k < z.1 0) {m : Nat} (hm : m < 64) {S : Nat} {N : Int32 → Int32 → Prop} (hN : N (nI (S + zCs z.1 k m)) (nI (m + 1))) {t : Int32} (ht : (t = 1 ∧ zb8 m = 3) ∨ (t = 0 ∧ ¬ zb8 m = 3)) : jL_panels__45 z (nI (z.1 1)) (nI k) (nI S) (nI m) N t := by
  have hb := hG.1
  have h6 := rB_E hb
  have fin : ∀ t : Int32, nI S + t = nI (S + zCs z.1 k m) → jL_panels__152 (nI S) (nI m) N t := fun t e v53 h53 v54 h54 => by
    rw [e] at h53
    rw [nI_1] at h54
    subst h53; subst h54
    exact hN
  refine pL_pn50 hG hk hm (fun t' ht' => ?_) (z.1 1) 0 7 t (by omega) (by omega) ?_
  · rcases ht' with ⟨rfl, h⟩ | ⟨rfl, h⟩
    · have hF : zFm (zgx z.1) m (z.1 1) < 64 := zFm_lt (fun i hi => zgx_lt hb hi)
      refine ⟨fun w => absurd w (by decide), fun _ => u_bitCount (by omega) ?_⟩
      have l8 : zb8 (zFm (zgx z.1) m (z.1 1)) < 2 ^ 31 := by unfold zb8; omega
      refine bri (nI_eq (a := zb8 (zFm (zgx z.1) m (z.1 1))) (b := 3) l8 (by decide)) (fun c => fin 1 ?_) (fun c => fin 0 ?_)
      · rw [show zCs z.1 k m = 1 from zif_t ⟨h, c⟩ 1 0]; exact nI_1 _
      · rw [show zCs z.1 k m = 0 from zif_f (fun q => c q.2) 1 0]; exact Int32.add_zero _
    · refine ⟨fun _ => fin 0 ?_, fun w => absurd rfl w⟩
      rw [show zCs z.1 k m = 0 from zif_f (fun q => h q.1) 1 0]; exact Int32.add_zero _
  · rcases ht with ⟨rfl, h⟩ | ⟨rfl, h⟩
    · exact Or.inl ⟨rfl, h, fun i hi => absurd hi (Nat.not_lt_zero _)⟩
    · exact Or.inr ⟨rfl, fun q => h q.1⟩
theorem pL_pn20 {z : zG} (hG : GI z) {k : Nat} (hk : k < z.1 0) {K : Int32 → Prop} (hK : K (nI (zpc z.1 k))) : ∀ n m fuel : Nat, n < fuel → m + n = 2 ^ z.1 1 → lL_panels__20 z (nI (z.1 1)) (nI k) K fuel (nI (zs (zCs z.1 k) m)) (nI m) := by
  have hb := hG.1
  have h6 := rB_E hb
  have h64 : 2 ^ z.1 1 ≤ 2 ^ 6 := Nat.pow_le_pow_right (by decide) h6
  have es := zb_shl (z.1 1) (by omega)
  intro n
  induction n with
  | zero =>
    intro m fuel hf hm
    obtain ⟨f, rfl⟩ : ∃ f, fuel = f + 1 := ⟨fuel - 1, by omega⟩
    rw [lL_panels__20.eq_2, es]
    have e : m = 2 ^ z.1 1 := by omega
    rw [e, zCs_pc hb k]
    exact ⟨fun _ => hK, fun w => absurd (nI_le (Nat.le_refl _) (by omega)) w⟩
  | succ n ih =>
    intro m fuel hf hm
    obtain ⟨f, rfl⟩ : ∃ f, fuel = f + 1 := ⟨fuel - 1, by omega⟩
    have hN := ih (m + 1) f (by omega) (by omega)
    rw [zs_succ] at hN
    rw [lL_panels__20.eq_2, es]
    refine ⟨fun w => absurd w (nI_ge (by omega) (by omega)), fun _ => u_bitCount (by omega) ?_⟩
    have l8 : zb8 m < 2 ^ 31 := by unfold zb8; omega
    exact bri (nI_eq (a := zb8 m) (b := 3) l8 (by decide)) (fun c => pL_pn45 hG hk (by omega) hN (Or.inl ⟨rfl, c⟩)) (fun c => pL_pn45 hG hk (by omega) hN (Or.inr ⟨rfl, c⟩))
theorem pL_pn7 {z : zG} (hG : GI z) {Q : Int32 → Prop} {K : Prop} (hK : K) : ∀ n k fuel : Nat, n < fuel → k + n = z.1 0 → lL_panels__7 z (nI (z.1 1)) Q K fuel (nI k) := by
  have hb := hG.1
  have h8 := rB_D hb
  have h6 := rB_E hb
  have h64 : 2 ^ z.1 1 ≤ 2 ^ 6 := Nat.pow_le_pow_right (by decide) h6
  intro n
  induction n with
  | zero =>
    intro k fuel hf hk
    obtain ⟨f, rfl⟩ : ∃ f, fuel = f + 1 := ⟨fuel - 1, by omega⟩
    rw [lL_panels__7.eq_2]
    exact ⟨fun _ => hK, fun w => absurd (nI_le (by omega) (by omega)) w⟩
  | succ n ih =>
    intro k fuel hf hk
    obtain ⟨f, rfl⟩ : ∃ f, fuel = f + 1 := ⟨fuel - 1, by omega⟩
    have hk0 : k < z.1 0 := by omega
    have hN := ih (k + 1) f (by omega) (by omega)
    have m0 : zv (s_panelMember z (nI k) (0 : Int32)) [(-11), (-12), (-13)] = if zff z.1 k = 0 then -13 else nI (zmb z.1 k 0) := v_panelMember (p := 0) hk0 h8 (by decide)
    have m1 : zv (s_panelMember z (nI k) (1 : Int32)) [(-11), (-12), (-13)] = if zff z.1 k = 0 then -13 else nI (zmb z.1 k 1) := v_panelMember (p := 1) hk0 h8 (by decide)
    have m2 : zv (s_panelMember z (nI k) (2 : Int32)) [(-11), (-12), (-13)] = if zff z.1 k = 0 then -13 else nI (zmb z.1 k 2) := v_panelMember (p := 2) hk0 h8 (by decide)
    have m3 : zv (s_panelMember z (nI k) (3 : Int32)) [(-11), (-12), (-13)] = -12 := by
      unfold s_panelMember
      rw [if_pos (zok_n hk0 (by omega)), if_neg (show ¬ zok (3 : Int32) 3 from zok_b (n := 3) (by decide))]; rfl
    have m4 : zv (s_panelMember z (nI k) (-1 : Int32)) [(-11), (-12), (-13)] = -12 := by
      unfold s_panelMember
      rw [if_pos (zok_n hk0 (by omega)), if_neg (zok_m 3)]; rfl
    have pcn : zv (s_panelCount z (nI k)) [(-11)] = nI (zpc z.1 k) := by rw [e_panelCount hk0 h8]; rfl
    have l216 : zff z.1 k ≤ 216 := by
      rcases zfst_s (zPn z.1 k) 216 with ⟨s, -⟩ | ⟨n, s1, -, -, s4⟩
      · rw [zff_e]; omega
      · rw [zff_e]; omega
    have j245 : jL_panels__245 z (nI k) (nI (zpc z.1 k)) Q (fun x2_7 => lL_panels__7 z (nI (z.1 1)) Q K f x2_7) 1 := by
      unfold jL_panels__245
      rw [pcn, m3, m4]
      refine ⟨fun w => absurd w (by decide), fun _ => ⟨fun _ => ⟨fun _ => ⟨fun _ => ⟨fun _ v26 h26 => ?_, fun w => absurd rfl w⟩, fun w => absurd rfl w⟩, fun w => absurd rfl w⟩, fun w => absurd rfl w⟩⟩
      subst h26
      show lL_panels__7 z (nI (z.1 1)) Q K f (nI k + 1)
      rw [nI_1]
      exact hN
    rw [lL_panels__7.eq_2]
    refine ⟨fun w => absurd w (nI_ge (by omega) (by omega)), fun _ => pL_pn20 hG hk0 ?_ (2 ^ z.1 1) 0 65 (by omega) (by omega)⟩
    refine pL_firstPanel hG hk0 ?_
    rw [m0, m1, m2]
    by_cases hz : zff z.1 k = 0
    · simp only [if_pos hz]
      exact ⟨fun w => absurd w (by decide), fun _ => ⟨fun _ => ⟨fun _ => j245, fun w => absurd (by rw [zpc_0.mpr hz]; rfl) w⟩, fun w => absurd trivial w⟩⟩
    · simp only [if_neg hz]
      have d36 : nI (zff z.1 k - 1) / (36 : Int32) = nI ((zff z.1 k - 1) / 36) := pk_div (d := 36) (by omega) (by decide) (by decide)
      have d6 : nI (zff z.1 k - 1) / (6 : Int32) = nI ((zff z.1 k - 1) / 6) := pk_div (d := 6) (by omega) (by decide) (by decide)
      have r6 : nI (zff z.1 k - 1) - nI (zff z.1 k - 1) / (6 : Int32) * (6 : Int32) = nI ((zff z.1 k - 1) % 6) := pk_rem (d := 6) (by omega) (by decide) (by decide)
      have q6 : nI ((zff z.1 k - 1) / 6) - nI ((zff z.1 k - 1) / 6) / (6 : Int32) * (6 : Int32) = nI ((zff z.1 k - 1) / 6 % 6) := pk_rem (d := 6) (by omega) (by decide) (by decide)
      rw [r6, d6, q6, d36]
      exact ⟨fun _ => ⟨fun _ => ⟨fun _ => ⟨fun _ => j245, fun w => absurd rfl w⟩, fun w => absurd rfl w⟩, fun w => absurd rfl w⟩, fun w => absurd (nI_pos' (by omega)) w⟩
theorem pL_panels {z : zG} (hG : GI z) : wL_panels_ z (fun r => r = 1) := by
  have hb := hG.1
  have h8 := rB_D hb
  have b0 := zok_b (n := z.1 0) (by omega)
  have n0 := zok_m (z.1 0)
  have f1 : zv (s_panelCount z (nI (z.1 0))) [(-11)] = -11 := by unfold s_panelCount; rw [if_neg b0]; rfl
  have f2 : zv (s_panelCount z (-1 : Int32)) [(-11)] = -11 := by unfold s_panelCount; rw [if_neg n0]; rfl
  have f3 : zv (s_panelMember z (nI (z.1 0)) (3 : Int32)) [(-11), (-12), (-13)] = -11 := by unfold s_panelMember; rw [if_neg b0]; rfl
  intro v1 h1
  subst h1
  exact pL_pn7 hG ⟨fun _ => ⟨fun _ => ⟨fun _ => rfl, fun w => absurd f3 w⟩, fun w => absurd f2 w⟩, fun w => absurd f1 w⟩ (z.1 0) 0 9 (by omega) (by omega)
