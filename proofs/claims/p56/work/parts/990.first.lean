/-! The pure part: the first panel. -/
def zPn (a : Nat → Nat) (k n : Nat) : Prop := zpan a k (n / 36) (n / 6 % 6) (n % 6) = 1
theorem zff_e (a : Nat → Nat) (k : Nat) : zff a k = zfst (zPn a k) 216 := rfl
theorem zPn_3 {a : Nat → Nat} {k x y w : Nat} (hy : y < 6) (hw : w < 6) : zPn a k (36 * x + 6 * y + w) ↔ zpan a k x y w = 1 := by
  unfold zPn
  rw [show (36 * x + 6 * y + w) / 36 = x by omega, show (36 * x + 6 * y + w) / 6 % 6 = y by omega, show (36 * x + 6 * y + w) % 6 = w by omega]
theorem zPn_p {a : Nat → Nat} {k n : Nat} (h : zPn a k n) : n / 36 < n / 6 % 6 ∧ n / 6 % 6 < n % 6 ∧ n % 6 < a 1 := by
  have q := zpan_p h
  exact ⟨q.1, q.2.1, q.2.2.2.2.1.1⟩
/-- none before -/
def zNn (a : Nat → Nat) (k N : Nat) : Prop := ∀ n, n < N → ¬ zPn a k n
theorem zNn_to {a : Nat → Nat} {k N N' : Nat} (h : zNn a k N) (h2 : ∀ n, N ≤ n → n < N' → ¬ (n / 36 < n / 6 % 6 ∧ n / 6 % 6 < n % 6 ∧ n % 6 < a 1)) : zNn a k N' := fun n hn hp => by
  rcases Nat.lt_or_ge n N with q | q
  · exact h n q hp
  · exact h2 n q hn (zPn_p hp)
theorem pL_fp29 {z : zG} (hG : GI z) {k : Nat} (hk : k < z.1 0) {Q : Int32 → Prop} (hQ : ∀ n, n < 216 → zPn z.1 k n → zNn z.1 k n → Q (nI n)) {x y : Nat} (hxy : x < y) (hy : y < z.1 1) {K : Prop} (hK : zNn z.1 k (36 * x + 6 * y + 6) → K) : ∀ n w fuel : Nat, n < fuel → w + n = z.1 1 → y < w → zNn z.1 k (36 * x + 6 * y + w) → lL_firstPanel_29 (nI k) z (nI (z.1 1)) (nI x) (nI y) Q K fuel (nI w) := by
  have hb := hG.1
  have h8 := rB_D hb
  have h6 := rB_E hb
  intro n
  induction n with
  | zero =>
    intro w fuel hf hw hyw hN
    obtain ⟨f, rfl⟩ : ∃ f, fuel = f + 1 := ⟨fuel - 1, by omega⟩
    rw [lL_firstPanel_29.eq_2]
    exact ⟨fun _ => hK (zNn_to hN (fun n h1 h2 => by have q : n / 6 / 6 = n / 36 := Nat.div_div_eq_div_mul n 6 6; omega)), fun q => absurd (nI_le (by omega) (by omega)) q⟩
  | succ n ih =>
    intro w fuel hf hw hyw hN
    obtain ⟨f, rfl⟩ : ∃ f, fuel = f + 1 := ⟨fuel - 1, by omega⟩
    have rx := (hb.2.2.1 x (by omega)).1
    have ry := (hb.2.2.1 y (by omega)).1
    have rw' := (hb.2.2.1 w (by omega)).1
    have next : ¬ zPn z.1 k (36 * x + 6 * y + w) → ∀ v : Int32, v = nI w + (1 : Int32) → lL_firstPanel_29 (nI k) z (nI (z.1 1)) (nI x) (nI y) Q K f v := fun hp v h => by
      rw [h, nI_1]
      refine ih (w + 1) f (by omega) (by omega) (by omega) (fun n hn => ?_)
      rcases Nat.lt_or_ge n (36 * x + 6 * y + w) with q | q
      · exact hN n q
      · have e : n = 36 * x + 6 * y + w := by omega
        rw [e]; exact hp
    have hq : zPn z.1 k (36 * x + 6 * y + w) ↔ zpq z.1 k x y w := by
      rw [zPn_3 (by omega) (by omega)]
      unfold zpan
      by_cases q : zpq z.1 k x y w
      · rw [if_pos ⟨hxy, hyw, q⟩]; exact ⟨fun _ => q, fun _ => rfl⟩
      · rw [if_neg (fun t => q t.2.2)]; exact ⟨fun t => absurd t (by decide), fun t => absurd t q⟩
    have j0 : ¬ zPn z.1 k (36 * x + 6 * y + w) → jL_firstPanel_83 (nI k) z (nI x) (nI y) (nI w) Q (fun x5_29 => lL_firstPanel_29 (nI k) z (nI (z.1 1)) (nI x) (nI y) Q K f x5_29) 0 := fun hp => ⟨fun _ => next hp, fun q => absurd rfl q⟩
    rw [lL_firstPanel_29.eq_2]
    refine ⟨fun q => absurd q (nI_ge (by omega) (by omega)), fun _ => ?_⟩
    rw [e_frameOfExaminer (z := z) (k := x) (by omega) (by omega), e_frameOfExaminer (z := z) (k := y) (by omega) (by omega), e_frameOfExaminer (z := z) (k := w) (by omega) (by omega)]
    refine ⟨rfl, rfl, fun e => j0 ?_, fun e1 => ⟨rfl, rfl, fun e => j0 ?_, fun e2 => ⟨rfl, rfl, fun e => j0 ?_, fun e3 => ?_⟩⟩⟩
    · have e : nI (zx z.1 x 0) = nI (zx z.1 y 0) := e
      rw [nI_eq (by omega) (by omega)] at e
      rw [hq]; exact fun t => t.2.2.2.1 e
    · have e : nI (zx z.1 x 0) = nI (zx z.1 w 0) := e
      rw [nI_eq (by omega) (by omega)] at e
      rw [hq]; exact fun t => t.2.2.2.2.1 e
    · have e : nI (zx z.1 y 0) = nI (zx z.1 w 0) := e
      rw [nI_eq (by omega) (by omega)] at e
      rw [hq]; exact fun t => t.2.2.2.2.2 e
    · have e1 : zx z.1 x 0 ≠ zx z.1 y 0 := fun e => e1 (by show nI (zx z.1 x 0) = nI (zx z.1 y 0); rw [e])
      have e2 : zx z.1 x 0 ≠ zx z.1 w 0 := fun e => e2 (by show nI (zx z.1 x 0) = nI (zx z.1 w 0); rw [e])
      have e3 : zx z.1 y 0 ≠ zx z.1 w 0 := fun e => e3 (by show nI (zx z.1 y 0) = nI (zx z.1 w 0); rw [e])
      refine ⟨fun q => absurd q (by decide), fun _ => pL_canSit hG (x := x) (by omega) hk ?_⟩
      by_cases s1 : zst z.1 k x
      · rw [if_pos s1]
        refine ⟨fun q => absurd q (by decide), fun _ => pL_canSit hG (x := y) (by omega) hk ?_⟩
        by_cases s2 : zst z.1 k y
        · rw [if_pos s2]
          refine ⟨fun q => absurd q (by decide), fun _ => pL_canSit hG (x := w) (by omega) hk ?_⟩
          by_cases s3 : zst z.1 k w
          · rw [if_pos s3]
            refine ⟨fun q => absurd q (by decide), fun _ => ?_⟩
            have hp := hq.mpr ⟨s1, s2, s3, e1, e2, e3⟩
            have e : ((36 : Int32) * nI x) + ((6 : Int32) * nI y) + nI w = nI (36 * x + 6 * y + w) := by
              rw [show (36 : Int32) * nI x = nI (36 * x) from pk_mul 36 x, show (6 : Int32) * nI y = nI (6 * y) from pk_mul 6 y, nI_add, nI_add]
            rw [e]
            exact hQ _ (by omega) hp hN
          · rw [if_neg s3]
            exact ⟨fun _ => next (fun t => s3 (hq.mp t).2.2.1), fun q => absurd rfl q⟩
        · rw [if_neg s2]
          exact ⟨fun _ => next (fun t => s2 (hq.mp t).2.1), fun q => absurd rfl q⟩
      · rw [if_neg s1]
        exact ⟨fun _ => next (fun t => s1 (hq.mp t).1), fun q => absurd rfl q⟩
theorem pL_fp17 {z : zG} (hG : GI z) {k : Nat} (hk : k < z.1 0) {Q : Int32 → Prop} (hQ : ∀ n, n < 216 → zPn z.1 k n → zNn z.1 k n → Q (nI n)) {x : Nat} (hx : x < z.1 1) {K : Prop} (hK : zNn z.1 k (36 * x + 36) → K) : ∀ n y fuel : Nat, n < fuel → y + n = z.1 1 → x < y → zNn z.1 k (36 * x + 6 * y) → lL_firstPanel_17 (nI k) z (nI (z.1 1)) (nI x) Q K fuel (nI y) := by
  have hb := hG.1
  have h6 := rB_E hb
  intro n
  induction n with
  | zero =>
    intro y fuel hf hy hxy hN
    obtain ⟨f, rfl⟩ : ∃ f, fuel = f + 1 := ⟨fuel - 1, by omega⟩
    rw [lL_firstPanel_17.eq_2]
    exact ⟨fun _ => hK (zNn_to hN (fun n h1 h2 => by have q : n / 6 / 6 = n / 36 := Nat.div_div_eq_div_mul n 6 6; omega)), fun q => absurd (nI_le (by omega) (by omega)) q⟩
  | succ n ih =>
    intro y fuel hf hy hxy hN
    obtain ⟨f, rfl⟩ : ∃ f, fuel = f + 1 := ⟨fuel - 1, by omega⟩
    rw [lL_firstPanel_17.eq_2]
    refine ⟨fun q => absurd q (nI_ge (by omega) (by omega)), fun _ v h => ?_⟩
    subst h
    rw [nI_1]
    refine pL_fp29 hG hk hQ hxy (by omega) (fun hN' v h => ?_) (z.1 1 - (y + 1)) (y + 1) 7 (by omega) (by omega) (by omega) (zNn_to hN (fun n h1 h2 => by have q : n / 6 / 6 = n / 36 := Nat.div_div_eq_div_mul n 6 6; omega))
    subst h
    exact ih (y + 1) f (by omega) (by omega) (by omega) (by rw [show 36 * x + 6 * (y + 1) = 36 * x + 6 * y + 6 by omega]; exact hN')
theorem pL_fp7 {z : zG} (hG : GI z) {k : Nat} (hk : k < z.1 0) {Q : Int32 → Prop} (hQ : ∀ n, n < 216 → zPn z.1 k n → zNn z.1 k n → Q (nI n)) {K : Prop} (hK : zNn z.1 k 216 → K) : ∀ n x fuel : Nat, n < fuel → x + n = z.1 1 → zNn z.1 k (36 * x) → lL_firstPanel_7 (nI k) z (nI (z.1 1)) Q K fuel (nI x) := by
  have hb := hG.1
  have h6 := rB_E hb
  intro n
  induction n with
  | zero =>
    intro x fuel hf hx hN
    obtain ⟨f, rfl⟩ : ∃ f, fuel = f + 1 := ⟨fuel - 1, by omega⟩
    rw [lL_firstPanel_7.eq_2]
    exact ⟨fun _ => hK (zNn_to hN (fun n h1 h2 => by have q : n / 6 / 6 = n / 36 := Nat.div_div_eq_div_mul n 6 6; omega)), fun q => absurd (nI_le (by omega) (by omega)) q⟩
  | succ n ih =>
    intro x fuel hf hx hN
    obtain ⟨f, rfl⟩ : ∃ f, fuel = f + 1 := ⟨fuel - 1, by omega⟩
    rw [lL_firstPanel_7.eq_2]
    refine ⟨fun q => absurd q (nI_ge (by omega) (by omega)), fun _ v h => ?_⟩
    subst h
    rw [nI_1]
    refine pL_fp17 hG hk hQ (by omega) (fun hN' v h => ?_) (z.1 1 - (x + 1)) (x + 1) 7 (by omega) (by omega) (by omega) (zNn_to hN (fun n h1 h2 => by have q : n / 6 / 6 = n / 36 := Nat.div_div_eq_div_mul n 6 6; omega))
    subst h
    exact ih (x + 1) f (by omega) (by omega) (by rw [show 36 * (x + 1) = 36 * x + 36 by omega]; exact hN')
theorem pL_firstPanel {z : zG} (hG : GI z) {k : Nat} (hk : k < z.1 0) {Q : Int32 → Prop} (h : Q (if zff z.1 k = 0 then -1 else nI (zff z.1 k - 1))) : wL_firstPanel (nI k) z Q := by
  have h6 := rB_E hG.1
  intro v1 hv
  subst hv
  refine pL_fp7 hG hk (fun n hn hp hN => ?_) (fun hN => ?_) (z.1 1) 0 7 (by omega) (by omega) (fun n hn => absurd hn (Nat.not_lt_zero _))
  · have e : zff z.1 k = n + 1 := zfst_p hp hN hn
    rw [if_neg (by omega), e, Nat.add_sub_cancel] at h
    exact h
  · have e : zff z.1 k = 0 := zfst_0 hN
    rw [if_pos e] at h
    exact h
