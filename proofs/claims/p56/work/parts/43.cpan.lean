/-! The class's panels. -/
section U2
variable {M : sM} {i : Nat} {a : Nat → Nat}
theorem u2_suits (hS : rS M i a) (hb : rB a) {x k : Nat} (hx : x < 6) (hk : k < 8) {Q : Int32 → Prop} (h1 : zst a k x → Q 1) (h0 : ¬ zst a k x → Q 0) : wX2_suits i (nI k) (nI x) M Q := by
  have hE := rB_E hb
  unfold wX2_suits
  by_cases hv : x < a 1
  · refine u5_hasExaminer_t hS hb hv (br1 (u5_neutral hS hb hx hk (fun n => br1 (u5_assigned hS hb hx hk (fun e => br1 (h0 (fun z => by have := z.2.2; omega))) (fun e => br0 (h1 ⟨hv, n, e⟩)))) (fun n => br0 (h0 (fun z => n z.2.1)))))
  · refine u5_hasExaminer_f hS hb (fun j hj e => ?_) (br0 (h0 (fun z => hv z.1)))
    have := (nI_eq (by omega) (by omega)).mp e
    omega
theorem u2_isPanel (hS : rS M i a) (hb : rB a) {x y z k : Nat} (hx : x < 6) (hy : y < 6) (hz : z < 6) (hk : k < 8) {Q : Int32 → Prop} (h1 : zpq a k x y z → Q 1) (h0 : ¬ zpq a k x y z → Q 0) : wX2_isPanel i (nI k) (nI x) (nI y) (nI z) M Q := by
  have bx := (hb.2.2.1 x hx).1
  have by' := (hb.2.2.1 y hy).1
  have bz := (hb.2.2.1 z hz).1
  unfold wX2_isPanel
  refine u2_suits hS hb hx hk (fun s1 => br1 (u2_suits hS hb hy hk (fun s2 => br1 (u2_suits hS hb hz hk (fun s3 => br1 ⟨vin hx (by decide), vin hy (by decide), ?_⟩) (fun n => br0 (h0 (fun q => n q.2.2.1))))) (fun n => br0 (h0 (fun q => n q.2.1))))) (fun n => br0 (h0 (fun q => n q.1)))
  rw [cl (by omega), cl (by omega), rS_xf hS hx, rS_xf hS hy]
  refine bri (nI_eq (by omega) (by omega)) (fun e => h0 (fun q => q.2.2.2.1 e)) (fun e1 => ⟨vin hx (by decide), vin hz (by decide), ?_⟩)
  rw [cl (by omega), rS_xf hS hz]
  refine bri (nI_eq (by omega) (by omega)) (fun e => h0 (fun q => q.2.2.2.2.1 e)) (fun e2 => ⟨vin hy (by decide), vin hz (by decide), ?_⟩)
  exact bri (nI_eq (by omega) (by omega)) (fun e => h0 (fun q => q.2.2.2.2.2 e)) (fun e3 => h1 ⟨s1, s2, s3, e1, e2, e3⟩)
theorem u2_countByTrying (hS : rS M i a) (hb : rB a) {k : Nat} (hk : k < 8) {Q : Int32 → Prop} (h : Q (nI (zpc a k))) : wX2_countByTrying i (nI k) M Q := by
  have inner : ∀ x y, x < y → y < 6 → ∀ (K : Int32 → Prop) c, K (nI (c + zs (fun z => zpan a k x y z) 6)) → ∀ m z, z + m = 6 → y < z → lX2_countByTrying_31 i (nI k) M (nI x) (nI y) K (m + 1) (nI (c + zs (fun z => zpan a k x y z) z)) (nI z) := by
    intro x y hxy hy K c hK m
    induction m with
    | zero =>
      intro z hz hyz
      unfold lX2_countByTrying_31
      have e : z = 6 := by omega
      subst e
      exact brt (nI_le (b := 6) (Nat.le_refl _) (by omega)) hK
    | succ m ih =>
      intro z hz hyz
      unfold lX2_countByTrying_31
      refine brf (nI_ge (b := 6) (by omega) (by omega)) ?_
      refine u2_isPanel hS hb (by omega) hy (by omega) hk (fun p => br1 ?_) (fun p => br0 ?_)
      · intro v13 e13 v14 e14
        subst e13 e14
        have r := ih (z + 1) (by omega) (by omega)
        rw [zs_succ, show zpan a k x y z = 1 from if_pos ⟨hxy, hyz, p⟩, ← Nat.add_assoc, nI_succ, nI_succ] at r
        exact r
      · intro v12 e12
        subst e12
        have r := ih (z + 1) (by omega) (by omega)
        rw [zs_succ, show zpan a k x y z = 0 from if_neg (fun t => p t.2.2), Nat.add_zero, nI_succ] at r
        exact r
  have mid : ∀ x, x < 6 → ∀ (K : Int32 → Prop) c, K (nI (c + zs (fun y => zs (fun z => zpan a k x y z) 6) 6)) → ∀ m y, y + m = 6 → x < y → lX2_countByTrying_18 i (nI k) M (nI x) K (m + 1) (nI (c + zs (fun y => zs (fun z => zpan a k x y z) 6) y)) (nI y) := by
    intro x hx K c hK m
    induction m with
    | zero =>
      intro y hy hxy
      unfold lX2_countByTrying_18
      have e : y = 6 := by omega
      subst e
      exact brt (nI_le (b := 6) (Nat.le_refl _) (by omega)) hK
    | succ m ih =>
      intro y hy hxy
      unfold lX2_countByTrying_18
      refine brf (nI_ge (b := 6) (by omega) (by omega)) ?_
      intro v6 e6
      rw [← nI_succ y] at e6
      subst e6
      have r := inner x y hxy (by omega) (fun x3_31k => ∀ v7 : Int32, v7 = nI y + (1 : Int32) → ((fun x3_18 x5_18 => lX2_countByTrying_18 i (nI k) M (nI x) K (m + 1) x3_18 x5_18) x3_31k v7)) (c + zs (fun y => zs (fun z => zpan a k x y z) 6) y) (fun v7 e7 => by
        subst e7
        have r := ih (y + 1) (by omega) (by omega)
        rw [zs_succ, ← Nat.add_assoc, nI_succ] at r
        exact r) (6 - (y + 1)) (y + 1) (by omega) (by omega)
      rw [show zs (fun z => zpan a k x y z) (y + 1) = 0 from zs_zero (fun z hz => if_neg (fun t => by omega)), Nat.add_zero] at r
      exact ⟨_, r⟩
  have outer : ∀ m x, x + m = 6 → lX2_countByTrying_5 i (nI k) M (fun x3_5k => Q x3_5k) (m + 1) (nI (zs (fun x => zs (fun y => zs (fun z => zpan a k x y z) 6) 6) x)) (nI x) := by
    intro m
    induction m with
    | zero =>
      intro x hx
      unfold lX2_countByTrying_5
      have e : x = 6 := by omega
      subst e
      exact brt (nI_le (b := 6) (Nat.le_refl _) (by omega)) h
    | succ m ih =>
      intro x hx
      unfold lX2_countByTrying_5
      refine brf (nI_ge (b := 6) (by omega) (by omega)) ?_
      intro v2 e2
      rw [← nI_succ x] at e2
      subst e2
      have r := mid x (by omega) (fun x3_18k => ∀ v3 : Int32, v3 = nI x + (1 : Int32) → ((fun x3_5 x4_5 => lX2_countByTrying_5 i (nI k) M (fun x3_5k => Q x3_5k) (m + 1) x3_5 x4_5) x3_18k v3)) (zs (fun x => zs (fun y => zs (fun z => zpan a k x y z) 6) 6) x) (fun v3 e3 => by
        subst e3
        have r := ih (x + 1) (by omega)
        rw [zs_succ, nI_succ] at r
        exact r) (6 - (x + 1)) (x + 1) (by omega) (by omega)
      rw [show zs (fun y => zs (fun z => zpan a k x y z) 6) (x + 1) = 0 from zs_zero (fun y hy => zs_zero (fun z hz => if_neg (fun t => by omega))), Nat.add_zero] at r
      exact ⟨_, r⟩
  unfold wX2_countByTrying
  exact ⟨7, outer 6 0 rfl⟩
theorem u2_suitableWithFrame (hS : rS M i a) (hb : rB a) {k f : Nat} (hk : k < 8) (hf : f < 6) {Q : Int32 → Prop} (h : Q (nI (zfr a k f))) : wX2_suitableWithFrame i (nI k) (nI (97 + f)) M Q := by
  have hE := rB_E hb
  have key : ∀ m x, x + m = a 1 → lX2_suitableWithFrame_5 i (nI k) (nI (97 + f)) M (fun x3_5k => Q x3_5k) (m + 1) (nI (zs (fun x => if zx a x 0 = 97 + f ∧ zst a k x then 1 else 0) x)) (nI x) := by
    intro m
    induction m with
    | zero =>
      intro x hx
      unfold lX2_suitableWithFrame_5
      have e : x = a 1 := by omega
      rw [rS_E hS]
      refine brt (by rw [e]; exact nI_le (Nat.le_refl _) (by omega)) ?_
      rw [e, ← zs_ext (n := 6) hE (fun y h1 h2 => if_neg (fun t => by have := t.2.1; omega))]
      exact h
    | succ m ih =>
      intro x hx
      have hx6 : x < 6 := by omega
      have bx := (hb.2.2.1 x hx6).1
      unfold lX2_suitableWithFrame_5
      rw [rS_E hS]
      refine brf (nI_ge (by omega) (by omega)) ⟨vin hx6 (by decide), ?_⟩
      rw [cl (by omega), rS_xf hS hx6]
      have r := ih (x + 1) (by omega)
      rw [zs_succ] at r
      refine bri (nI_eq (by omega) (by omega)) (fun e => u2_suits hS hb hx6 hk (fun s => br1 ?_) (fun s => br0 ?_)) (fun e => ?_)
      · intro v8 e8 v9 e9
        subst e8 e9
        rw [if_pos ⟨e, s⟩, nI_succ, nI_succ] at r
        exact r
      · intro v e2
        subst e2
        rw [if_neg (fun t => s t.2), Nat.add_zero, nI_succ] at r
        exact r
      · intro v e2
        subst e2
        rw [if_neg (fun t => e t.1), Nat.add_zero, nI_succ] at r
        exact r
  unfold wX2_suitableWithFrame
  exact ⟨a 1 + 1, key (a 1) 0 (by omega)⟩
theorem u2_countByFrames (hS : rS M i a) (hb : rB a) {k : Nat} (hk : k < 8) {Q : Int32 → sM → Prop} (h : ∀ M', fr 13 14 M M' → Q (nI (zpc a k)) M') : wX2_countByFrames i (nI k) M Q := by
  have inner : ∀ (M2 : sM), (∀ f, f < 6 → M2 13 f = nI (zfr a k f)) → ∀ x y, x < y → y < 6 → ∀ (K : Int32 → Prop) c, K (nI (c + zs (fun z => zo3 x y z * (zfr a k x * zfr a k y * zfr a k z)) 6)) → ∀ m z, z + m = 6 → y < z → lX2_countByFrames_61 M2 (nI x) (nI y) K (m + 1) (nI (c + zs (fun z => zo3 x y z * (zfr a k x * zfr a k y * zfr a k z)) z)) (nI z) := by
    intro M2 h13 x y hxy hy K c hK m
    induction m with
    | zero =>
      intro z hz hyz
      unfold lX2_countByFrames_61
      have e : z = 6 := by omega
      subst e
      exact brt (nI_le (b := 6) (Nat.le_refl _) (by omega)) hK
    | succ m ih =>
      intro z hz hyz
      unfold lX2_countByFrames_61
      refine brf (nI_ge (b := 6) (by omega) (by omega)) ⟨vin (by omega) (by decide), vin (by omega) (by decide), vin (by omega) (by decide), ?_⟩
      rw [cl (by omega), cl (by omega), cl (by omega), h13 x (by omega), h13 y (by omega), h13 z (by omega), pk_mul, pk_mul, nI_add]
      intro v13 e13 v14 e14
      subst e13 e14
      have r := ih (z + 1) (by omega) (by omega)
      rw [zs_succ, show zo3 x y z = 1 from if_pos ⟨hxy, hyz⟩, Nat.one_mul, ← Nat.add_assoc, nI_succ] at r
      exact r
  have mid : ∀ (M2 : sM), (∀ f, f < 6 → M2 13 f = nI (zfr a k f)) → ∀ x, x < 6 → ∀ (K : Int32 → Prop) c, K (nI (c + zs (fun y => zs (fun z => zo3 x y z * (zfr a k x * zfr a k y * zfr a k z)) 6) 6)) → ∀ m y, y + m = 6 → x < y → lX2_countByFrames_48 M2 (nI x) K (m + 1) (nI (c + zs (fun y => zs (fun z => zo3 x y z * (zfr a k x * zfr a k y * zfr a k z)) 6) y)) (nI y) := by
    intro M2 h13 x hx K c hK m
    induction m with
    | zero =>
      intro y hy hxy
      unfold lX2_countByFrames_48
      have e : y = 6 := by omega
      subst e
      exact brt (nI_le (b := 6) (Nat.le_refl _) (by omega)) hK
    | succ m ih =>
      intro y hy hxy
      unfold lX2_countByFrames_48
      refine brf (nI_ge (b := 6) (by omega) (by omega)) ?_
      intro v6 e6
      rw [← nI_succ y] at e6
      subst e6
      have r := inner M2 h13 x y hxy (by omega) (fun x3_61k => ∀ v7 : Int32, v7 = nI y + (1 : Int32) → ((fun x3_48 x5_48 => lX2_countByFrames_48 M2 (nI x) K (m + 1) x3_48 x5_48) x3_61k v7)) (c + zs (fun y => zs (fun z => zo3 x y z * (zfr a k x * zfr a k y * zfr a k z)) 6) y) (fun v7 e7 => by
        subst e7
        have r := ih (y + 1) (by omega) (by omega)
        rw [zs_succ, ← Nat.add_assoc, nI_succ] at r
        exact r) (6 - (y + 1)) (y + 1) (by omega) (by omega)
      rw [show zs (fun z => zo3 x y z * (zfr a k x * zfr a k y * zfr a k z)) (y + 1) = 0 from zs_zero (fun z hz => by
        show zo3 x y z * _ = 0
        rw [show zo3 x y z = 0 from if_neg (fun t => by omega), Nat.zero_mul]), Nat.add_zero] at r
      exact ⟨_, r⟩
  have outer : ∀ (M2 : sM), (∀ f, f < 6 → M2 13 f = nI (zfr a k f)) → fr 13 14 M M2 → ∀ m x, x + m = 6 → lX2_countByFrames_35 M2 (fun x3_35k => Q x3_35k M2) (m + 1) (nI (zs (fun x => zs (fun y => zs (fun z => zo3 x y z * (zfr a k x * zfr a k y * zfr a k z)) 6) 6) x)) (nI x) := by
    intro M2 h13 f2 m
    induction m with
    | zero =>
      intro x hx
      unfold lX2_countByFrames_35
      have e : x = 6 := by omega
      subst e
      refine brt (nI_le (b := 6) (Nat.le_refl _) (by omega)) ?_
      have r := h M2 f2
      rw [← zpf_pc hb] at r
      exact r
    | succ m ih =>
      intro x hx
      unfold lX2_countByFrames_35
      refine brf (nI_ge (b := 6) (by omega) (by omega)) ?_
      intro v2 e2
      rw [← nI_succ x] at e2
      subst e2
      have r := mid M2 h13 x (by omega) (fun x3_48k => ∀ v3 : Int32, v3 = nI x + (1 : Int32) → ((fun x3_35 x4_35 => lX2_countByFrames_35 M2 (fun x3_35k => Q x3_35k M2) (m + 1) x3_35 x4_35) x3_48k v3)) (zs (fun x => zs (fun y => zs (fun z => zo3 x y z * (zfr a k x * zfr a k y * zfr a k z)) 6) 6) x) (fun v3 e3 => by
        subst e3
        have r := ih (x + 1) (by omega)
        rw [zs_succ, nI_succ] at r
        exact r) (6 - (x + 1)) (x + 1) (by omega) (by omega)
      rw [show zs (fun y => zs (fun z => zo3 x y z * (zfr a k x * zfr a k y * zfr a k z)) 6) (x + 1) = 0 from zs_zero (fun y hy => zs_zero (fun z hz => by
        show zo3 x y z * _ = 0
        rw [show zo3 x y z = 0 from if_neg (fun t => by omega), Nat.zero_mul])), Nat.add_zero] at r
      exact ⟨_, r⟩
  have first : ∀ m f, f + m = 6 → ∀ M2, fr 13 14 M M2 → (∀ f2, f2 < f → M2 13 f2 = nI (zfr a k f2)) → lX2_countByFrames_2 i (nI k) (fun M_2k => ∃ n35, lX2_countByFrames_35 M_2k (fun x3_35k => Q x3_35k M_2k) n35 (0 : Int32) (0 : Int32)) (m + 1) (nI f) M2 := by
    intro m
    induction m with
    | zero =>
      intro f hf M2 f2 h2
      unfold lX2_countByFrames_2
      have e : f = 6 := by omega
      subst e
      exact brt (nI_le (b := 6) (Nat.le_refl _) (by omega)) ⟨7, outer M2 h2 f2 6 0 rfl⟩
    | succ m ih =>
      intro f hf M2 f2 h2
      unfold lX2_countByFrames_2
      refine brf (nI_ge (b := 6) (by omega) (by omega)) ?_
      intro v30 e30
      have e30 : v30 = nI (97 + f) := by
        rw [e30, show (97 : Int32) = nI 97 from rfl, nI_add]; exact chr_w (by omega)
      subst e30
      refine u2_suitableWithFrame (rS_pl hS f2 (by decide)) hb hk (by omega) ⟨vin (by omega) (by decide), ?_⟩
      intro M33 e33 v34 e34
      subst e34
      rw [cl (by omega)] at e33
      have r := ih (f + 1) (by omega) M33 (fr_t f2 (by rw [e33]; exact fr_s M2 _ _ (by decide))) (fun q hq => by
        rw [e33, ms_a]
        by_cases e : q = f
        · subst e; rw [if_pos ⟨rfl, rfl⟩]
        · rw [if_neg (fun z => e z.2)]; exact h2 q (by omega))
      rw [nI_succ] at r
      exact r
  unfold wX2_countByFrames
  exact ⟨7, first 6 0 rfl M (fr_r _ _ _) (fun f hf => absurd hf (Nat.not_lt_zero _))⟩
theorem zb_mask : ∀ x, x < 6 → ∀ y, y < 6 → ∀ z, z < 6 → x < y → y < z → ((((1 : Int32) <<< (nI x &&& 31)) ||| ((1 : Int32) <<< (nI y &&& 31))) ||| ((1 : Int32) <<< (nI z &&& 31))) = nI (2 ^ x + 2 ^ y + 2 ^ z) := by decide +kernel
theorem u2_firstFor (hS : rS M i a) (hb : rB a) {k : Nat} (hk : k < 8) {Q : Int32 → Prop} (h0 : zff a k = 0 → Q 0) (h1 : ∀ x y z, x < y → y < z → z < 6 → zpq a k x y z → zff a k = 36 * x + 6 * y + z + 1 → Q (nI (2 ^ x + 2 ^ y + 2 ^ z))) : wX2_firstFor i (nI k) M Q := by
  have nop : ∀ n x y z, n = 36 * x + 6 * y + z → y < 6 → z < 6 → ¬ (x < y ∧ y < z) → ¬ zpan a k (n / 36) (n / 6 % 6) (n % 6) = 1 := fun n x y z e hy hz q w => by
    rw [show n / 36 = x by omega, show n / 6 % 6 = y by omega, show n % 6 = z by omega] at w
    exact q ⟨(zpan_p w).1, (zpan_p w).2.1⟩
  have inner : ∀ x y, x < y → y < 6 → ∀ (K : Prop), ((∀ n, n < 36 * x + 6 * (y + 1) → ¬ zpan a k (n / 36) (n / 6 % 6) (n % 6) = 1) → K) → ∀ m z, z + m = 6 → y < z → (∀ n, n < 36 * x + 6 * y + z → ¬ zpan a k (n / 36) (n / 6 % 6) (n % 6) = 1) → lX2_firstFor_26 i (nI k) M (nI x) (nI y) Q K (m + 1) (nI z) := by
    intro x y hxy hy K hK m
    induction m with
    | zero =>
      intro z hz hyz hn
      unfold lX2_firstFor_26
      have e : z = 6 := by omega
      subst e
      exact brt (nI_le (b := 6) (Nat.le_refl _) (by omega)) (hK (fun n hn2 => hn n (by omega)))
    | succ m ih =>
      intro z hz hyz hn
      unfold lX2_firstFor_26
      refine brf (nI_ge (b := 6) (by omega) (by omega)) ?_
      refine u2_isPanel hS hb (by omega) hy (by omega) hk (fun p => br1 ?_) (fun p => br0 ?_)
      · rw [zb_mask x (by omega) y hy z (by omega) hxy hyz]
        refine h1 x y z hxy hyz (by omega) p ?_
        refine zfst_p (x := 36 * x + 6 * y + z) ?_ hn (by omega)
        show zpan a k ((36 * x + 6 * y + z) / 36) ((36 * x + 6 * y + z) / 6 % 6) ((36 * x + 6 * y + z) % 6) = 1
        rw [show (36 * x + 6 * y + z) / 36 = x by omega, show (36 * x + 6 * y + z) / 6 % 6 = y by omega, show (36 * x + 6 * y + z) % 6 = z by omega]
        exact if_pos ⟨hxy, hyz, p⟩
      · intro v12 e12
        subst e12
        have r := ih (z + 1) (by omega) (by omega) (fun n hn2 => by
          rcases Nat.lt_or_ge n (36 * x + 6 * y + z) with q | q
          · exact hn n q
          · intro w
            rw [show n / 36 = x by omega, show n / 6 % 6 = y by omega, show n % 6 = z by omega] at w
            exact p (zpan_p w).2.2)
        rw [nI_succ] at r
        exact r
  have mid : ∀ x, x < 6 → ∀ (K : Prop), ((∀ n, n < 36 * (x + 1) → ¬ zpan a k (n / 36) (n / 6 % 6) (n % 6) = 1) → K) → ∀ m y, y + m = 6 → x < y → (∀ n, n < 36 * x + 6 * y → ¬ zpan a k (n / 36) (n / 6 % 6) (n % 6) = 1) → lX2_firstFor_13 i (nI k) M (nI x) Q K (m + 1) (nI y) := by
    intro x hx K hK m
    induction m with
    | zero =>
      intro y hy hxy hn
      unfold lX2_firstFor_13
      have e : y = 6 := by omega
      subst e
      exact brt (nI_le (b := 6) (Nat.le_refl _) (by omega)) (hK (fun n hn2 => hn n (by omega)))
    | succ m ih =>
      intro y hy hxy hn
      unfold lX2_firstFor_13
      refine brf (nI_ge (b := 6) (by omega) (by omega)) ?_
      intro v6 e6
      rw [← nI_succ y] at e6
      subst e6
      exact ⟨_, inner x y hxy (by omega) _ (fun hn2 v7 e7 => by
        subst e7
        have r := ih (y + 1) (by omega) (by omega) hn2
        rw [nI_succ] at r
        exact r) (6 - (y + 1)) (y + 1) (by omega) (by omega) (fun n hn2 => by
        rcases Nat.lt_or_ge n (36 * x + 6 * y) with q | q
        · exact hn n q
        · exact nop n x y (n - (36 * x + 6 * y)) (by omega) (by omega) (by omega) (by omega))⟩
  have outer : ∀ m x, x + m = 6 → (∀ n, n < 36 * x → ¬ zpan a k (n / 36) (n / 6 % 6) (n % 6) = 1) → lX2_firstFor_2 i (nI k) M Q (Q (0 : Int32)) (m + 1) (nI x) := by
    intro m
    induction m with
    | zero =>
      intro x hx hn
      unfold lX2_firstFor_2
      have e : x = 6 := by omega
      subst e
      exact brt (nI_le (b := 6) (Nat.le_refl _) (by omega)) (h0 (zfst_0 hn))
    | succ m ih =>
      intro x hx hn
      unfold lX2_firstFor_2
      refine brf (nI_ge (b := 6) (by omega) (by omega)) ?_
      intro v2 e2
      rw [← nI_succ x] at e2
      subst e2
      exact ⟨_, mid x (by omega) _ (fun hn2 v3 e3 => by
        subst e3
        have r := ih (x + 1) (by omega) hn2
        rw [nI_succ] at r
        exact r) (6 - (x + 1)) (x + 1) (by omega) (by omega) (fun n hn2 => by
        rcases Nat.lt_or_ge n (36 * x) with q | q
        · exact hn n q
        · exact nop n x ((n - 36 * x) / 6) ((n - 36 * x) % 6) (by omega) (by omega) (by omega) (by omega))⟩
  unfold wX2_firstFor
  exact ⟨7, outer 6 0 rfl (fun n hn => by omega)⟩
/-- a set's members: as a sum -/
theorem zb_in1 : ∀ x, x < 6 → ∀ y, y < 6 → ∀ z, z < 6 → x < y → y < z → 2 ^ x + 2 ^ y + 2 ^ z < 64 := by decide +kernel
theorem zb_in3 : ∀ n, n < 1296 → n / 36 % 6 < n / 6 % 6 → n / 6 % 6 < n % 6 → (2 ^ (n / 36 % 6) + 2 ^ (n / 6 % 6) + 2 ^ (n % 6)) / 2 ^ (n / 216) % 2 = (n / 216 == n / 36 % 6).toNat + (n / 216 == n / 6 % 6).toNat + (n / 216 == n % 6).toNat := by decide +kernel
theorem zb_in2 {e x y z : Nat} (he : e < 6) (hx : x < 6) (hy : y < 6) (hz : z < 6) (h1 : x < y) (h2 : y < z) : (2 ^ x + 2 ^ y + 2 ^ z) / 2 ^ e % 2 = (e == x).toNat + (e == y).toNat + (e == z).toNat := by
  have r := zb_in3 (216 * e + 36 * x + 6 * y + z) (by omega)
  rw [show (216 * e + 36 * x + 6 * y + z) / 216 = e by omega, show (216 * e + 36 * x + 6 * y + z) / 36 % 6 = x by omega, show (216 * e + 36 * x + 6 * y + z) / 6 % 6 = y by omega, show (216 * e + 36 * x + 6 * y + z) % 6 = z by omega] at r
  exact r h1 h2
theorem zb_in : ∀ x, x < 6 → ∀ y, y < 6 → ∀ z, z < 6 → x < y → y < z → 2 ^ x + 2 ^ y + 2 ^ z < 64 ∧ ∀ e, e < 6 → ((2 ^ x + 2 ^ y + 2 ^ z) / 2 ^ e % 2 = (if e = x then 1 else 0) + (if e = y then 1 else 0) + (if e = z then 1 else 0)) := fun x hx y hy z hz h1 h2 => by
  refine ⟨zb_in1 x hx y hy z hz h1 h2, fun e he => ?_⟩
  have b : ∀ u, (e == u).toNat = if e = u then 1 else 0 := fun u => by
    by_cases q : e = u
    · rw [if_pos q, beq_iff_eq.mpr q]; rfl
    · rw [if_neg q, beq_eq_false_iff_ne.mpr q]; rfl
  rw [zb_in2 he hx hy hz h1 h2, b, b, b]
def zfv (a : Nat → Nat) (v : Int32) (e : Nat) : Nat := if nI (zx a e 3) < v then 0 else 1
theorem u2_votes (hS : rS M i a) (hb : rB a) {x y z : Nat} (hxy : x < y) (hyz : y < z) (hz : z < a 1) (v : Int32) {Q : Int32 → Prop} (h : Q (nI (zfv a v x + zfv a v y + zfv a v z))) : wX2_votes i (nI (2 ^ x + 2 ^ y + 2 ^ z)) v M Q := by
  have hE := rB_E hb
  have bm := zb_in x (by omega) y (by omega) z (by omega) hxy hyz
  have key : ∀ m e, e + m = a 1 → lX2_votes_5 i (nI (2 ^ x + 2 ^ y + 2 ^ z)) v M (fun x3_5k => Q x3_5k) (m + 1) (nI (zs (fun e => (if e = x then zfv a v x else 0) + (if e = y then zfv a v y else 0) + (if e = z then zfv a v z else 0)) e)) (nI e) := by
    intro m
    induction m with
    | zero =>
      intro e he
      unfold lX2_votes_5
      have e0 : e = a 1 := by omega
      rw [rS_E hS]
      refine brt (by rw [e0]; exact nI_le (Nat.le_refl _) (by omega)) ?_
      have one : ∀ u, u < a 1 → zs (fun e => if e = u then zfv a v u else 0) (a 1) = zfv a v u := fun u hu => by
        have h1 := zs_upd (fun _ => 0) u (zfv a v u) hu
        have h3 : zs (fun _ => 0) (a 1) = 0 := zs_zero (fun _ _ => rfl)
        omega
      rw [e0, zs_add (fun e => (if e = x then zfv a v x else 0) + (if e = y then zfv a v y else 0)) (fun e => if e = z then zfv a v z else 0), zs_add (fun e => if e = x then zfv a v x else 0) (fun e => if e = y then zfv a v y else 0), one x (by omega), one y (by omega), one z hz]
      exact h
    | succ m ih =>
      intro e he
      have he6 : e < 6 := by omega
      unfold lX2_votes_5
      rw [rS_E hS]
      refine brf (nI_ge (by omega) (by omega)) ?_
      have r := ih (e + 1) (by omega)
      rw [zs_succ] at r
      have bit := bm.2 e he6
      refine u6_contains (by omega) (by omega) (fun b => br1 ⟨vin he6 (by decide), ?_⟩) (fun b => br0 ?_)
      · rw [cl (by omega), rS_xl hS he6]
        have val : ((if e = x then zfv a v x else 0) + (if e = y then zfv a v y else 0) + (if e = z then zfv a v z else 0)) = zfv a v e := by
          by_cases e1 : e = x
          · subst e1; rw [if_pos rfl, if_neg (by omega), if_neg (by omega)]; omega
          · by_cases e2 : e = y
            · subst e2; rw [if_neg e1, if_pos rfl, if_neg (by omega)]; omega
            · by_cases e3 : e = z
              · subst e3; rw [if_neg e1, if_neg e2, if_pos rfl]; omega
              · rw [if_neg e1, if_neg e2, if_neg e3] at bit; omega
        rw [val] at r
        unfold zfv at r
        refine ⟨fun lt => ?_, fun lt => ?_⟩
        · intro v7 e7
          subst e7
          rw [if_pos lt, Nat.add_zero, nI_succ] at r
          exact r
        · intro v8 e8 v9 e9
          subst e8 e9
          rw [if_neg lt, nI_succ, nI_succ] at r
          exact r
      · intro v4 e4
        subst e4
        rw [if_neg (fun q => by rw [if_pos q] at bit; omega), if_neg (fun q => by rw [if_pos q] at bit; omega), if_neg (fun q => by rw [if_pos q] at bit; omega), nI_succ] at r
        exact r
  unfold wX2_votes
  exact ⟨a 1 + 1, key (a 1) 0 (by omega)⟩
end U2
/-- what an appeal does -/
noncomputable def zvt (a : Nat → Nat) (k : Nat) : Nat := zfv a (nI (a 2) - nP (zres a k)) ((zff a k - 1) / 36) + zfv a (nI (a 2) - nP (zres a k)) ((zff a k - 1) / 6 % 6) + zfv a (nI (a 2) - nP (zres a k)) ((zff a k - 1) % 6)
noncomputable def oAppN (a : Nat → Nat) (k : Nat) : Nat × Nat × (Nat → Nat) := if zres a k = 0 ∨ a 2 < zres a k ∨ zd a k 2 = 1 then (2, 0, a) else if zff a k = 0 then (3, 0, a) else (0, zvt a k, zu (zu a (4 + 5 * k + 2) 1) (4 + 5 * k + 3) (if 2 ≤ zvt a k then 1 else 0))
noncomputable def oApp (a : Nat → Nat) (k : Int32) : Nat × Nat × (Nat → Nat) := if zok k (a 0) then oAppN a k.toNatClampNeg else (1, 0, a)
theorem zu_id {b : Nat → Nat} {j v : Nat} (h : b j = v) : zu b j v = b := by
  funext q
  unfold zu
  split
  · rename_i e; rw [e, h]
  · rfl
theorem zvt_3 (a : Nat → Nat) (k : Nat) : zvt a k ≤ 3 := by
  have f : ∀ v e, zfv a v e ≤ 1 := fun v e => by unfold zfv; split <;> omega
  unfold zvt
  have h1 := f (nI (a 2) - nP (zres a k)) ((zff a k - 1) / 36)
  have h2 := f (nI (a 2) - nP (zres a k)) ((zff a k - 1) / 6 % 6)
  have h3 := f (nI (a 2) - nP (zres a k)) ((zff a k - 1) % 6)
  omega
theorem u2_tryAppeal {M : sM} {i : Nat} {a : Nat → Nat} (hS : rS M i a) (hb : rB a) (k : Int32) {Q : Int32 → sM → Prop} (h : ∀ o M', oApp a k = o → fr (sw_st i) (sw_st i + 17) M M' → rS M' i o.2.2 → Q (zans (-1) (-3) (-4) o) M') : wX2_tryAppeal i k M Q := by
  have hD := rB_D hb
  have hT := rB_T hb
  unfold wX2_tryAppeal
  by_cases hv : zok k (a 0)
  · obtain ⟨k, hk, rfl⟩ := zok_t hv (by omega)
    have hk8 : k < 8 := by omega
    have E : oApp a (nI k) = oAppN a k := by unfold oApp; rw [if_pos hv, cl (by omega)]
    have bk := hb.2.1 k hk8
    have b61 := zres_le hb hk8
    refine u5_hasDoor_t hS hb hk (br1 (u5_median hS hb hk8 ?_))
    refine bri (nP_n1 (by omega)) (fun z => h (2, 0, a) M (E.trans (if_pos (.inl z))) (fr_r _ _ _) hS) (fun z1 => ?_)
    rw [rS_T hS]
    have le : nI (a 2) ≤ nP (zres a k) ↔ a 2 < zres a k := by
      rw [nP_of (by omega), nI_leI (by omega) (by omega)]; omega
    refine bri le (fun z => h (2, 0, a) M (E.trans (if_pos (.inr (.inl z)))) (fr_r _ _ _) hS) (fun z2 => ?_)
    rw [rS_ap hS]
    have ml := zm_lt (zm_d2 hb)
    refine u6_contains (by omega) (by omega) (fun z => br1 ?_) (fun z => br0 ?_)
    · rw [zm_bit (zm_d2 hb) hk8] at z
      exact h (2, 0, a) M (E.trans (if_pos (.inr (.inr z)))) (fr_r _ _ _) hS
    · rw [zm_bit (zm_d2 hb) hk8] at z
      have d2 : zd a k 2 = 0 := by omega
      have d3 : zd a k 3 = 0 := by omega
      have E2 : ¬ (zres a k = 0 ∨ a 2 < zres a k ∨ zd a k 2 = 1) := by omega
      refine u2_firstFor hS hb hk8 (fun y => br0 (h (3, 0, a) M (E.trans ?_) (fr_r _ _ _) hS)) (fun x y w hxy hyw hw hp hf => ?_)
      · unfold oAppN
        rw [if_neg E2, if_pos y]
      · have bm := zb_in x (by omega) y (by omega) w hw hxy hyw
        have pos := Nat.two_pow_pos x
        refine brf (nI_ne0 (Nat.lt_of_lt_of_le pos (Nat.le_trans (Nat.le_add_right _ _) (Nat.le_add_right _ _))) (by omega)) (u2_votes hS hb hxy hyw hp.2.2.1.1 _ ?_)
        have ev : zfv a (nI (a 2) - nP (zres a k)) x + zfv a (nI (a 2) - nP (zres a k)) y + zfv a (nI (a 2) - nP (zres a k)) w = zvt a k := by
          unfold zvt
          rw [hf, show (36 * x + 6 * y + w + 1 - 1) / 36 = x by omega, show (36 * x + 6 * y + w + 1 - 1) / 6 % 6 = y by omega, show (36 * x + 6 * y + w + 1 - 1) % 6 = w by omega]
        rw [ev]
        have v3 := zvt_3 a k
        have EO : oApp a (nI k) = (0, zvt a k, zu (zu a (4 + 5 * k + 2) 1) (4 + 5 * k + 3) (if 2 ≤ zvt a k then 1 else 0)) := by
          rw [E]; unfold oAppN
          rw [if_neg E2, if_neg (by omega)]
        intro M11 e11
        rw [zb_or _ (by omega) k (by omega) (by rw [zm_bit (zm_d2 hb) hk8]; exact d2)] at e11
        have S11 := rU_ap hS hk8 d2
        rw [← e11] at S11
        have f11 : fr (sw_st i) (sw_st i + 17) M M11 := by rw [e11]; exact fr_s M _ _ (by omega)
        have d3' : zd (zu a (4 + 5 * k + 2) 1) k 3 = 0 := by rw [zd_d _ _ (by decide) (by decide), if_neg (by omega)]; exact d3
        have ans : ∀ r : Nat → Nat, zans (-1) (-3) (-4) (0, zvt a k, r) = nI (zvt a k) := fun r => if_pos rfl
        refine bri (nI_ltI (b := 2) (by omega) (by decide)) (fun lt => ?_) (fun lt => ?_)
        · have r := h _ M11 EO f11 (by
            show rS M11 i (zu (zu a (4 + 5 * k + 2) 1) (4 + 5 * k + 3) (if 2 ≤ zvt a k then 1 else 0))
            rw [if_neg (by omega), zu_id (show zu a (4 + 5 * k + 2) 1 (4 + 5 * k + 3) = 0 from d3')]
            exact S11)
          rw [ans] at r
          exact r
        · intro M13 e13
          have d31 : ∀ q, q < 8 → zd (zu a (4 + 5 * k + 2) 1) q 3 = zd a q 3 := fun q hq => by rw [zd_d _ _ (by decide) (by decide), if_neg (by omega)]
          have m1 : ∀ q, q < 8 → zd (zu a (4 + 5 * k + 2) 1) q 3 ≤ 1 := fun q hq => by rw [d31 q hq]; exact zm_d3 hb q hq
          have ml3 := zm_lt (f := fun q => zd (zu a (4 + 5 * k + 2) 1) q 3) m1
          rw [rS_gr S11, zb_or _ (by omega) k (by omega) (by rw [zm_bit (f := fun q => zd (zu a (4 + 5 * k + 2) 1) q 3) m1 hk8]; exact d3')] at e13
          have S13 := rU_gr S11 hk8 d3'
          rw [← e13] at S13
          have r := h _ M13 EO (fr_t f11 (by rw [e13]; exact fr_s M11 _ _ (by omega))) (by
            show rS M13 i (zu (zu a (4 + 5 * k + 2) 1) (4 + 5 * k + 3) (if 2 ≤ zvt a k then 1 else 0))
            rw [if_pos (by omega)]
            exact S13)
          rw [ans] at r
          exact r
  · exact u5_hasDoor_f hS hb (zok_f hv (by omega)) (br0 (h (1, 0, a) M (if_neg hv) (fr_r _ _ _) hS))
