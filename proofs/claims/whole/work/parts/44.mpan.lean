/-! The reference's panels. -/
theorem dg_n {E n : Nat} (h0 : 0 < E) (h6 : E ≤ 6) (hn : n < E * E * E) : n / (E * E) < E ∧ n / E % E < E ∧ n % E < E ∧ n = E * E * (n / (E * E)) + E * (n / E % E) + n % E := by
  rcases (show E = 1 ∨ E = 2 ∨ E = 3 ∨ E = 4 ∨ E = 5 ∨ E = 6 by omega) with e | e | e | e | e | e <;> subst e <;> omega
theorem dg_u {E x y z : Nat} (h6 : E ≤ 6) (hx : x < E) (hy : y < E) (hz : z < E) : (E * E * x + E * y + z) / (E * E) = x ∧ (E * E * x + E * y + z) / E % E = y ∧ (E * E * x + E * y + z) % E = z ∧ E * E * x + E * y + z < E * E * E := by
  rcases (show E = 1 ∨ E = 2 ∨ E = 3 ∨ E = 4 ∨ E = 5 ∨ E = 6 by omega) with e | e | e | e | e | e <;> subst e <;> omega
theorem dg_l {E x y z x2 y2 z2 : Nat} (h6 : E ≤ 6) (hx : x < E) (hy : y < E) (hz : z < E) (hx2 : x2 < E) (hy2 : y2 < E) (hz2 : z2 < E) (h : 36 * x2 + 6 * y2 + z2 < 36 * x + 6 * y + z) : E * E * x2 + E * y2 + z2 < E * E * x + E * y + z := by
  rcases (show E = 1 ∨ E = 2 ∨ E = 3 ∨ E = 4 ∨ E = 5 ∨ E = 6 by omega) with e | e | e | e | e | e <;> subst e <;> omega
theorem dg_s {E : Nat} (h6 : E ≤ 6) (F : Nat → Nat → Nat → Nat) : zs (fun n => F (n / (E * E)) (n / E % E) (n % E)) (E * E * E) = zs (fun x => zs (fun y => zs (fun z => F x y z) E) E) E := by
  rw [zs_prod]
  refine zs_cong (fun x hx => ?_)
  show zs (fun j => F ((E * E * x + j) / (E * E)) ((E * E * x + j) / E % E) ((E * E * x + j) % E)) (E * E) = zs (fun y => zs (fun z => F x y z) E) E
  rw [zs_prod]
  refine zs_cong (fun y hy => ?_)
  show zs (fun j => F ((E * E * x + (E * y + j)) / (E * E)) ((E * E * x + (E * y + j)) / E % E) ((E * E * x + (E * y + j)) % E)) E = zs (fun z => F x y z) E
  refine zs_cong (fun z hz => ?_)
  have d := dg_u h6 hx hy hz
  show F ((E * E * x + (E * y + z)) / (E * E)) ((E * E * x + (E * y + z)) / E % E) ((E * E * x + (E * y + z)) % E) = F x y z
  rw [← Nat.add_assoc, d.1, d.2.1, d.2.2.1]
section PN
variable {M : sM} {a : Nat → Nat} {k : Nat}
theorem zpc_E (hb : rB a) : zpc a k = zs (fun n => zpan a k (n / (a 1 * a 1)) (n / a 1 % a 1) (n % a 1)) (a 1 * a 1 * a 1) := by
  have hE := rB_E hb
  rw [dg_s hE]
  unfold zpc zT
  refine (zs_ext (f := fun x => zs (fun y => zs (fun z => zpan a k x y z) 6) 6) (n := 6) (m := a 1) hE (fun x h1 h2 => zs_zero (fun y _ => zs_zero (fun z _ => if_neg (fun t => by have := t.2.2.1.1; omega))))).trans ?_
  refine zs_cong (fun x _ => ?_)
  show zs (fun y => zs (fun z => zpan a k x y z) 6) 6 = zs (fun y => zs (fun z => zpan a k x y z) (a 1)) (a 1)
  refine (zs_ext (f := fun y => zs (fun z => zpan a k x y z) 6) (n := 6) (m := a 1) hE (fun y h1 h2 => zs_zero (fun z _ => if_neg (fun t => by have := t.2.2.2.1.1; omega)))).trans ?_
  refine zs_cong (fun y _ => ?_)
  exact zs_ext (n := 6) (m := a 1) hE (fun z h1 h2 => if_neg (fun t => by have := t.2.2.2.2.1.1; omega))
theorem zff_E (hb : rB a) {x y z : Nat} (hz : z < a 1) (hp : zpan a k x y z = 1) (hn : ∀ n, n < a 1 * a 1 * x + a 1 * y + z → zpan a k (n / (a 1 * a 1)) (n / a 1 % a 1) (n % a 1) = 0) : zff a k = 36 * x + 6 * y + z + 1 := by
  have hE := rB_E hb
  have o := zpan_p hp
  refine zfst_p (x := 36 * x + 6 * y + z) ?_ (fun n hn2 w => ?_) (by omega)
  · show zpan a k ((36 * x + 6 * y + z) / 36) ((36 * x + 6 * y + z) / 6 % 6) ((36 * x + 6 * y + z) % 6) = 1
    rw [show (36 * x + 6 * y + z) / 36 = x by omega, show (36 * x + 6 * y + z) / 6 % 6 = y by omega, show (36 * x + 6 * y + z) % 6 = z by omega]
    exact hp
  · have o2 := zpan_p w
    have e2 : n % 6 < a 1 := o2.2.2.2.2.1.1
    have lt := dg_l hE (x := x) (y := y) (z := z) (x2 := n / 36) (y2 := n / 6 % 6) (z2 := n % 6) (by omega) (by omega) hz (by omega) (by omega) e2 (by omega)
    have d := dg_u hE (x := n / 36) (y := n / 6 % 6) (z := n % 6) (by omega) (by omega) e2
    have r := hn _ lt
    rw [d.1, d.2.1, d.2.2.1] at r
    omega
theorem u7_panels (hM : rM M a) (hb : rB a) (hk : k < 8) {Q : Int32 → sM → Prop} (h : ∀ M', fr 42 43 M M' → (zff a k ≠ 0 → M' 42 0 = nI ((zff a k - 1) / 36) ∧ M' 42 1 = nI ((zff a k - 1) / 6 % 6) ∧ M' 42 2 = nI ((zff a k - 1) % 6)) → Q (nI (zpc a k)) M') : wX7_panels (nI k) M Q := by
  have hE := rB_E hb
  have cb : a 1 * a 1 * a 1 ≤ 216 := by
    have := Nat.mul_le_mul (Nat.mul_le_mul hE hE) hE
    omega
  have key : ∀ m kk, kk + m = a 1 * a 1 * a 1 → ∀ M2, fr 42 43 M M2 → ((∀ n, n < kk → zpan a k (n / (a 1 * a 1)) (n / a 1 % a 1) (n % a 1) = 0) ∨ ((∃ n, n < kk ∧ zpan a k (n / (a 1 * a 1)) (n / a 1 % a 1) (n % a 1) = 1) ∧ zff a k ≠ 0 ∧ M2 42 0 = nI ((zff a k - 1) / 36) ∧ M2 42 1 = nI ((zff a k - 1) / 6 % 6) ∧ M2 42 2 = nI ((zff a k - 1) % 6))) →
      lX7_panels_12 (nI k) (nI (a 1)) (fun x3_12k M_12k => Q x3_12k M_12k) (m + 1) (nI (zs (fun n => zpan a k (n / (a 1 * a 1)) (n / a 1 % a 1) (n % a 1)) kk)) (nI kk) M2 := by
    intro m
    induction m with
    | zero =>
      intro kk hkk M2 f2 st
      unfold lX7_panels_12
      rw [pk_mul, pk_mul]
      have e : kk = a 1 * a 1 * a 1 := by omega
      refine brt (by rw [e]; exact nI_le (Nat.le_refl _) (by omega)) ?_
      have r := h M2 f2 (fun ne => by
        rcases st with s | s
        · refine absurd (zpc_0.mp ?_) ne
          rw [zpc_E hb]
          exact zs_zero (fun n hn => s n (by omega))
        · exact s.2.2)
      rw [e, ← zpc_E hb]
      exact r
    | succ m ih =>
      intro kk hkk M2 f2 st
      have hM2 := fr_rM hM f2 (by decide)
      have E0 : 0 < a 1 := by
        rcases Nat.eq_zero_or_pos (a 1) with q | q
        · rw [q] at hkk; omega
        · exact q
      have EE : 0 < a 1 * a 1 := Nat.mul_pos E0 E0
      have E36 : a 1 * a 1 ≤ 36 := Nat.mul_le_mul hE hE
      obtain ⟨d1, d2, d3, d4⟩ := dg_n E0 hE (n := kk) (by omega)
      unfold lX7_panels_12
      rw [pk_mul, pk_mul]
      refine brf (nI_ge (by omega) (by omega)) ⟨nI_ne0 EE (by omega), ?_⟩
      intro v3 e3
      rw [pk_div (by omega) EE (by omega)] at e3
      subst e3
      refine ⟨nI_ne0 E0 (by omega), nI_ne0 E0 (by omega), ?_⟩
      intro v4 e4
      rw [pk_div (by omega) E0 (by omega), pk_rem (by have := Nat.div_le_self kk (a 1); omega) E0 (by omega)] at e4
      subst e4
      refine ⟨nI_ne0 E0 (by omega), ?_⟩
      intro v5 e5
      rw [pk_rem (by omega) E0 (by omega)] at e5
      subst e5
      generalize hx : kk / (a 1 * a 1) = x at *
      generalize hy : kk / a 1 % a 1 = y at *
      generalize hz : kk % a 1 = z at *
      have go0 : ¬ (x < y ∧ y < z ∧ zpq a k x y z) → jX7_panels_93 (nI (zs (fun n => zpan a k (n / (a 1 * a 1)) (n / a 1 % a 1) (n % a 1)) kk)) (nI kk) M2 (nI x) (nI y) (nI z) (fun x3_12 x4_12 M_12 => lX7_panels_12 (nI k) (nI (a 1)) (fun x3_12k M_12k => Q x3_12k M_12k) (m + 1) x3_12 x4_12 M_12) (0 : Int32) := fun no => by
        unfold jX7_panels_93
        refine br0 ?_
        unfold jX7_panels_156
        refine br0 ?_
        unfold jX7_panels_191
        refine br0 ?_
        intro v7 e7 v8 e8
        rw [nA] at e7
        subst e7 e8
        have z0 : zpan a k x y z = 0 := if_neg no
        have r := ih (kk + 1) (by omega) M2 f2 (by
          rcases st with s | s
          · refine .inl (fun n hn => ?_)
            rcases Nat.lt_or_ge n kk with q | q
            · exact s n q
            · have e : n = kk := by omega
              subst e; rw [hx, hy, hz]; exact z0
          · obtain ⟨⟨n, hn, s1⟩, s2⟩ := s
            exact .inr ⟨⟨n, by omega, s1⟩, s2⟩)
        rw [zs_succ, hx, hy, hz, z0, Nat.add_zero, nI_succ] at r
        exact r
      have fromE : ∀ t : Int32, (t = 0 → ¬ (x < y ∧ y < z ∧ zpq a k x y z)) → (t ≠ 0 → (x < y ∧ y < z ∧ zpq a k x y z)) → jX7_panels_156 (nI (zs (fun n => zpan a k (n / (a 1 * a 1)) (n / a 1 % a 1) (n % a 1)) kk)) (nI kk) M2 (nI x) (nI y) (nI z) (fun x3_12 x4_12 M_12 => lX7_panels_12 (nI k) (nI (a 1)) (fun x3_12k M_12k => Q x3_12k M_12k) (m + 1) x3_12 x4_12 M_12) t := fun t t0 t1 => by
        by_cases q : t = 0
        · subst q
          have r := go0 (t0 rfl)
          unfold jX7_panels_93 at r
          exact r.1 rfl
        · have p := t1 q
          have z1 : zpan a k x y z = 1 := if_pos p
          unfold jX7_panels_156
          refine brf q ?_
          have fin : ∀ M3, fr 42 43 M M3 → (zff a k ≠ 0 ∧ M3 42 0 = nI ((zff a k - 1) / 36) ∧ M3 42 1 = nI ((zff a k - 1) / 6 % 6) ∧ M3 42 2 = nI ((zff a k - 1) % 6)) → jX7_panels_191 (nI (zs (fun n => zpan a k (n / (a 1 * a 1)) (n / a 1 % a 1) (n % a 1)) kk)) (nI kk) t (fun x3_12 x4_12 M_12 => lX7_panels_12 (nI k) (nI (a 1)) (fun x3_12k M_12k => Q x3_12k M_12k) (m + 1) x3_12 x4_12 M_12) M3 := fun M3 f3 s3 => by
            unfold jX7_panels_191
            refine brf q ?_
            intro v9 e9 v10 e10
            subst e9 e10
            have r := ih (kk + 1) (by omega) M3 f3 (.inr ⟨⟨kk, by omega, by rw [hx, hy, hz]; exact z1⟩, s3⟩)
            rw [zs_succ, hx, hy, hz, z1, nI_succ, nI_succ] at r
            exact r
          have cnt : zs (fun n => zpan a k (n / (a 1 * a 1)) (n / a 1 % a 1) (n % a 1)) kk ≤ 216 := by
            have := zs_bound (f := fun n => zpan a k (n / (a 1 * a 1)) (n / a 1 % a 1) (n % a 1)) (n := kk) (c := 1) (fun n _ => zpan_1 _ _ _ _ _)
            omega
          refine bri (nI_eq (b := 0) (by omega) (by decide)) (fun c0 => ?_) (fun c0 => ?_)
          · intro M13 e13 M14 e14 M15 e15
            have s0 : ∀ n, n < kk → zpan a k (n / (a 1 * a 1)) (n / a 1 % a 1) (n % a 1) = 0 := fun n hn => by
              have : zpan a k (n / (a 1 * a 1)) (n / a 1 % a 1) (n % a 1) ≤ zs (fun n => zpan a k (n / (a 1 * a 1)) (n / a 1 % a 1) (n % a 1)) kk := zs_mem (f := fun n => zpan a k (n / (a 1 * a 1)) (n / a 1 % a 1) (n % a 1)) hn
              omega
            have ef := zff_E hb (x := x) (y := y) (z := z) d3 z1 (fun n hn => s0 n (by omega))
            have e13 : M13 = sw_ms M2 42 0 (nI x) := e13
            have e14 : M14 = sw_ms M13 42 1 (nI y) := e14
            have e15 : M15 = sw_ms M14 42 2 (nI z) := e15
            refine fin M15 (fr_t f2 (fr_t (M1 := M13) (by rw [e13]; exact fr_s M2 _ _ (by decide)) (fr_t (M1 := M14) (by rw [e14]; exact fr_s M13 _ _ (by decide)) (by rw [e15]; exact fr_s M14 _ _ (by decide))))) ?_
            rw [ef, Nat.add_sub_cancel, show (36 * x + 6 * y + z) / 36 = x by omega, show (36 * x + 6 * y + z) / 6 % 6 = y by omega, show (36 * x + 6 * y + z) % 6 = z by omega]
            refine ⟨by omega, ?_, ?_, ?_⟩
            · rw [e15, ms_j _ _ _ (by decide), e14, ms_j _ _ _ (by decide), e13, ms_e]
            · rw [e15, ms_j _ _ _ (by decide), e14, ms_e]
            · rw [e15, ms_e]
          · refine fin M2 f2 ?_
            rcases st with s | s
            · refine absurd ?_ c0
              exact zs_zero (fun n hn => s n hn)
            · exact s.2
      have bx := hb.2.2.1 x (by omega)
      have by' := hb.2.2.1 y (by omega)
      have bz := hb.2.2.1 z (by omega)
      refine bri (nI_leI (by omega) (by omega)) (fun q => go0 (by omega)) (fun q1 => ?_)
      refine bri (nI_leI (by omega) (by omega)) (fun q => go0 (by omega)) (fun q2 => ?_)
      refine u7_canSit hM2 hb (by omega) hk (fun s1 => br1 ?_) (fun s => br0 (go0 (fun t => s t.2.2.1.2)))
      refine u7_canSit hM2 hb (by omega) hk (fun s2 => br1 ?_) (fun s => br0 (go0 (fun t => s t.2.2.2.1.2)))
      refine u7_canSit hM2 hb (by omega) hk (fun s3 => br1 ?_) (fun s => br0 (go0 (fun t => s t.2.2.2.2.1.2)))
      unfold jX7_panels_93
      refine br1 ?_
      refine u7_examiner hM2 (w := 0) (by omega) (by decide) (u7_examiner hM2 (w := 0) (by omega) (by decide) ?_)
      refine bri (nI_eq (by omega) (by omega)) (fun e => fromE 0 (fun _ t => t.2.2.2.2.2.1 e) (fun n => absurd rfl n)) (fun f1 => ?_)
      refine u7_examiner hM2 (w := 0) (by omega) (by decide) (u7_examiner hM2 (w := 0) (by omega) (by decide) ?_)
      refine bri (nI_eq (by omega) (by omega)) (fun e => fromE 0 (fun _ t => t.2.2.2.2.2.2.1 e) (fun n => absurd rfl n)) (fun f22 => ?_)
      refine u7_examiner hM2 (w := 0) (by omega) (by decide) (u7_examiner hM2 (w := 0) (by omega) (by decide) ?_)
      refine bri (nI_eq (by omega) (by omega)) (fun e => fromE 0 (fun _ t => t.2.2.2.2.2.2.2 e) (fun n => absurd rfl n)) (fun f3 => ?_)
      exact fromE 1 (fun e => absurd e (by decide)) (fun _ => ⟨by omega, by omega, ⟨by omega, s1⟩, ⟨by omega, s2⟩, ⟨by omega, s3⟩, f1, f22, f3⟩)
  unfold wX7_panels
  intro v1 e1
  rw [rM_1 hM] at e1
  subst e1
  exact ⟨a 1 * a 1 * a 1 + 1, key (a 1 * a 1 * a 1) 0 (by omega) M (fr_r _ _ _) (.inl (fun n hn => absurd hn (Nat.not_lt_zero _)))⟩
theorem u7_doAppeal (hM : rM M a) (hb : rB a) (ht : M 33 6 = 0) (k : Int32) {Q : Int32 → sM → Prop} (h : zK (oApp a k) M Q) : wX7_doAppeal k M Q := by
  have hD := rB_D hb
  have hT := rB_T hb
  unfold wX7_doAppeal
  by_cases hv : zok k (a 0)
  · obtain ⟨k, hk, rfl⟩ := zok_t hv (by omega)
    have hk8 : k < 8 := by omega
    have E : oApp a (nI k) = oAppN a k := by unfold oApp; rw [if_pos hv, cl (by omega)]
    rw [E] at h
    have b61 := zres_le hb hk8
    have bk := hb.2.1 k hk8
    have f2 : (zres a k = 0 ∨ a 2 < zres a k ∨ zd a k 2 = 1) → ∀ R : Int32 → sM → Prop, R = Q → wX7_fails (2 : Int32) M R := fun q R eR => by
      subst eR
      refine u7_fails (c := 2) hM ?_
      rw [show oAppN a k = (2, 0, a) from if_pos q] at h
      exact h
    refine u7_isDoor_t hM hb hk (br1 (u7_resultOf hM hb hk8 ?_))
    refine bri (nP_lt0 (by omega)) (fun z => f2 (.inl z) _ rfl) (fun z1 => ?_)
    refine u7_hasPassed hM hb hk8 (fun z => br1 (f2 (.inr (.inl z.2)) _ rfl)) (fun z2 => br0 ?_)
    refine u7_door hM hk8 (w := 2) (by decide) ?_
    refine bri (nI_eq (b := 1) (by omega) (by decide)) (fun z => f2 (.inr (.inr z)) _ rfl) (fun z3 => ?_)
    have nE : ¬ (zres a k = 0 ∨ a 2 < zres a k ∨ zd a k 2 = 1) := by
      intro q
      rcases q with q | q | q
      · exact z1 q
      · exact z2 ⟨by omega, q⟩
      · exact z3 q
    refine u7_panels hM hb hk8 (fun M14 f14 m14 => ?_)
    have hM14 := fr_rM hM f14 (by decide)
    have d14 : fd M M14 := fr_fd f14 (by decide) (by decide)
    have pc : zpc a k ≤ 216 := zT_le (fun _ _ _ => zpan_1 _ _ _ _ _)
    refine bri (nI_eq (b := 0) (by omega) (by decide)) (fun z => ?_) (fun z4 => ?_)
    · rw [show oAppN a k = (3, 0, a) by unfold oAppN; rw [if_neg nE, if_pos (zpc_0.mp z)]] at h
      refine u7_fails (c := 3) hM14 (fun M' f' r' t' => h M' (fd_t d14 f') r' t')
    · have nf : zff a k ≠ 0 := fun e => z4 (zpc_0.mpr e)
      obtain ⟨m0, m1, m2⟩ := m14 nf
      have eO : oAppN a k = (0, zvt a k, zu (zu a (4 + 5 * k + 2) 1) (4 + 5 * k + 3) (if 2 ≤ zvt a k then 1 else 0)) := by
        unfold oAppN; rw [if_neg nE, if_neg nf]
      rw [eO] at h
      have lt216 : zff a k ≤ 216 := by
        rcases zfst_s (fun n => zpan a k (n / 36) (n / 6 % 6) (n % 6) = 1) 216 with ⟨s, -⟩ | ⟨n, s1, -, -, s4⟩
        · unfold zff; omega
        · unfold zff; omega
      have mem : ∀ j, j < 3 → ∃ e, e < 6 ∧ M14 42 j = nI e ∧ zs (fun j => if j = 0 then zfv a (nI (a 2) - nP (zres a k)) ((zff a k - 1) / 36) else if j = 1 then zfv a (nI (a 2) - nP (zres a k)) ((zff a k - 1) / 6 % 6) else zfv a (nI (a 2) - nP (zres a k)) ((zff a k - 1) % 6)) (j + 1) = zs (fun j => if j = 0 then zfv a (nI (a 2) - nP (zres a k)) ((zff a k - 1) / 36) else if j = 1 then zfv a (nI (a 2) - nP (zres a k)) ((zff a k - 1) / 6 % 6) else zfv a (nI (a 2) - nP (zres a k)) ((zff a k - 1) % 6)) j + zfv a (nI (a 2) - nP (zres a k)) e := fun j hj => by
        rcases (show j = 0 ∨ j = 1 ∨ j = 2 by omega) with e | e | e <;> subst e
        · exact ⟨_, by omega, m0, rfl⟩
        · exact ⟨_, by omega, m1, rfl⟩
        · exact ⟨_, by omega, m2, rfl⟩
      have v3 := zvt_3 a k
      have fin : ∀ x3 : Int32, x3 = nI (zvt a k) → (vp_in (((4 : Int32) + ((5 : Int32) * nI k)) + (2 : Int32)) 228 ∧ (∀ M17 : sM, M17 = sw_ms M14 34 ((((4 : Int32) + ((5 : Int32) * nI k)) + (2 : Int32))).toNatClampNeg (1 : Int32) → ((x3 < (2 : Int32) → (vp_in (((4 : Int32) + ((5 : Int32) * nI k)) + (3 : Int32)) 228 ∧ (∀ M20 : sM, M20 = sw_ms M17 34 ((((4 : Int32) + ((5 : Int32) * nI k)) + (3 : Int32))).toNatClampNeg (0 : Int32) → (Q x3 M20)))) ∧ (¬ x3 < (2 : Int32) → (vp_in (((4 : Int32) + ((5 : Int32) * nI k)) + (3 : Int32)) 228 ∧ (∀ M22 : sM, M22 = sw_ms M17 34 ((((4 : Int32) + ((5 : Int32) * nI k)) + (3 : Int32))).toNatClampNeg (1 : Int32) → (Q x3 M22))))))) := fun x3 ex => by
        subst ex
        have i2 : ((4 : Int32) + ((5 : Int32) * nI k)) + (2 : Int32) = nI (4 + 5 * k + 2) := ix_d k 2
        have i3 : ((4 : Int32) + ((5 : Int32) * nI k)) + (3 : Int32) = nI (4 + 5 * k + 3) := ix_d k 3
        rw [i2, i3, cl (by omega), cl (by omega)]
        refine ⟨vin (by omega) (by decide), ?_⟩
        intro M17 e17
        have e17 : M17 = sw_ms M14 34 (4 + 5 * k + 2) (nI 1) := e17
        have r17 := rM_u hM14 (4 + 5 * k + 2) 1
        rw [← e17] at r17
        have d17 : fd M M17 := fd_t d14 (by rw [e17]; exact fd_s _ _ _)
        have t17 : M17 33 6 = 0 := by rw [e17, ms_33, f14 33 (by decide)]; exact ht
        refine bri (nI_ltI (b := 2) (by omega) (by decide)) (fun lt => ⟨vin (by omega) (by decide), ?_⟩) (fun lt => ⟨vin (by omega) (by decide), ?_⟩)
        · intro M20 e20
          have e20 : M20 = sw_ms M17 34 (4 + 5 * k + 3) (nI 0) := e20
          refine h M20 (fd_t d17 (by rw [e20]; exact fd_s _ _ _)) ?_ (by rw [e20, ms_33]; exact t17)
          rw [e20]
          show rM _ (zu (zu a (4 + 5 * k + 2) 1) (4 + 5 * k + 3) (if 2 ≤ zvt a k then 1 else 0))
          rw [if_neg (by omega)]
          exact rM_u r17 _ _
        · intro M20 e20
          have e20 : M20 = sw_ms M17 34 (4 + 5 * k + 3) (nI 1) := e20
          refine h M20 (fd_t d17 (by rw [e20]; exact fd_s _ _ _)) ?_ (by rw [e20, ms_33]; exact t17)
          rw [e20]
          show rM _ (zu (zu a (4 + 5 * k + 2) 1) (4 + 5 * k + 3) (if 2 ≤ zvt a k then 1 else 0))
          rw [if_pos (by omega)]
          exact rM_u r17 _ _
      have loop : ∀ m j, j + m = 3 → ∀ K : Int32 → Prop, K (nI (zvt a k)) → lX7_doAppeal_78 (nP (zres a k)) M14 K (m + 1) (nI (zs (fun j => if j = 0 then zfv a (nI (a 2) - nP (zres a k)) ((zff a k - 1) / 36) else if j = 1 then zfv a (nI (a 2) - nP (zres a k)) ((zff a k - 1) / 6 % 6) else zfv a (nI (a 2) - nP (zres a k)) ((zff a k - 1) % 6)) j)) (nI j) := by
        intro m
        induction m with
        | zero =>
          intro j hj K hK
          unfold lX7_doAppeal_78
          have e : j = 3 := by omega
          subst e
          refine brt (nI_le (b := 3) (Nat.le_refl _) (by omega)) ?_
          have e2 : zs (fun j => if j = 0 then zfv a (nI (a 2) - nP (zres a k)) ((zff a k - 1) / 36) else if j = 1 then zfv a (nI (a 2) - nP (zres a k)) ((zff a k - 1) / 6 % 6) else zfv a (nI (a 2) - nP (zres a k)) ((zff a k - 1) % 6)) 3 = zvt a k := by
            show 0 + zfv a _ _ + zfv a _ _ + zfv a _ _ = _
            unfold zvt; omega
          rw [e2]; exact hK
        | succ m ih =>
          intro j hj K hK
          unfold lX7_doAppeal_78
          refine brf (nI_ge (b := 3) (by omega) (by omega)) ⟨vin (by omega) (by decide), ?_⟩
          obtain ⟨e, he, em, es⟩ := mem j (by omega)
          intro v32 e32
          rw [cl (by omega), em] at e32
          subst e32
          refine u7_examiner hM14 he (w := 3) (by decide) ?_
          rw [rM_2 hM14]
          have r := ih (j + 1) (by omega) K hK
          rw [es] at r
          unfold zfv at r
          refine ⟨fun lt => ?_, fun lt => ?_⟩
          · intro v35 e35 v36 e36
            rw [nA] at e35
            subst e35 e36
            rw [if_pos lt, Nat.add_zero, nI_succ] at r
            exact r
          · intro v37 e37 v38 e38
            subst e37 e38
            rw [if_neg lt, nI_succ, nI_succ] at r
            exact r
      exact ⟨4, loop 3 0 rfl _ (fin _ rfl)⟩
  · rw [show oApp a k = (1, 0, a) from if_neg hv] at h
    exact u7_isDoor_f hM hb (zok_f hv (by omega)) (br0 (u7_fails (c := 1) hM h))
end PN
