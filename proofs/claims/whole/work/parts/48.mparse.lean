/-! The reference reads a program. -/
def fT (M M' : sM) : Prop := (∀ k, k ≠ 33 → k ≠ 44 → M' k = M k) ∧ ∀ j, j ≠ 14 → j ≠ 15 → j ≠ 19 → M' 33 j = M 33 j
theorem fT_r (M : sM) : fT M M := ⟨fun _ _ _ => rfl, fun _ _ _ _ => rfl⟩
theorem fT_t {M M1 M2 : sM} (h : fT M M1) (h2 : fT M1 M2) : fT M M2 := ⟨fun k a b => (h2.1 k a b).trans (h.1 k a b), fun j a b c => (h2.2 j a b c).trans (h.2 j a b c)⟩
theorem fT_s (M : sM) {j : Nat} (hj : j = 14 ∨ j = 15 ∨ j = 19) (v : Int32) : fT M (sw_ms M 33 j v) := ⟨fun k a _ => sw_ms_n _ _ _ a, fun q a b c => ms_j _ _ _ (by omega)⟩
theorem fT_c (M : sM) (j : Nat) (v : Int32) : fT M (sw_ms M 44 j v) := ⟨fun k _ b => sw_ms_n _ _ _ b, fun q _ _ _ => congrFun (sw_ms_n _ _ _ (by decide)) q⟩
/-- text, place, whether it is wrong, commands so far -/
def pT (t : Nat → Nat) (n p w cm : Nat) (M : sM) : Prop := M 33 13 = nI n ∧ (∀ j, j < n → M 43 j = nI (t j)) ∧ M 33 14 = nI p ∧ M 33 15 = nI w ∧ M 33 19 = nI cm
section MP
variable {t : Nat → Nat} {n : Nat}
theorem pT_c {M : sM} {p w cm : Nat} (h : pT t n p w cm M) (j : Nat) (v : Int32) : pT t n p w cm (sw_ms M 44 j v) := by
  obtain ⟨h1, h2, h3, h4, h5⟩ := h
  have e : ∀ q, sw_ms M 44 j v 33 q = M 33 q := fun q => congrFun (sw_ms_n _ _ _ (by decide)) q
  exact ⟨by rw [e]; exact h1, fun q hq => by rw [sw_ms_n _ _ _ (by decide)]; exact h2 q hq, by rw [e]; exact h3, by rw [e]; exact h4, by rw [e]; exact h5⟩
theorem pT_14 {M : sM} {p w cm : Nat} (h : pT t n p w cm M) (v : Nat) : pT t n v w cm (sw_ms M 33 14 (nI v)) := by
  obtain ⟨h1, h2, h3, h4, h5⟩ := h
  exact ⟨by rw [ms_j _ _ _ (by decide)]; exact h1, fun q hq => by rw [sw_ms_n _ _ _ (by decide)]; exact h2 q hq, ms_e _ _ _ _, by rw [ms_j _ _ _ (by decide)]; exact h4, by rw [ms_j _ _ _ (by decide)]; exact h5⟩
theorem pT_15 {M : sM} {p w cm : Nat} (h : pT t n p w cm M) (v : Nat) : pT t n p v cm (sw_ms M 33 15 (nI v)) := by
  obtain ⟨h1, h2, h3, h4, h5⟩ := h
  exact ⟨by rw [ms_j _ _ _ (by decide)]; exact h1, fun q hq => by rw [sw_ms_n _ _ _ (by decide)]; exact h2 q hq, by rw [ms_j _ _ _ (by decide)]; exact h3, ms_e _ _ _ _, by rw [ms_j _ _ _ (by decide)]; exact h5⟩
theorem pT_19 {M : sM} {p w cm : Nat} (h : pT t n p w cm M) (v : Nat) : pT t n p w v (sw_ms M 33 19 (nI v)) := by
  obtain ⟨h1, h2, h3, h4, h5⟩ := h
  exact ⟨by rw [ms_j _ _ _ (by decide)]; exact h1, fun q hq => by rw [sw_ms_n _ _ _ (by decide)]; exact h2 q hq, by rw [ms_j _ _ _ (by decide)]; exact h3, by rw [ms_j _ _ _ (by decide)]; exact h4, ms_e _ _ _ _⟩
theorem u7_behind {M : sM} {p w cm : Nat} (hn : n ≤ 60) (hp : p ≤ n) (hM : pT t n p w cm M) (far : Nat) (hf : far ≤ 1) {Q : Int32 → Prop} (h1 : p + far < n → Q (nI (t (p + far)))) (h0 : n ≤ p + far → Q (-1)) : wX7_behind (nI far) M Q := by
  obtain ⟨m1, m2, m3, m4, m5⟩ := hM
  unfold wX7_behind
  rw [m1, m3, nI_add]
  refine bri (nI_leI (by omega) (by omega)) h0 (fun z => ⟨vin (by omega) (by decide), ?_⟩)
  rw [cl (by omega), m2 _ (by omega)]
  exact h1 (by omega)
theorem u7_behind0 {M : sM} {p w cm : Nat} (hn : n ≤ 60) (hp : p ≤ n) (hM : pT t n p w cm M) {Q : Int32 → Prop} (h1 : p < n → Q (nI (t p))) (h0 : n ≤ p → Q (-1)) : wX7_behind (0 : Int32) M Q := u7_behind hn hp hM 0 (by decide) h1 h0
theorem nbf0 : narrow .boolean (.int (0 : Int32)) = .int 0 ∧ fits .boolean (.int (0 : Int32)) = true := ⟨rfl, by decide⟩
theorem nbf1 : narrow .boolean (.int (1 : Int32)) = .int 1 ∧ fits .boolean (.int (1 : Int32)) = true := ⟨rfl, by decide⟩
theorem u7_skip (hn : n ≤ 60) (ht : ∀ j, j < n → t j < 65536) {i : Nat} (hi : i < 28) (hl : ∀ w ∈ zsb i, w ≠ 70 ∧ w ≠ 68 ∧ w ≠ 78) {M : sM} {p cm : Nat} (hp : p ≤ n) (hM : pT t n p 0 cm M) {Q : sM → Prop}
    (hok : ∀ M' p', fT M M' → M' 44 = M 44 → p' ≤ n → pT t n p' 0 cm M' → (∀ l, zmt t n (zsb i ++ l) p = zmt t n l p') → Q M')
    (hno : ∀ M' e, fT M M' → M' 44 = M 44 → e ≤ n → pT t n e 1 cm M' → (∀ l, zmt t n (zsb i ++ l) p = (e, none)) → Q M') : wX7_skip i M Q := by
  have key : ∀ (rem pre : List Nat) (q : Nat) (M2 : sM), zsb i = pre ++ rem → fT M M2 → M2 44 = M 44 → q ≤ n → pT t n q 0 cm M2 → (∀ l, zmt t n (zsb i ++ l) p = zmt t n (rem ++ l) q) → lX7_skip_2 i (fun M_2k => Q M_2k) (rem.length + 2) (nI pre.length) M2 := by
    intro rem
    induction rem with
    | nil =>
      intro pre q M2 ei f2 e44 hq hM2 hz
      have l16 := zsb_16 i hi
      unfold lX7_skip_2
      refine sb_len hi ?_
      rw [ei, List.append_nil]
      rw [ei, List.append_nil] at l16
      refine brt (nI_le (Nat.le_refl _) (by omega)) (hok M2 q f2 e44 hq hM2 hz)
    | cons w l ih =>
      intro pre q M2 ei f2 e44 hq hM2 hz
      have l16 := zsb_16 i hi
      have wm : w ∈ zsb i := by rw [ei]; simp
      have w200 := zsb_w i hi w wm
      obtain ⟨w1, w2, w3⟩ := hl w wm
      have ei2 : zsb i = (pre ++ [w]) ++ l := by rw [ei]; simp
      have lp : (pre ++ [w]).length = pre.length + 1 := by simp
      rw [ei] at l16
      simp only [List.length_append, List.length_cons] at l16
      unfold lX7_skip_2
      refine sb_len hi ?_
      rw [ei]
      refine brf (by rw [List.length_append, List.length_cons]; exact nI_ge (by omega) (by omega)) ?_
      refine brt hM2.2.2.2.1 ?_
      -- a wrong sign
      have bad : ¬ (q < n ∧ t q = w) → jX7_skip_36 (nI pre.length) M2 (fun x2_2 M_2 => lX7_skip_2 i (fun M_2k => Q M_2k) (l.length + 2) x2_2 M_2) (1 : Int32) := fun no => by
        unfold jX7_skip_36
        refine ⟨nbf1, ?_⟩
        intro M6 e6
        have p6 : pT t n q 1 cm M6 := by rw [e6]; exact pT_15 hM2 1
        refine brf (by rw [p6.2.2.2.1]; decide) ?_
        intro M11 e11 v12 e12
        rw [p6.2.2.1, nA] at e11
        subst e12
        have p11 : pT t n q 1 cm M11 := by rw [e11]; exact pT_14 p6 q
        have f11 : fT M M11 := fT_t f2 (fT_t (M1 := M6) (by rw [e6]; exact fT_s M2 (by omega) _) (by rw [e11]; exact fT_s M6 (by omega) _))
        have e44' : M11 44 = M 44 := by rw [e11, sw_ms_n _ _ _ (by decide), e6, sw_ms_n _ _ _ (by decide)]; exact e44
        have fin : Q M11 := hno M11 q f11 e44' hq p11 (fun l2 => by rw [hz l2]; exact zmt_f w1 w2 w3 no)
        show lX7_skip_2 i (fun M_2k => Q M_2k) (l.length + 1 + 1) (nI pre.length + 1) M11
        unfold lX7_skip_2
        refine sb_len hi ?_
        refine ⟨fun _ => fin, fun _ => brf (by rw [p11.2.2.2.1]; decide) fin⟩
      refine u7_behind0 hn hq hM2 (fun lt => ?_) (fun ge => ?_)
      · refine sb_ch hi ei ?_
        have tq := ht q lt
        refine bri (nI_eq (by omega) (by omega)) (fun e => ?_) (fun ne => bad (fun z => ne z.2))
        unfold jX7_skip_36
        refine ⟨nbf0, ?_⟩
        intro M6 e6
        have p6 : pT t n q 0 cm M6 := by rw [e6]; exact pT_15 hM2 0
        refine brt p6.2.2.2.1 ?_
        intro M9 e9 v10 e10
        rw [p6.2.2.1, ← nI_succ] at e9
        subst e10
        have p9 : pT t n (q + 1) 0 cm M9 := by rw [e9]; exact pT_14 p6 (q + 1)
        have r := ih (pre ++ [w]) (q + 1) M9 ei2 (fT_t f2 (fT_t (M1 := M6) (by rw [e6]; exact fT_s M2 (by omega) _) (by rw [e9]; exact fT_s M6 (by omega) _))) (by rw [e9, sw_ms_n _ _ _ (by decide), e6, sw_ms_n _ _ _ (by decide)]; exact e44) (by omega) p9 (fun l2 => by rw [hz l2]; exact zmt_g w1 w2 w3 ⟨lt, e⟩)
        rw [lp, nI_succ] at r
        exact r
      · refine sb_ch hi ei ?_
        refine brf (fun e => ?_) (bad (fun z => by omega))
        rw [← nP_0, nP_eqI (by decide) (by omega)] at e
        omega
  unfold wX7_skip
  exact ⟨_, key (zsb i) [] p M rfl (fT_r M) rfl hp hM (fun l => rfl)⟩
theorem u7_skip1 {i : Nat} (hi : i < 28) {M : sM} {p cm : Nat} (hM : pT t n p 1 cm M) {Q : sM → Prop} (h : Q M) : wX7_skip i M Q := by
  unfold wX7_skip
  refine ⟨1, ?_⟩
  unfold lX7_skip_2
  refine sb_len hi ?_
  exact ⟨fun _ => h, fun _ => brf (by rw [hM.2.2.2.1]; decide) h⟩
theorem u7_isDigit {M : sM} {p cm : Nat} (hn : n ≤ 60) (ht : ∀ j, j < n → t j < 65536) (hp : p ≤ n) (hM : pT t n p 0 cm M) {Q : Int32 → Prop} (h1 : p < n → zdg (t p) → Q 1) (h0 : ¬ (p < n ∧ zdg (t p)) → Q 0) : wX7_isDigit M Q := by
  have i48 : ((48 : Int32)).toInt = 48 := by decide
  have i57 : ((57 : Int32)).toInt = 57 := by decide
  unfold wX7_isDigit
  refine brt hM.2.2.2.1 (u7_behind0 hn hp hM (fun lt => ?_) (fun ge => ?_))
  · have tp := ht p lt
    refine u7_in (fun a b => br1 ?_) (fun no => br0 (h0 (fun z => no ?_)))
    · rw [nI_toInt (by omega)] at a b
      exact h1 lt ⟨by omega, by omega⟩
    · rw [nI_toInt (by omega)]
      omega
  · refine u7_in (fun a b => ?_) (fun no => br0 (h0 (fun z => by omega)))
    rw [im1] at a; omega
theorem u7_isDigit1 {M : sM} {p cm : Nat} (hM : pT t n p 1 cm M) {Q : Int32 → Prop} (h : Q 0) : wX7_isDigit M Q := by
  unfold wX7_isDigit
  exact brf (by rw [hM.2.2.2.1]; decide) h
/-- a part's shape -/
def zsp (c : Nat) : List Nat := [32, if c = 0 then 70 else if c = 1 then 68 else 78]
theorem d10 {v c : Nat} (h : 48 ≤ c) : ((10 : Int32) * nI v + nI c) - (48 : Int32) = nI (v * 10 + (c - 48)) := by
  rw [Int32.mul_comm]; exact m10 h
theorem u7_reads (hn : n ≤ 60) (ht : ∀ j, j < n → t j < 65536) {c : Nat} (hc : c < 3) {M : sM} {p cm : Nat} (hp : p ≤ n) (hM : pT t n p 0 cm M) {Q : Int32 → sM → Prop}
    (hok : ∀ M' p' v, fT M M' → M' 44 = M 44 → p' ≤ n → pT t n p' 0 cm M' → (∀ l, zmt t n (zsp c ++ l) p = zcs v (zmt t n l p')) → Q (nI v) M')
    (hno : ∀ M' e r, fT M M' → M' 44 = M 44 → e ≤ n → pT t n e 1 cm M' → (∀ l, zmt t n (zsp c ++ l) p = (e, none)) → Q r M') : wX7_reads (nI c) M Q := by
  unfold wX7_reads
  -- nothing more is read where it is wrong
  have endw : ∀ M3 e, fT M M3 → M3 44 = M 44 → e ≤ n → pT t n e 1 cm M3 → (∀ l, zmt t n (zsp c ++ l) p = (e, none)) → ∃ n89, lX7_reads_89 (nI c) (fun x2_89k M_89k => Q x2_89k M_89k) n89 (0 : Int32) (0 : Int32) M3 := fun M3 e f3 e44 he p3 hz => by
    refine ⟨1, ?_⟩
    unfold lX7_reads_89
    exact ⟨fun _ => hno M3 e _ f3 e44 he p3 hz, fun _ => u7_isDigit1 p3 (br0 (hno M3 e _ f3 e44 he p3 hz))⟩
  have wr36 : ∀ (M1 : sM) e r17 (w : Nat), fT M M1 → M1 44 = M 44 → e ≤ n → pT t n e w cm M1 → (∀ l, zmt t n (zsp c ++ l) p = (e, none)) → jX7_reads_36 M1 r17 Q (1 : Int32) := fun M1 e r17 w f1 e44 he p1 hz => by
    unfold jX7_reads_36
    refine ⟨nbf1, ?_⟩
    intro M18 e18
    have p18 : pT t n e 1 cm M18 := by rw [e18]; exact pT_15 p1 1
    refine brf (by rw [p18.2.2.2.1]; decide) ?_
    intro M22 e22
    rw [p18.2.2.1, nA] at e22
    have p22 : pT t n e 1 cm M22 := by rw [e22]; exact pT_14 p18 e
    exact hno M22 e _ (fT_t f1 (fT_t (M1 := M18) (by rw [e18]; exact fT_s M1 (by omega) _) (by rw [e22]; exact fT_s M18 (by omega) _))) (by rw [e22, sw_ms_n _ _ _ (by decide), e18, sw_ms_n _ _ _ (by decide)]; exact e44) he p22 hz
  have wr82 : ∀ (M1 : sM) e (w : Nat), fT M M1 → M1 44 = M 44 → e ≤ n → pT t n e w cm M1 → (∀ l, zmt t n (zsp c ++ l) p = (e, none)) → jX7_reads_82 (nI c) M1 Q (1 : Int32) := fun M1 e w f1 e44 he p1 hz => by
    unfold jX7_reads_82
    refine ⟨nbf1, ?_⟩
    intro M3 e3
    exact endw M3 e (fT_t f1 (by rw [e3]; exact fT_s M1 (by omega) _)) (by rw [e3, sw_ms_n _ _ _ (by decide)]; exact e44) he (by rw [e3]; exact pT_15 p1 1) hz
  refine u7_skip hn ht (i := 12) (by decide) (by decide) hp hM (fun M1 p1 f1 e44 hp1 hM1 hz => ?_) (fun M1 e f1 e44 he hM1 hz => ?_)
  · have ez : ∀ l, zmt t n (zsp c ++ l) p = zmt t n ((if c = 0 then 70 else if c = 1 then 68 else 78) :: l) p1 := fun l => hz ((if c = 0 then 70 else if c = 1 then 68 else 78) :: l)
    refine bri (nI_eq (b := 0) (by omega) (by decide)) (fun c0 => ?_) (fun c0 => ?_)
    · subst c0
      have nof : ¬ (p1 < n ∧ 97 ≤ t p1 ∧ t p1 ≤ 102) → ∀ l, zmt t n (zsp 0 ++ l) p = (p1, none) := fun no l => by
        rw [ez l]
        show zmt t n (70 :: l) p1 = _
        unfold zmt
        rw [if_neg]
        rintro ⟨q1, q2⟩
        rcases q2 with q | q | q
        · exact no ⟨q1, q.2⟩
        · omega
        · omega
      refine u7_behind0 hn hp1 hM1 (fun lt => ?_) (fun ge => ?_)
      · refine brt hM1.2.2.2.1 ?_
        have tp := ht p1 lt
        refine u7_isFrame (fun f a b ef => br1 ?_) (fun no => br0 (wr36 M1 p1 _ 0 f1 e44 hp1 hM1 (nof (fun z => no (t p1) z.2.1 z.2.2 rfl))))
        have e1 := (nI_eq (by omega) (by omega)).mp ef
        unfold jX7_reads_36
        refine ⟨nbf0, ?_⟩
        intro M18 e18
        have p18 : pT t n p1 0 cm M18 := by rw [e18]; exact pT_15 hM1 0
        refine brt p18.2.2.2.1 ?_
        intro M21 e21
        rw [p18.2.2.1, ← nI_succ] at e21
        have p21 : pT t n (p1 + 1) 0 cm M21 := by rw [e21]; exact pT_14 p18 (p1 + 1)
        refine hok M21 (p1 + 1) (t p1) (fT_t f1 (fT_t (M1 := M18) (by rw [e18]; exact fT_s M1 (by omega) _) (by rw [e21]; exact fT_s M18 (by omega) _))) (by rw [e21, sw_ms_n _ _ _ (by decide), e18, sw_ms_n _ _ _ (by decide)]; exact e44) (by omega) p21 (fun l => ?_)
        rw [ez l]
        show zmt t n (70 :: l) p1 = _
        conv => lhs; unfold zmt
        rw [if_pos ⟨lt, .inl ⟨rfl, by omega, by omega⟩⟩, if_neg (by decide), if_neg (by decide), if_pos rfl]
      · refine brt hM1.2.2.2.1 ?_
        refine u7_isFrame (fun f a b ef => ?_) (fun no => br0 (wr36 M1 p1 _ 0 f1 e44 hp1 hM1 (nof (fun z => by omega))))
        rw [← nP_0, nP_eqI (by decide) (by omega)] at ef
        omega
    · -- a number
      have nof : ¬ (p1 < n ∧ zdg (t p1)) → ∀ l, zmt t n (zsp c ++ l) p = (p1, none) := fun no l => by
        rw [ez l]
        have hw : (if c = 0 then 70 else if c = 1 then 68 else 78) = 68 ∨ (if c = 0 then 70 else if c = 1 then 68 else 78) = 78 := by
          rw [if_neg c0]
          split
          · exact .inl rfl
          · exact .inr rfl
        unfold zmt
        rw [if_neg]
        rintro ⟨q1, q2⟩
        rcases q2 with q | q | q
        · omega
        · exact no ⟨q1, q.2⟩
        · omega
      refine brt hM1.2.2.2.1 ?_
      refine u7_isDigit hn ht hp1 hM1 (fun lt dg => br1 ?_) (fun no => br0 (wr82 M1 p1 0 f1 e44 hp1 hM1 (nof no)))
      unfold jX7_reads_82
      refine ⟨nbf0, ?_⟩
      intro M3 e3
      have p3 : pT t n p1 0 cm M3 := by rw [e3]; exact pT_15 hM1 0
      have f3 : fT M M3 := fT_t f1 (by rw [e3]; exact fT_s M1 (by omega) _)
      have e443 : M3 44 = M 44 := by rw [e3, sw_ms_n _ _ _ (by decide)]; exact e44
      refine ⟨3, ?_⟩
      unfold lX7_reads_89
      refine brf (nI_ge (a := 0) (by omega) (by omega)) ?_
      refine u7_isDigit hn ht hp1 p3 (fun _ _ => br1 ⟨by rw [p3.2.2.1]; exact vin (by omega) (by decide), ?_⟩) (fun no => absurd ⟨lt, dg⟩ no)
      intro v9 e9 M10 e10 v11 e11
      rw [p3.2.2.1, cl (by omega), p3.2.1 p1 lt, show (0 : Int32) = nI 0 from rfl, d10 dg.1, Nat.zero_mul, Nat.zero_add] at e9
      rw [p3.2.2.1, ← nI_succ] at e10
      rw [show (0 : Int32) + 1 = nI 1 from by decide] at e11
      subst e9 e11
      have p10 : pT t n (p1 + 1) 0 cm M10 := by rw [e10]; exact pT_14 p3 (p1 + 1)
      have f10 : fT M M10 := fT_t f3 (by rw [e10]; exact fT_s M3 (by omega) _)
      have e4410 : M10 44 = M 44 := by rw [e10, sw_ms_n _ _ _ (by decide)]; exact e443
      show lX7_reads_89 (nI c) (fun x2_89k M_89k => Q x2_89k M_89k) 2 (nI (t p1 - 48)) (nI 1) M10
      unfold lX7_reads_89
      refine bri (nI_leI (by omega) (by omega)) (fun c1 => ?_) (fun c2 => ?_)
      · refine hok M10 (p1 + 1) (t p1 - 48) f10 e4410 (by omega) p10 (fun l => ?_)
        rw [ez l, if_neg c0, if_pos (by omega)]
        conv => lhs; unfold zmt
        rw [if_pos ⟨lt, .inr (.inl ⟨.inl rfl, dg⟩)⟩, if_neg (by decide), if_pos rfl]
      · have e78 : ∀ l, zmt t n (zsp c ++ l) p = zmt t n (78 :: l) p1 := fun l => by rw [ez l, if_neg c0, if_neg (by omega)]
        refine u7_isDigit hn ht (by omega) p10 (fun lt2 dg2 => br1 ⟨by rw [p10.2.2.1]; exact vin (by omega) (by decide), ?_⟩) (fun no => br0 ?_)
        · intro v9 e9 M11 e11 v12 e12
          rw [p10.2.2.1, cl (by omega), p10.2.1 (p1 + 1) lt2, d10 dg2.1] at e9
          rw [p10.2.2.1, ← nI_succ] at e11
          rw [← nI_succ] at e12
          subst e9 e12
          have p11 : pT t n (p1 + 2) 0 cm M11 := by rw [e11]; exact pT_14 p10 (p1 + 2)
          show lX7_reads_89 (nI c) (fun x2_89k M_89k => Q x2_89k M_89k) 1 _ (nI 2) M11
          unfold lX7_reads_89
          refine brt (nI_le (by omega) (by omega)) ?_
          refine hok M11 (p1 + 2) _ (fT_t f10 (by rw [e11]; exact fT_s M10 (by omega) _)) (by rw [e11, sw_ms_n _ _ _ (by decide)]; exact e4410) (by omega) p11 (fun l => ?_)
          rw [e78 l]
          conv => lhs; unfold zmt
          rw [if_pos ⟨lt, .inr (.inl ⟨.inr rfl, dg⟩)⟩, if_pos rfl, if_pos ⟨lt2, dg2⟩]
        · refine hok M10 (p1 + 1) (t p1 - 48) f10 e4410 (by omega) p10 (fun l => ?_)
          rw [e78 l]
          conv => lhs; unfold zmt
          rw [if_pos ⟨lt, .inr (.inl ⟨.inr rfl, dg⟩)⟩, if_pos rfl, if_neg no]
  · have hz' : ∀ l, zmt t n (zsp c ++ l) p = (e, none) := fun l => hz _
    refine bri (nI_eq (b := 0) (by omega) (by decide)) (fun c0 => ?_) (fun c0 => ?_)
    · refine u7_behind0 hn he hM1 (fun lt => ?_) (fun ge => ?_)
      · exact brf (by rw [hM1.2.2.2.1]; decide) (wr36 M1 e _ 1 f1 e44 he hM1 hz')
      · exact brf (by rw [hM1.2.2.2.1]; decide) (wr36 M1 e _ 1 f1 e44 he hM1 hz')
    · exact brf (by rw [hM1.2.2.2.1]; decide) (wr82 M1 e 1 f1 e44 he hM1 hz')
theorem u7_reads1 (hn : n ≤ 60) {c : Nat} (hc : c < 3) {M : sM} {e cm : Nat} (he : e ≤ n) (hM : pT t n e 1 cm M) {Q : Int32 → sM → Prop} (h : ∀ M' r, fT M M' → M' 44 = M 44 → pT t n e 1 cm M' → Q r M') : wX7_reads (nI c) M Q := by
  unfold wX7_reads
  refine u7_skip1 (by decide) hM ?_
  refine bri (nI_eq (b := 0) (by omega) (by decide)) (fun c0 => ?_) (fun c0 => ?_)
  · have fin : ∀ r17, jX7_reads_36 M r17 Q (1 : Int32) := fun r17 => by
      unfold jX7_reads_36
      refine ⟨nbf1, ?_⟩
      intro M18 e18
      have p18 : pT t n e 1 cm M18 := by rw [e18]; exact pT_15 hM 1
      refine brf (by rw [p18.2.2.2.1]; decide) ?_
      intro M22 e22
      rw [p18.2.2.1, nA] at e22
      exact h M22 _ (fT_t (M1 := M18) (by rw [e18]; exact fT_s M (by omega) _) (by rw [e22]; exact fT_s M18 (by omega) _)) (by rw [e22, sw_ms_n _ _ _ (by decide), e18, sw_ms_n _ _ _ (by decide)]) (by rw [e22]; exact pT_14 p18 e)
    exact u7_behind0 hn he hM (fun lt => brf (by rw [hM.2.2.2.1]; decide) (fin _)) (fun ge => brf (by rw [hM.2.2.2.1]; decide) (fin _))
  · refine brf (by rw [hM.2.2.2.1]; decide) ?_
    unfold jX7_reads_82
    refine ⟨nbf1, ?_⟩
    intro M3 e3
    have p3 : pT t n e 1 cm M3 := by rw [e3]; exact pT_15 hM 1
    have q : ∀ r, Q r M3 := fun r => h M3 r (by rw [e3]; exact fT_s M (by omega) _) (by rw [e3, sw_ms_n _ _ _ (by decide)]) p3
    refine ⟨1, ?_⟩
    unfold lX7_reads_89
    exact ⟨fun _ => q _, fun _ => u7_isDigit1 p3 (br0 (q _))⟩
end MP
