/-! The class reads a program. -/
theorem u4_isDigit {c : Nat} (hc : c < 65536) {Q : Int32 → Prop} (h1 : zdg c → Q 1) (h0 : ¬ zdg c → Q 0) : wX4_isDigit (nI c) Q := by
  unfold wX4_isDigit
  refine bri (nI_ltI (b := 48) (by omega) (by decide)) (fun z => h0 (fun w => by omega)) (fun z => ?_)
  exact bri (nI_ltI (a := 57) (by decide) (by omega)) (fun y => h0 (fun w => by omega)) (fun y => h1 ⟨by omega, by omega⟩)
theorem u4_fits {w c : Nat} (hw : w < 200) (hc : c < 65536) {Q : Int32 → Prop} (h1 : zft w c → Q 1) (h0 : ¬ zft w c → Q 0) : wX4_fits (nI w) (nI c) Q := by
  have n1 : narrow .boolean (.int (1 : Int32)) = .int 1 := nb1
  have n0 : narrow .boolean (.int (0 : Int32)) = .int 0 := nb0
  unfold wX4_fits
  refine bri (nI_eq (b := 70) (by omega) (by decide)) (fun e => ?_) (fun e70 => ?_)
  · refine u6_isFrame (fun f a b ef => ⟨n1, h1 (.inl ⟨e, ?_⟩)⟩) (fun no => ⟨n0, h0 (fun z => ?_)⟩)
    · have := (nI_eq (by omega) (by omega)).mp ef; omega
    · rcases z with z | z | z
      · exact no c z.2.1 z.2.2 rfl
      · omega
      · omega
  · refine bri (nI_eq (b := 68) (by omega) (by decide)) (fun e => ?_) (fun e68 => ?_)
    · refine u4_isDigit hc (fun z => ⟨n1, h1 (.inr (.inl ⟨.inl e, z⟩))⟩) (fun z => ⟨n0, h0 (fun y => ?_)⟩)
      rcases y with y | y | y
      · omega
      · exact z y.2
      · omega
    · refine bri (nI_eq (b := 78) (by omega) (by decide)) (fun e => ?_) (fun e78 => ?_)
      · refine u4_isDigit hc (fun z => ⟨n1, h1 (.inr (.inl ⟨.inr e, z⟩))⟩) (fun z => ⟨n0, h0 (fun y => ?_)⟩)
        rcases y with y | y | y
        · omega
        · exact z y.2
        · omega
      · exact bri (nI_eq (by omega) (by omega)) (fun e => h1 (.inr (.inr ⟨e70, e68, e78, e⟩))) (fun e => h0 (fun y => by omega))
theorem m48 {c : Nat} (h : 48 ≤ c) : nI c + (-48 : Int32) = nI (c - 48) := by
  have e : c = c - 48 + 48 := by omega
  rw [e, ← nI_add (c - 48) 48, Int32.add_assoc, show nI 48 + (-48 : Int32) = 0 from by decide, Int32.add_zero, Nat.add_sub_cancel]
theorem m10 {v c : Nat} (h : 48 ≤ c) : ((nI v * (10 : Int32)) + nI c) - (48 : Int32) = nI (v * 10 + (c - 48)) := by
  have e1 : nI v * (10 : Int32) = nI (v * 10) := pk_mul v 10
  have e2 : nI (v * 10 + c) - (48 : Int32) = nI (v * 10 + c - 48) := pk_sub (b := 48) (by omega)
  rw [e1, nI_add, e2]
  congr 1; omega
section PAR
variable {M : sM} {t : Nat → Nat} {n : Nat}
theorem u4_match (hn : n ≤ 60) (h14 : M 14 1 = nI n) (h15 : ∀ j, j < n → M 15 j = nI (t j)) (ht : ∀ j, j < n → t j < 65536) {i row start : Nat} (hi : i < 18) (hrow : row < 13) (hs : start ≤ n) (h4 : zoc (zsb i) ≤ 4) {Q : Int32 → sM → Prop}
    (hok : ∀ e ops M', zmt t n (zsb i) start = (e, some ops) → fr (18 + row) (19 + row) M M' → (∀ j, j < ops.length → M' (18 + row) j = nI (ops.getD j 0)) → Q (nI e) M')
    (hno : ∀ e M', zmt t n (zsb i) start = (e, none) → fr (18 + row) (19 + row) M M' → Q ((-1 : Int32) - nI e) M') : wX4_match i (nI row) (nI start) M Q := by
  have key : ∀ (rem pre : List Nat) (p c : Nat) (M2 : sM), zsb i = pre ++ rem → fr (18 + row) (19 + row) M M2 → p ≤ n → c + zoc rem ≤ 4 →
      (∀ e ops M', zmt t n rem p = (e, some ops) → fr (18 + row) (19 + row) M M' → (∀ j, j < c → M' (18 + row) j = M2 (18 + row) j) → (∀ j, j < ops.length → M' (18 + row) (c + j) = nI (ops.getD j 0)) → Q (nI e) M') →
      (∀ e M', zmt t n rem p = (e, none) → fr (18 + row) (19 + row) M M' → Q ((-1 : Int32) - nI e) M') → lX4_match_9 i (nI row) Q (fun x4_9k M_9k => Q x4_9k M_9k) (rem.length + 1) (nI p) (nI c) (nI pre.length) M2 := by
    intro rem
    induction rem with
    | nil =>
      intro pre p c M2 ei f2 hp hc k1 k0
      have l16 := zsb_16 i hi
      unfold lX4_match_9
      refine sb_len hi ?_
      rw [ei, List.append_nil]
      rw [ei, List.append_nil] at l16
      refine brt (nI_le (Nat.le_refl _) (by omega)) (k1 p [] M2 rfl f2 (fun _ _ => rfl) (fun j hj => absurd hj (Nat.not_lt_zero _)))
    | cons w l ih =>
      intro pre p c M2 ei f2 hp hc k1 k0
      have l16 := zsb_16 i hi
      have w200 := zsb_w i hi w (by rw [ei]; simp)
      have ei2 : zsb i = (pre ++ [w]) ++ l := by rw [ei]; simp
      have lp : (pre ++ [w]).length = pre.length + 1 := by simp
      rw [ei] at l16
      simp only [List.length_append, List.length_cons] at l16
      unfold lX4_match_9
      refine sb_len hi ?_
      rw [ei]
      refine brf (by rw [List.length_append, List.length_cons]; exact nI_ge (by omega) (by omega)) ?_
      refine sb_ch hi ei ?_
      have g14 : M2 14 1 = nI n := by rw [f2 14 (by omega)]; exact h14
      have g15 : ∀ j, j < n → M2 15 j = nI (t j) := fun j hj => by rw [f2 15 (by omega)]; exact h15 j hj
      rw [g14]
      refine bri (nI_leI (by omega) (by omega)) (fun z => k0 p M2 (by unfold zmt; rw [if_neg (fun q => by omega)]) f2) (fun z => ⟨vin (by omega) (by decide), ?_⟩)
      rw [cl (by omega), g15 p (by omega)]
      have tp := ht p (by omega)
      refine u4_fits w200 tp (fun fit => br1 ⟨vin (by omega) (by decide), ?_⟩) (fun nof => br0 (k0 p M2 (by unfold zmt; rw [if_neg (fun q => nof q.2)]) f2))
      intro v11 e11 v12 e12
      rw [← nI_succ] at e12
      subst e11 e12
      -- an operand is stored
      have store : ∀ v q : Nat, zmt t n (w :: l) p = zcs v (zmt t n l q) → q ≤ n → (w = 78 ∨ w = 68 ∨ w = 70) → jX4_match_135 (nI row) (nI c) (nI pre.length) M2 (nI w) (fun x4_9 x5_9 x6_9 M_9 => lX4_match_9 i (nI row) Q (fun x4_9k M_9k => Q x4_9k M_9k) (l.length + 1) x4_9 x5_9 x6_9 M_9) (nI q) (nI v) := by
        intro v q hz hq hw
        unfold jX4_match_135
        have op : ∀ R : Int32 → Prop, R 1 → wX4_isOperand (nI w) R := fun R hR => by
          unfold wX4_isOperand
          refine ⟨fun _ => hR, fun a => ⟨fun _ => hR, fun b => ⟨fun _ => hR, fun d => ?_⟩⟩⟩
          rcases hw with e | e | e <;> subst e
          · exact absurd rfl d
          · exact absurd rfl b
          · exact absurd rfl a
        refine op _ (br1 ?_)
        have hc1 : c + (1 + zoc l) ≤ 4 := by
          have : zoc (w :: l) = 1 + zoc l := by
            show (if w = 78 ∨ w = 68 ∨ w = 70 then 1 else 0) + zoc l = 1 + zoc l
            rw [if_pos hw]
          rw [this] at hc; exact hc
        refine brf (nI_ge (b := 4) (by omega) (by omega)) ⟨vin hrow (by decide), vin (by omega) (by decide), ?_⟩
        rw [cl (by omega), cl (by omega)]
        intro M20 e20 v21 e21 v22 e22
        subst e21 e22
        have f20 : fr (18 + row) (19 + row) M M20 := fr_t f2 (by rw [e20]; exact fr_s M2 _ _ (by omega))
        have r := ih (pre ++ [w]) q (c + 1) M20 ei2 f20 hq (by omega) (fun e ops M' hm f' kj ko => ?_) (fun e M' hm f' => ?_)
        · rw [lp, nI_succ, nI_succ] at r
          exact r
        · rw [hm] at hz
          refine k1 e (v :: ops) M' hz f' (fun j hj => ?_) (fun j hj => ?_)
          · rw [kj j (by omega), e20, ms_j _ _ _ (by omega)]
          · rcases j with _ | j
            · rw [Nat.add_zero, kj c (by omega), e20, ms_e]; rfl
            · have := ko j (by simpa using hj)
              rw [show c + (j + 1) = c + 1 + j by omega]
              exact this
        · rw [hm] at hz
          exact k0 e M' hz f'
      have fitq : p < n ∧ zft w (t p) := ⟨by omega, fit⟩
      have dg : w = 68 ∨ w = 78 → 48 ≤ t p := fun h => by
        rcases fit with q | q | q
        · omega
        · exact q.2.1
        · omega
      refine bri (nI_eq (b := 68) (by omega) (by decide)) (fun e68 => ?_) (fun e68 => ?_)
      · intro v34 e34
        rw [m48 (dg (.inl e68))] at e34
        subst e34
        unfold jX4_match_85
        refine brf (fun q => by have := (nI_eq (b := 78) (by omega) (by decide)).mp q; omega) ?_
        have ez : zmt t n (w :: l) p = zcs (t p - 48) (zmt t n l (p + 1)) := by
          conv => lhs; unfold zmt
          rw [if_pos fitq, if_neg (by omega), if_pos e68]
        exact store (t p - 48) (p + 1) ez (by omega) (.inr (.inl e68))
      · refine bri (nI_eq (b := 78) (by omega) (by decide)) (fun e78 => ?_) (fun e78 => ?_)
        · intro v36 e36
          rw [m48 (dg (.inr e78))] at e36
          subst e36
          unfold jX4_match_85
          refine brt (by rw [e78]; rfl) ?_
          rw [g14]
          have one : ¬ (p + 1 < n ∧ zdg (t (p + 1))) → zmt t n (w :: l) p = zcs (t p - 48) (zmt t n l (p + 1)) := fun no => by
            conv => lhs; unfold zmt
            rw [if_pos fitq, if_pos e78, if_neg no]
          refine bri (nI_leI (by omega) (by omega)) (fun z2 => store (t p - 48) (p + 1) (one (fun y => by omega)) (by omega) (.inl e78)) (fun z2 => ⟨vin (by omega) (by decide), ?_⟩)
          rw [cl (by omega), g15 (p + 1) (by omega)]
          have tp1 := ht (p + 1) (by omega)
          refine u4_isDigit tp1 (fun d => br1 ⟨vin (by omega) (by decide), ?_⟩) (fun d => br0 (store (t p - 48) (p + 1) (one (fun y => d y.2)) (by omega) (.inl e78)))
          intro v30 e30 v31 e31
          rw [m10 d.1] at e30
          rw [← nI_succ] at e31
          subst e30 e31
          have ez : zmt t n (w :: l) p = zcs ((t p - 48) * 10 + (t (p + 1) - 48)) (zmt t n l (p + 2)) := by
            conv => lhs; unfold zmt
            rw [if_pos fitq, if_pos e78, if_pos ⟨by omega, d⟩]
          exact store ((t p - 48) * 10 + (t (p + 1) - 48)) (p + 2) ez (by omega) (.inl e78)
        · unfold jX4_match_85
          refine brf (fun q => by have := (nI_eq (b := 78) (by omega) (by decide)).mp q; omega) ?_
          by_cases e70 : w = 70
          · have ez : zmt t n (w :: l) p = zcs (t p) (zmt t n l (p + 1)) := by
              conv => lhs; unfold zmt
              rw [if_pos fitq, if_neg e78, if_neg e68, if_pos e70]
            exact store (t p) (p + 1) ez (by omega) (.inr (.inr e70))
          · have ez : zmt t n (w :: l) p = zmt t n l (p + 1) := by
              conv => lhs; unfold zmt
              rw [if_pos fitq, if_neg e78, if_neg e68, if_neg e70]
            have zo : zoc (w :: l) = zoc l := by
              show (if w = 78 ∨ w = 68 ∨ w = 70 then 1 else 0) + zoc l = zoc l
              rw [if_neg (by omega), Nat.zero_add]
            unfold jX4_match_135
            have op : ∀ R : Int32 → Prop, R 0 → wX4_isOperand (nI w) R := fun R hR => by
              unfold wX4_isOperand
              exact brf (fun q => e70 ((nI_eq (b := 70) (by omega) (by decide)).mp q)) (brf (fun q => e68 ((nI_eq (b := 68) (by omega) (by decide)).mp q)) (brf (fun q => e78 ((nI_eq (b := 78) (by omega) (by decide)).mp q)) hR))
            refine op _ (br0 ?_)
            intro v15 e15
            subst e15
            have r := ih (pre ++ [w]) (p + 1) c M2 ei2 f2 (by omega) (by rw [zo] at hc; exact hc) (fun e ops M' hm f' kj ko => k1 e ops M' (ez.trans hm) f' kj ko) (fun e M' hm f' => k0 e M' (ez.trans hm) f')
            rw [lp, nI_succ pre.length] at r
            exact r
  unfold wX4_match
  exact ⟨_, key (zsb i) [] start 0 M rfl (fr_r _ _ _) hs (by omega) (fun e ops M' hm f' _ ko => hok e ops M' hm f' (fun j hj => by have := ko j hj; rw [Nat.zero_add] at this; exact this)) hno⟩
theorem u4_shapeOf {k : Nat} (hk : k < 10) {Q : Nat → Prop} (h : Q k) : wX4_shapeOf (nI k) Q := by
  unfold wX4_shapeOf
  have q : ∀ b : Nat, b < 10 → (nI k = nI b ↔ k = b) := fun b hb => nI_eq (by omega) (by omega)
  refine bri (q 0 (by decide)) (fun e => by subst e; exact h) (fun n0 => bri (q 1 (by decide)) (fun e => by subst e; exact h) (fun n1 => bri (q 2 (by decide)) (fun e => by subst e; exact h) (fun n2 => bri (q 3 (by decide)) (fun e => by subst e; exact h) (fun n3 => bri (q 4 (by decide)) (fun e => by subst e; exact h) (fun n4 => bri (q 5 (by decide)) (fun e => by subst e; exact h) (fun n5 => bri (q 6 (by decide)) (fun e => by subst e; exact h) (fun n6 => bri (q 7 (by decide)) (fun e => by subst e; exact h) (fun n7 => bri (q 8 (by decide)) (fun e => by subst e; exact h) (fun n8 => ?_)))))))))
  have e : k = 9 := by omega
  subst e; exact h
theorem zng {e : Nat} (h : e < 100) : (-1 : Int32) - nI e < 0 ∧ (-1 : Int32) - ((-1 : Int32) - nI e) = nI e := by
  have : ∀ e, e < 100 → (-1 : Int32) - nI e < 0 ∧ (-1 : Int32) - ((-1 : Int32) - nI e) = nI e := by decide +kernel
  exact this e h
theorem u4_readCommand (hn : n ≤ 60) (h14 : M 14 1 = nI n) (h15 : ∀ j, j < n → M 15 j = nI (t j)) (ht : ∀ j, j < n → t j < 65536) {row start : Nat} (hrow : row < 13) (hs : start ≤ n) {Q : Int32 → sM → Prop}
    (hok : ∀ e ops M', zmt t n (zsb (zkd t n start)) start = (e, some ops) → (∀ k, k ≠ 16 → k ≠ 18 + row → M' k = M k) → (∀ j, j ≠ row → M' 16 j = M 16 j) → M' 16 row = nI (zkd t n start) → (∀ j, j < ops.length → M' (18 + row) j = nI (ops.getD j 0)) → Q (nI e) M')
    (hno : ∀ e M', zmt t n (zsb (zkd t n start)) start = (e, none) → (∀ k, k ≠ 18 + row → M' k = M k) → Q ((-1 : Int32) - nI e) M') : wX4_readCommand (nI row) (nI start) M Q := by
  have k10 := zkd_10 t n start
  have keN := zmt_le (t := t) (n := n) (l := zsb (zkd t n start)) hs
  have key : ∀ m k, k + m = 10 → ∀ far M2, fr (18 + row) (19 + row) M M2 → far ≤ (zmt t n (zsb (zkd t n start)) start).1 → (zkd t n start < k → (zmt t n (zsb (zkd t n start)) start).2 = none ∧ far = (zmt t n (zsb (zkd t n start)) start).1) → lX4_readCommand_5 (nI row) (nI start) Q (fun x3_5k M_5k => wX4_errorAt x3_5k (fun r1 => Q r1 M_5k)) (m + 1) (nI far) (nI k) M2 := by
    intro m
    induction m with
    | zero =>
      intro k hk far M2 f2 hf hd
      unfold lX4_readCommand_5
      have e : k = 10 := by omega
      subst e
      refine brt (nI_le (b := 10) (Nat.le_refl _) (by omega)) ?_
      obtain ⟨d1, d2⟩ := hd k10
      unfold wX4_errorAt
      rw [d2]
      exact hno _ M2 (Prod.ext rfl d1) (fun q hq => f2 q (by omega))
    | succ m ih =>
      intro k hk far M2 f2 hf hd
      unfold lX4_readCommand_5
      refine brf (nI_ge (b := 10) (by omega) (by omega)) ?_
      refine u4_shapeOf (by omega) ?_
      refine u4_match (t := t) hn (by rw [f2 14 (by omega)]; exact h14) (fun j hj => by rw [f2 15 (by omega)]; exact h15 j hj) ht (by omega) hrow hs (zsb_ar k (by omega)).1 (fun e ops M' hm f' ko => ?_) (fun e M' hm f' => ?_)
      · have ek : k = zkd t n start := by
          rcases Classical.em (k = zkd t n start) with q | q
          · exact q
          · have := (zmt_other (t := t) (n := n) (p := start) (k := k) (by omega) q).1
            rw [hm] at this; cases this
        have eN : e ≤ n := by rw [← ek, hm] at keN; exact keN
        refine brf (nI_pos (by omega)) ⟨vin hrow (by decide), ?_⟩
        intro M15 e15
        rw [cl (by omega)] at e15
        refine hok e ops M15 (by rw [← ek]; exact hm) (fun q h1 h2 => ?_) (fun j hj => ?_) ?_ (fun j hj => ?_)
        · rw [e15, sw_ms_n _ _ _ h1, f' q (by omega), f2 q (by omega)]
        · rw [e15, ms_j _ _ _ hj, f' 16 (by omega), f2 16 (by omega)]
        · rw [e15, ms_e, ek]
        · rw [e15, sw_ms_n _ _ _ (by omega)]; exact ko j hj
      · have eN : e ≤ n := by have := zmt_le (t := t) (n := n) (l := zsb k) hs; rw [hm] at this; exact this
        obtain ⟨g1, g2⟩ := zng (e := e) (by omega)
        refine brt g1 ?_
        unfold wX4_errorOf
        rw [g2]
        intro v11 e11 v12 e12
        subst e12
        have ele : e ≤ (zmt t n (zsb (zkd t n start)) start).1 := by
          rcases Classical.em (k = zkd t n start) with q | q
          · rw [← q, hm]; exact Nat.le_refl _
          · have := (zmt_other (t := t) (n := n) (p := start) (k := k) (by omega) q).2
            rw [hm] at this; exact this
        have e11 : v11 = nI (if far < e then e else far) := by
          rw [e11]
          by_cases q : far < e
          · rw [if_pos q, if_pos (nI_lt q (by omega))]
          · rw [if_neg q, if_neg (nI_nlt (by omega) (by omega))]
        subst e11
        have r := ih (k + 1) (by omega) (if far < e then e else far) M' (fr_t f2 f') (by split <;> omega) (fun lt => by
          rcases Classical.em (k = zkd t n start) with q | q
          · rw [← q, hm] at hf ⊢
            have hf : far ≤ e := hf
            refine ⟨rfl, ?_⟩
            show (if far < e then e else far) = e
            split <;> omega
          · have d := hd (by omega)
            refine ⟨d.1, ?_⟩
            have := d.2
            split <;> omega)
        rw [nI_succ k] at r
        exact r
  unfold wX4_readCommand
  exact ⟨11, key 10 0 rfl start M (fr_r _ _ _) zmt_ge (fun h => absurd h (Nat.not_lt_zero _))⟩
/-- the rows of the commands -/
def hR (M : sM) (r : Nat) (cs : List (Nat × List Nat)) : Prop := ∀ i, i < cs.length → M 16 (r + i) = nI (cs.getD i (0, [])).1 ∧ ∀ j, j < (cs.getD i (0, [])).2.length → M (18 + (r + i)) j = nI ((cs.getD i (0, [])).2.getD j 0)
def fG (r : Nat) (M M' : sM) : Prop := (∀ k, k ≠ 14 → k ≠ 16 → (k < 18 + r ∨ 31 ≤ k) → M' k = M k) ∧ (∀ j, j ≠ 2 → M' 14 j = M 14 j) ∧ ∀ j, j < r → M' 16 j = M 16 j
theorem u4_loop (hn : n ≤ 60) (ht : ∀ j, j < n → t j < 65536) {Q : Int32 → sM → Prop} : ∀ (f r p : Nat) (M : sM), r + f = 13 → p ≤ n → M 14 1 = nI n → (∀ j, j < n → M 15 j = nI (t j)) →
    (∀ M', fG r M M' → ((zps t n f p).1 = 0 → M' 14 2 = nI (r + (zps t n f p).2.length) ∧ hR M' r (zps t n f p).2) → Q (nP (zps t n f p).1) M') → lX4_parse_9 Q (fun x1_9k M_9k => Q x1_9k M_9k) (f + 1) (nI p) (nI r) M
  | 0, r, p, M, hr, hp, h14, h15, h => by
    unfold lX4_parse_9
    have e : r = 13 := by omega
    subst e
    refine brt (nI_le (b := 13) (Nat.le_refl _) (by omega)) ?_
    have q := h M ⟨fun _ _ _ _ => rfl, fun _ _ => rfl, fun _ _ => rfl⟩ (fun z => absurd (show p + 1 = 0 from z) (by omega))
    rw [show (zps t n 0 p).1 = p + 1 from rfl, nP_S] at q
    exact q
  | f + 1, r, p, M, hr, hp, h14, h15, h => by
    have keN := zmt_le (t := t) (n := n) (l := zsb (zkd t n p)) hp
    unfold lX4_parse_9
    refine brf (nI_ge (b := 13) (by omega) (by omega)) ?_
    refine u4_readCommand hn h14 h15 ht (by omega) hp (fun e ops M4 hm f1 f2 kk ko => ?_) (fun e M4 hm f1 => ?_)
    · have eN : e ≤ n := by rw [hm] at keN; exact keN
      refine brt (nI_pos' (by omega)) ?_
      intro M6 e6
      have e6 : M6 = sw_ms M4 14 2 (nI (r + 1)) := by rw [e6, nI_succ]
      have a14 : M6 14 1 = nI n := by rw [e6, ms_j _ _ _ (by decide), f1 14 (by decide) (by omega)]; exact h14
      have a15 : ∀ j, j < n → M6 15 j = nI (t j) := fun j hj => by rw [e6, sw_ms_n _ _ _ (by decide), f1 15 (by decide) (by omega)]; exact h15 j hj
      have g6 : fG r M M6 := ⟨fun k h1 h2 h3 => by rw [e6, sw_ms_n _ _ _ h1]; exact f1 k h2 (by omega), fun j hj => by rw [e6, ms_j _ _ _ hj, f1 14 (by decide) (by omega)], fun j hj => by rw [e6, sw_ms_n _ _ _ (by decide)]; exact f2 j (by omega)⟩
      have b16 : M6 16 r = nI (zkd t n p) := by rw [e6, sw_ms_n _ _ _ (by decide)]; exact kk
      have b18 : ∀ j, j < ops.length → M6 (18 + r) j = nI (ops.getD j 0) := fun j hj => by rw [e6, sw_ms_n _ _ _ (by omega)]; exact ko j hj
      rw [a14]
      refine bri (nI_ltI (by omega) (by omega)) (fun lt => ⟨vin (by omega) (by decide), ?_⟩) (fun ge => ?_)
      · rw [cl (by omega), a15 e lt]
        have te := ht e lt
        refine bri (nI_eq (b := 59) (by omega) (by decide)) (fun z => ?_) (fun z => ?_)
        · intro v10 e10 v11 e11
          rw [← nI_succ] at e10
          subst e10 e11
          have hz := zps_s (f := f) hm (by omega) z
          rw [hz] at h
          have q := u4_loop hn ht f (r + 1) (e + 1) M6 (by omega) (by omega) a14 a15 (Q := Q) (fun M' g' hh => ?_)
          · rw [nI_succ r] at q; exact q
          · refine h M' ⟨fun k h1 h2 h3 => by rw [g'.1 k h1 h2 (by omega)]; exact g6.1 k h1 h2 h3, fun j hj => by rw [g'.2.1 j hj]; exact g6.2.1 j hj, fun j hj => by rw [g'.2.2 j (by omega)]; exact g6.2.2 j hj⟩ (fun z0 => ?_)
            obtain ⟨c1, c2⟩ := hh z0
            refine ⟨?_, fun i hi => ?_⟩
            · rw [c1, List.length_cons]; congr 1; omega
            · rcases i with _ | i
              · refine ⟨?_, fun j hj => ?_⟩
                · show M' 16 r = nI (zkd t n p)
                  rw [g'.2.2 r (by omega)]; exact b16
                · show M' (18 + r) j = nI (ops.getD j 0)
                  have hj : j < ops.length := hj
                  rw [g'.1 (18 + r) (by omega) (by omega) (.inl (by omega))]; exact b18 j hj
              · have q := c2 i (by simpa using hi)
                rw [show r + 1 + i = r + (i + 1) by omega] at q
                exact q
        · rw [zps_x (f := f) hm (by omega) z] at h
          have q := h M6 g6 (fun w => absurd (show e + 1 = 0 from w) (by omega))
          rw [show ((e + 1, []) : Nat × List (Nat × List Nat)).1 = e + 1 from rfl, nP_S] at q
          exact q
      · rw [zps_e (f := f) hm (by omega)] at h
        have q := h M6 g6 (fun _ => ⟨by rw [e6, ms_e]; rfl, fun i hi => by
          have e0 : i = 0 := by simpa using hi
          subst e0
          exact ⟨b16, b18⟩⟩)
        rw [show ((0, [(zkd t n p, ops)]) : Nat × List (Nat × List Nat)).1 = 0 from rfl, nP_0] at q
        exact q
    · have eN : e ≤ n := by rw [hm] at keN; exact keN
      obtain ⟨g1, g2⟩ := zng (e := e) (by omega)
      refine brf (fun w => ?_) ?_
      · rw [Int32.le_iff_toInt_le] at w
        rw [Int32.lt_iff_toInt_lt] at g1
        omega
      · unfold wX4_errorOf
        rw [g2]
        rw [zps_n (f := f) hm] at h
        have q := h M4 ⟨fun k h1 h2 h3 => f1 k (by omega), fun j hj => by rw [f1 14 (by omega)], fun j hj => by rw [f1 16 (by omega)]⟩ (fun w => absurd (show e + 1 = 0 from w) (by omega))
        rw [show ((e + 1, []) : Nat × List (Nat × List Nat)).1 = e + 1 from rfl, nP_S] at q
        exact q
theorem u4_parse (hn : n ≤ 60) (h14 : M 14 1 = nI n) (h15 : ∀ j, j < n → M 15 j = nI (t j)) (ht : ∀ j, j < n → t j < 65536) {Q : Int32 → sM → Prop} (h : ∀ M', fG 0 M M' → ((zps t n 13 0).1 = 0 → M' 14 2 = nI (zps t n 13 0).2.length ∧ hR M' 0 (zps t n 13 0).2) → Q (nP (zps t n 13 0).1) M') : wX4_parse M Q := by
  unfold wX4_parse
  intro M1 e1
  refine ⟨14, u4_loop hn ht 13 0 0 M1 rfl (Nat.zero_le _) (by rw [e1, ms_j _ _ _ (by decide)]; exact h14) (fun j hj => by rw [e1, sw_ms_n _ _ _ (by decide)]; exact h15 j hj) (fun M' g' hh => h M' ⟨fun k a b c => by rw [g'.1 k a b c, e1, sw_ms_n _ _ _ a], fun j hj => by rw [g'.2.1 j hj, e1, ms_j _ _ _ hj], fun j hj => absurd hj (Nat.not_lt_zero _)⟩ (fun z => ?_))⟩
  have q := hh z
  rw [Nat.zero_add] at q
  exact q
end PAR
