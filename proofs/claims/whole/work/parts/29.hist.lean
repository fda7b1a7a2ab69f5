/-! The whole picture of both sides: present, history, saved, text, errors, line. -/
abbrev zG : Type := (Nat → Nat) × (Nat × (Nat → Nat → Nat)) × (Nat × (Nat → Nat)) × (Nat × (Nat → Nat)) × (Int32 × Int32) × (Nat × (Nat → Nat))
def CI (M : sM) (g : zG) : Prop :=
  rS M 0 g.1 ∧ (M 1 2 = nI g.2.1.1 ∧ ∃ f, f < 9 ∧ M 1 1 = nI f ∧ ∀ j, j < g.2.1.1 → rS M (2 + (f + 9 - g.2.1.1 + j) % 9) (g.2.1.2 j)) ∧
  (M 0 2 = nI g.2.2.1.1 ∧ (g.2.2.1.1 = 1 → rS M 1 g.2.2.1.2)) ∧ (M 14 1 = nI g.2.2.2.1.1 ∧ ∀ j, j < g.2.2.2.1.1 → M 15 j = nI (g.2.2.2.1.2 j)) ∧
  (M 0 8 = g.2.2.2.2.1.1 ∧ M 0 9 = g.2.2.2.2.1.2) ∧ (M 31 1 = nI g.2.2.2.2.2.1 ∧ ∀ j, j < g.2.2.2.2.2.1 → M 32 j = nI (g.2.2.2.2.2.2 j))
def MI (M : sM) (g : zG) : Prop :=
  rM M g.1 ∧ (M 33 5 = nI g.2.1.1 ∧ ∀ j q, j < g.2.1.1 → q < 228 → M 37 (228 * j + q) = nI (g.2.1.2 j q)) ∧
  (M 33 3 = nI g.2.2.1.1 ∧ (g.2.2.1.1 = 1 → ∀ q, q < 228 → M 36 q = nI (g.2.2.1.2 q))) ∧ (M 33 13 = nI g.2.2.2.1.1 ∧ ∀ j, j < g.2.2.2.1.1 → M 43 j = nI (g.2.2.2.1.2 j)) ∧
  (M 33 16 = g.2.2.2.2.1.1 ∧ M 33 17 = g.2.2.2.2.1.2) ∧ (M 33 21 = nI g.2.2.2.2.2.1 ∧ ∀ j, j < g.2.2.2.2.2.1 → M 45 j = nI (g.2.2.2.2.2.2 j))
def GI (g : zG) : Prop :=
  rB g.1 ∧ (g.2.1.1 ≤ 8 ∧ ∀ j, j < g.2.1.1 → rB (g.2.1.2 j)) ∧ (g.2.2.1.1 ≤ 1 ∧ (g.2.2.1.1 = 1 → rB g.2.2.1.2)) ∧ (g.2.2.2.1.1 ≤ 60 ∧ ∀ j, j < g.2.2.2.1.1 → g.2.2.2.1.2 j < 65536) ∧
  (-1 ≤ g.2.2.2.2.1.1.toInt ∧ -1 ≤ g.2.2.2.2.1.2.toInt) ∧ (g.2.2.2.2.2.1 ≤ 32 ∧ ∀ j, j < g.2.2.2.2.2.1 → g.2.2.2.2.2.2 j < 65536)
/-- the reference's objects are untouched -/
def fC (M M' : sM) : Prop := ∀ k, 33 ≤ k → k < 46 → M' k = M k
/-- the class's objects are untouched -/
def fM (M M' : sM) : Prop := ∀ k, (k < 33 ∨ 46 ≤ k) → M' k = M k
/-- nothing of the class but its present state and its scratch is touched -/
def fP (M M' : sM) : Prop := ∀ k, (k < 3 ∨ 14 ≤ k) → (k < 46 ∨ 63 ≤ k) → M' k = M k
theorem fC_t {M M1 M2 : sM} (h : fC M M1) (h2 : fC M1 M2) : fC M M2 := fun k a b => (h2 k a b).trans (h k a b)
theorem fP_t {M M1 M2 : sM} (h : fP M M1) (h2 : fP M1 M2) : fP M M2 := fun k a b => (h2 k a b).trans (h k a b)
theorem fP_r (M : sM) : fP M M := fun _ _ _ => rfl
theorem fC_r (M : sM) : fC M M := fun _ _ _ => rfl
theorem fM_r (M : sM) : fM M M := fun _ _ => rfl
theorem fM_t {M M1 M2 : sM} (h : fM M M1) (h2 : fM M1 M2) : fM M M2 := fun k a => (h2 k a).trans (h k a)
theorem fP_C {M M' : sM} (h : fP M M') : fC M M' := fun k a b => h k (.inr (by omega)) (.inl b)
theorem fP_fr {M M' : sM} (h : fr (sw_st 0) (sw_st 0 + 17) M M') : fP M M' := fun k a b => h k (by unfold sw_st; omega)
theorem fP_fr0 {M M' : sM} {lo hi : Nat} (h : fr lo hi M M') (h1 : 3 ≤ lo) (h2 : hi ≤ 14) : fP M M' := fun k a b => h k (by omega)
theorem CI_tr {M M' : sM} {g : zG} (h : CI M g) (f : ∀ k, (k ≤ 1 ∨ k = 14 ∨ k = 15 ∨ k = 31 ∨ k = 32 ∨ 46 ≤ k) → M' k = M k) : CI M' g := by
  obtain ⟨h1, ⟨h2, s, h3, h4, h5⟩, h6, h7, h8, h9⟩ := h
  refine ⟨rS_fr h1 (fun b hb => f _ (by unfold sw_st; omega)), ⟨?_, s, h3, ?_, fun j hj => rS_fr (h5 j hj) (fun b hb => f _ (by unfold sw_st; omega))⟩, ⟨?_, fun z => rS_fr (h6.2 z) (fun b hb => f _ (by unfold sw_st; omega))⟩, ?_, ?_, ?_⟩
  · rw [f 1 (by decide)]; exact h2
  · rw [f 1 (by decide)]; exact h4
  · rw [f 0 (by decide)]; exact h6.1
  · rw [f 14 (by decide), f 15 (by decide)]; exact h7
  · rw [f 0 (by decide)]; exact h8
  · rw [f 31 (by decide), f 32 (by decide)]; exact h9
theorem CI_M {M M' : sM} {g : zG} (h : CI M g) (f : fM M M') : CI M' g := CI_tr h (fun k hk => f k (by omega))
theorem CI_s {M M' : sM} {g : zG} (h : CI M g) {lo hi : Nat} (f : fr lo hi M M') (h1 : 3 ≤ lo) (h2 : hi ≤ 14) : CI M' g := CI_tr h (fun k hk => f k (by omega))
theorem MI_tr {M M' : sM} {g : zG} (h : MI M g) (f : ∀ k, (k = 34 ∨ k = 36 ∨ k = 37 ∨ k = 43 ∨ k = 45) → M' k = M k) (f2 : ∀ j, (j = 3 ∨ j = 5 ∨ j = 13 ∨ j = 16 ∨ j = 17 ∨ j = 21) → M' 33 j = M 33 j) : MI M' g := by
  obtain ⟨h1, h2, h3, h4, h5, h6⟩ := h
  refine ⟨rM_fr h1 (f 34 (by decide)), ?_, ?_, ?_, ?_, ?_⟩
  · rw [f2 5 (by decide), f 37 (by decide)]; exact h2
  · rw [f2 3 (by decide), f 36 (by decide)]; exact h3
  · rw [f2 13 (by decide), f 43 (by decide)]; exact h4
  · rw [f2 16 (by decide), f2 17 (by decide)]; exact h5
  · rw [f2 21 (by decide), f 45 (by decide)]; exact h6
theorem MI_C {M M' : sM} {g : zG} (h : MI M g) (f : fC M M') : MI M' g := MI_tr h (fun k hk => f k (by omega) (by omega)) (fun j _ => congrFun (f 33 (by decide) (by decide)) j)
/-- a changing call that succeeds: the state before goes to the history -/
def zpush (g : zG) (a' : Nat → Nat) : zG := (a', (if g.2.1.1 = 8 then 8 else g.2.1.1 + 1, if g.2.1.1 = 8 then (fun j => if j = 7 then g.1 else g.2.1.2 (j + 1)) else (fun j => if j = g.2.1.1 then g.1 else g.2.1.2 j)), g.2.2)
def zchg (g : zG) (o : Nat × Nat × (Nat → Nat)) : zG := if o.1 = 0 then zpush g o.2.2 else g
theorem GI_push {g : zG} (h : GI g) {a' : Nat → Nat} (ha : rB a') : GI (zpush g a') := by
  obtain ⟨h1, ⟨h2, h3⟩, h4⟩ := h
  refine ⟨ha, ⟨?_, fun j hj => ?_⟩, h4⟩
  · show (if g.2.1.1 = 8 then 8 else g.2.1.1 + 1) ≤ 8
    split <;> omega
  · show rB ((if g.2.1.1 = 8 then (fun j => if j = 7 then g.1 else g.2.1.2 (j + 1)) else (fun j => if j = g.2.1.1 then g.1 else g.2.1.2 j)) j)
    have hj : j < (if g.2.1.1 = 8 then 8 else g.2.1.1 + 1) := hj
    by_cases c : g.2.1.1 = 8
    · rw [if_pos c] at hj ⊢
      show rB (if j = 7 then g.1 else g.2.1.2 (j + 1))
      split
      · exact h1
      · exact h3 _ (by omega)
    · rw [if_neg c] at hj ⊢
      show rB (if j = g.2.1.1 then g.1 else g.2.1.2 j)
      split
      · exact h1
      · exact h3 _ (by omega)
theorem GI_chg {g : zG} (h : GI g) {o : Nat × Nat × (Nat → Nat)} (ha : rB o.2.2) : GI (zchg g o) := by
  unfold zchg
  split
  · exact GI_push h ha
  · exact h
theorem c_prepare {M : sM} {g : zG} (hC : CI M g) (hG : GI g) {Q : sM → Prop} (h : ∀ M' f, f < 9 → M 1 1 = nI f → fr (sw_st (2 + f)) (sw_st (2 + f) + 17) M M' → rS M' (2 + f) g.1 → CI M' g → Q M') : wX0_prepare 0 M Q := by
  obtain ⟨h1, ⟨h2, s, h3, h4, h5⟩, h6⟩ := hC
  unfold wX0_prepare
  rw [h4, cl (by omega)]
  refine ⟨vin h3 (by decide), u5_copyFrom (by omega) h1 hG.1 (fun M' f1 f2 => h M' s h3 h4 f1 f2 ?_)⟩
  have hk := hG.2.1.1
  have e0 : ∀ k, k ≤ 79 → M' k = M k := fun k hk => f1 k (.inl (by unfold sw_st; omega))
  refine ⟨rS_fr h1 (fun b hb => e0 _ (by unfold sw_st; omega)), ⟨?_, s, h3, ?_, fun j hj => rS_fr (h5 j hj) (fun b hb => f1 _ (by unfold sw_st; omega))⟩, ⟨?_, fun z => rS_fr (h6.1.2 z) (fun b hb => e0 _ (by unfold sw_st; omega))⟩, ?_, ?_, ?_⟩
  · rw [e0 1 (by decide)]; exact h2
  · rw [e0 1 (by decide)]; exact h4
  · rw [e0 0 (by decide)]; exact h6.1.1
  · rw [e0 14 (by decide), e0 15 (by decide)]; exact h6.2.1
  · rw [e0 0 (by decide)]; exact h6.2.2.1
  · rw [e0 31 (by decide), e0 32 (by decide)]; exact h6.2.2.2
theorem rem9 {n : Nat} (h : n < 2 ^ 31) : nI n - nI n / (9 : Int32) * (9 : Int32) = nI (n % 9) := pk_rem (d := 9) h (by decide) (by decide)
/-- the slot that is free holds the state before: the step is kept -/
theorem c_commit {M M' : sM} {g : zG} {f : Nat} {a' : Nat → Nat} (hC : CI M g) (hG : GI g) (hf : f < 9) (hf1 : M 1 1 = nI f) (hs : rS M (2 + f) g.1) (hP : fP M M') (hS' : rS M' 0 a') {Q : sM → Prop} (h : ∀ M'', fC M' M'' → CI M'' (zpush g a') → (∀ k, k ≠ 1 → M'' k = M' k) → Q M'') : wX0_commit M' Q := by
  obtain ⟨h1, ⟨h2, s, h3, h4, h5⟩, h6⟩ := hC
  have hk := hG.2.1.1
  have es : s = f := by
    rw [h4] at hf1
    exact (nI_eq (by omega) (by omega)).mp hf1
  subst es
  unfold wX0_commit
  intro M1 e1 v2 e2 M3 e3
  have p1 : M' 1 = M 1 := hP 1 (by decide) (by decide)
  rw [p1, h4, ia1, rem9 (by omega)] at e1
  have q2 : M1 1 2 = nI g.2.1.1 := by rw [e1, ms_j _ _ _ (by decide), p1]; exact h2
  rw [q2, ia1] at e2
  have v2e : v2 = nI (if g.2.1.1 = 8 then 8 else g.2.1.1 + 1) := by
    rw [e2]
    by_cases c : g.2.1.1 = 8
    · rw [c, if_pos rfl, if_pos]; rfl
      exact nI_lt (a := 8) (by decide) (by decide)
    · rw [if_neg c, if_neg (nI_nlt (a := g.2.1.1 + 1) (b := 8) |> fun _ => ?_)]
      exact fun z => nI_nlt (a := 8) (b := g.2.1.1 + 1) (by omega) (by decide) z
  have n1 : ∀ k, k ≠ 1 → M3 k = M' k := fun k hk => by rw [e3, sw_ms_n _ _ _ hk, e1, sw_ms_n _ _ _ hk]
  have nb : ∀ k, (k < 3 ∨ 14 ≤ k) → (k < 46 ∨ 63 ≤ k) → k ≠ 1 → M3 k = M k := fun k a b c => (n1 k c).trans (hP k a b)
  refine h M3 (fun k a b => n1 k (by omega)) ?_ n1
  refine ⟨rS_fr hS' (fun b hb => n1 _ (by unfold sw_st; omega)), ⟨?_, (s + 1) % 9, by omega, ?_, fun j hj => ?_⟩, ⟨?_, fun z => rS_fr (h6.1.2 z) (fun b hb => nb _ (by unfold sw_st; omega) (by unfold sw_st; omega) (by unfold sw_st; omega))⟩, ?_, ?_, ?_⟩
  · rw [e3, ms_e, v2e]; rfl
  · rw [e3, ms_j _ _ _ (by decide), e1, ms_e]
  · have hj : j < (if g.2.1.1 = 8 then 8 else g.2.1.1 + 1) := hj
    show rS M3 (2 + ((s + 1) % 9 + 9 - (if g.2.1.1 = 8 then 8 else g.2.1.1 + 1) + j) % 9) ((if g.2.1.1 = 8 then (fun j => if j = 7 then g.1 else g.2.1.2 (j + 1)) else (fun j => if j = g.2.1.1 then g.1 else g.2.1.2 j)) j)
    by_cases c : g.2.1.1 = 8
    · rw [if_pos c] at hj
      rw [if_pos c, if_pos c]
      show rS M3 _ (if j = 7 then g.1 else g.2.1.2 (j + 1))
      by_cases w : j = 7
      · rw [if_pos w, show ((s + 1) % 9 + 9 - 8 + j) % 9 = s by omega]
        exact rS_fr hs (fun b hb => nb _ (by unfold sw_st; omega) (by unfold sw_st; omega) (by unfold sw_st; omega))
      · rw [if_neg w]
        have q := h5 (j + 1) (by omega)
        rw [show (s + 9 - g.2.1.1 + (j + 1)) % 9 = ((s + 1) % 9 + 9 - 8 + j) % 9 by omega] at q
        exact rS_fr q (fun b hb => nb _ (by unfold sw_st; omega) (by unfold sw_st; omega) (by unfold sw_st; omega))
    · rw [if_neg c] at hj
      rw [if_neg c, if_neg c]
      show rS M3 _ (if j = g.2.1.1 then g.1 else g.2.1.2 j)
      by_cases w : j = g.2.1.1
      · rw [if_pos w, show ((s + 1) % 9 + 9 - (g.2.1.1 + 1) + j) % 9 = s by omega]
        exact rS_fr hs (fun b hb => nb _ (by unfold sw_st; omega) (by unfold sw_st; omega) (by unfold sw_st; omega))
      · rw [if_neg w]
        have q := h5 j (by omega)
        rw [show (s + 9 - g.2.1.1 + j) % 9 = ((s + 1) % 9 + 9 - (g.2.1.1 + 1) + j) % 9 by omega] at q
        exact rS_fr q (fun b hb => nb _ (by unfold sw_st; omega) (by unfold sw_st; omega) (by unfold sw_st; omega))
  · rw [nb 0 (by decide) (by decide) (by decide)]; exact h6.1.1
  · rw [nb 14 (by decide) (by decide) (by decide), nb 15 (by decide) (by decide) (by decide)]; exact h6.2.1
  · rw [nb 0 (by decide) (by decide) (by decide)]; exact h6.2.2.1
  · rw [nb 31 (by decide) (by decide) (by decide), nb 32 (by decide) (by decide) (by decide)]; exact h6.2.2.2
theorem CI_P {M M' : sM} {g : zG} (hC : CI M g) (hP : fP M M') (hS : rS M' 0 g.1) : CI M' g := by
  obtain ⟨h1, ⟨h2, s, h3, h4, h5⟩, h6⟩ := hC
  refine ⟨hS, ⟨?_, s, h3, ?_, fun j hj => rS_fr (h5 j hj) (fun b hb => hP _ (by unfold sw_st; omega) (by unfold sw_st; omega))⟩, ⟨?_, fun z => rS_fr (h6.1.2 z) (fun b hb => hP _ (by unfold sw_st; omega) (by unfold sw_st; omega))⟩, ?_, ?_, ?_⟩
  · rw [hP 1 (by decide) (by decide)]; exact h2
  · rw [hP 1 (by decide) (by decide)]; exact h4
  · rw [hP 0 (by decide) (by decide)]; exact h6.1.1
  · rw [hP 14 (by decide) (by decide), hP 15 (by decide) (by decide)]; exact h6.2.1
  · rw [hP 0 (by decide) (by decide)]; exact h6.2.2.1
  · rw [hP 31 (by decide) (by decide), hP 32 (by decide) (by decide)]; exact h6.2.2.2
/-- a changing call of the class -/
theorem c_chg {M : sM} {g : zG} (hC : CI M g) (hG : GI g) (o : Nat × Nat × (Nat → Nat)) (r1 r2 r3 : Int32) (w : sM → (Int32 → sM → Prop) → Prop) (ho : o.1 ≠ 0 → o.2.2 = g.1) (hv : o.2.1 < 2 ^ 31)
    (hw : ∀ (M1 : sM) (R : Int32 → sM → Prop), rS M1 0 g.1 → (∀ M', fP M1 M' → rS M' 0 o.2.2 → R (zans r1 r2 r3 o) M') → w M1 R) {Q : Int32 → sM → Prop} {X : String → sM → Prop}
    (hQ : o.1 = 0 → ∀ M', fC M M' → CI M' (zpush g o.2.2) → Q (nI o.2.1) M') (hX : o.1 ≠ 0 → ∀ (M' : sM) (P : Prop), fC M M' → CI M' g → ¬ 0 ≤ zans r1 r2 r3 o ∧ wX6_refuse (zans r1 r2 r3 o) P (fun E => X E M')) : wX0_prepare 0 M (fun M1 => w M1 (fun r2 M3 => wX6_conclude r2 M3 Q X)) := by
  refine c_prepare hC hG (fun M1 f hf hf1 fr1 s1 C1 => hw M1 _ C1.1 (fun M2 P2 S2 => ?_))
  have F1 : fC M M1 := fun k a b => fr1 k (.inl (by unfold sw_st; omega))
  have hf2 : M1 1 1 = nI f := by rw [fr1 1 (.inl (by unfold sw_st; omega))]; exact hf1
  unfold wX6_conclude
  by_cases c : o.1 = 0
  · have e : zans r1 r2 r3 o = nI o.2.1 := if_pos c
    rw [e]
    exact brt (nI_pos' hv) (c_commit C1 hG hf hf2 s1 P2 S2 (fun M3 F3 C3 _ => hQ c M3 (fC_t (fC_t F1 (fP_C P2)) F3) C3))
  · rw [ho c] at S2
    have q := hX c M2 (wX0_commit M2 fun M3 => Q (zans r1 r2 r3 o) M3) (fC_t F1 (fP_C P2)) (CI_P C1 P2 S2)
    exact brf q.1 q.2
theorem rf4 {P : Prop} {X : String → Prop} (h : X "java/lang/UnsupportedOperationException") : wX6_refuse (-4) P X := brt rfl h
theorem rf3 {P : Prop} {X : String → Prop} (h : X "java/lang/IllegalStateException") : wX6_refuse (-3) P X := brf (by decide) (brt rfl h)
theorem rf2 {P : Prop} {X : String → Prop} (h : X "java/lang/IllegalArgumentException") : wX6_refuse (-2) P X := brf (by decide) (brf (by decide) (brt rfl h))
theorem rf1 {P : Prop} {X : String → Prop} (h : X "java/lang/IndexOutOfBoundsException") : wX6_refuse (-1) P X := brf (by decide) (brf (by decide) (brf (by decide) (brt rfl h)))
theorem rf5 {P : Prop} {X : String → Prop} (h : X "java/util/NoSuchElementException") : wX6_refuse (-5) P X := brf (by decide) (brf (by decide) (brf (by decide) (brf (by decide) h)))
/-! the reference's side -/
theorem i228 : ((228 : Int32)).toNatClampNeg = 228 := rfl
theorem i1596 : ((1596 : Int32)).toNatClampNeg = 1596 := rfl
theorem n228 : ¬ (228 : Int32) < 0 := by decide
theorem n1596 : ¬ (1596 : Int32) < 0 := by decide
theorem n00 : ¬ (0 : Int32) < 0 := by decide
theorem ma_e (M : sM) (k : Nat) (f : Nat → Int32) : sw_ma M k f k = f := if_pos rfl
theorem ma_n (M : sM) {k q : Nat} (f : Nat → Int32) (h : q ≠ k) : sw_ma M k f q = M q := if_neg h
theorem m_keep {M : sM} {a : Nat → Nat} (hM : rM M a) {Q : sM → Prop} (h : ∀ M', rM M' a → M' 33 6 = 0 → (∀ q, q < 228 → M' 35 q = nI (a q)) → (∀ k, k ≠ 33 → k ≠ 35 → M' k = M k) → (∀ j, j ≠ 6 → M' 33 j = M 33 j) → Q M') : wX7_keep M Q := by
  unfold wX7_keep
  intro M1 e1
  refine ⟨⟨n00, n00, n228, by rw [c0, i228]; decide, by rw [c0, i228]; decide⟩, ?_⟩
  intro M2 e2
  have R1 : rM M1 a := rM_fr hM (by rw [e1, sw_ms_n _ _ _ (by decide)])
  have n2 : ∀ k, k ≠ 33 → k ≠ 35 → M2 k = M k := fun k h1 h2 => by rw [e2, ma_n _ _ h2, e1, sw_ms_n _ _ _ h1]
  refine h M2 (rM_fr hM (n2 34 (by decide) (by decide))) ?_ (fun q hq => ?_) n2 (fun j hj => ?_)
  · rw [e2, ma_n _ _ (by decide), e1, ms_e]
  · rw [e2, ma_e, c0, i228, pk_cpy_in (by omega) (by omega), Nat.zero_add, Nat.sub_zero]
    exact R1 q hq
  · rw [e2, ma_n _ _ (by decide), e1, ms_j _ _ _ hj]
/-- the end of a changing call of the reference -/
theorem m_ends {M M1 M' : sM} {g : zG} (hM : MI M g) (hG : GI g) {o : Nat × Nat × (Nat → Nat)} (hc : o.1 < 2 ^ 31) (hb : ∀ q, q < 228 → M1 35 q = nI (g.1 q)) (hn : ∀ k, k ≠ 33 → k ≠ 34 → k ≠ 35 → (k < 38 ∨ k = 43 ∨ 45 ≤ k) → M1 k = M k) (hn2 : ∀ j, (j = 3 ∨ j = 5 ∨ j = 13 ∨ j = 16 ∨ j = 17 ∨ j = 21) → M1 33 j = M 33 j) (hd : fd M1 M') (hR : rM M' o.2.2) (ht : M' 33 6 = nI o.1) (r : Int32) {Q : Int32 → sM → Prop}
    (h : ∀ M'', fM M M'' → M'' 33 6 = nI o.1 → MI M'' (zchg g o) → Q (if o.1 = 0 then r else 0) M'') : wX7_ends r M' Q := by
  obtain ⟨h1, ⟨h2, h3⟩, h4, h5, h6, h7⟩ := hM
  have hk := hG.2.1.1
  have p5 : M' 33 5 = nI g.2.1.1 := by rw [hd.2 5 (by decide), hn2 5 (by decide)]; exact h2
  have p37 : M' 37 = M 37 := by rw [hd.1 37 (by decide) (by decide) (by decide), hn 37 (by decide) (by decide) (by decide) (by decide)]
  have p35 : ∀ q, q < 228 → M' 35 q = nI (g.1 q) := fun q hq => by rw [hd.1 35 (by decide) (by decide) (by decide)]; exact hb q hq
  have rest : ∀ M'', (∀ k, k ≠ 33 → k ≠ 34 → k ≠ 37 → M'' k = M' k) → (∀ j, j ≠ 5 → M'' 33 j = M' 33 j) → ∀ g' : zG, g'.2.2 = g.2.2 → rM M'' g'.1 → (M'' 33 5 = nI g'.2.1.1 ∧ ∀ j q, j < g'.2.1.1 → q < 228 → M'' 37 (228 * j + q) = nI (g'.2.1.2 j q)) → fM M M'' ∧ MI M'' g' := by
    intro M'' f1 f2 g' eg r1 r2
    refine ⟨fun k hk => ?_, r1, r2, ?_, ?_, ?_, ?_⟩
    · rw [f1 k (by omega) (by omega) (by omega), hd.1 k (by omega) (by omega) (by omega), hn k (by omega) (by omega) (by omega) (by omega)]
    · rw [eg, f2 3 (by decide), hd.2 3 (by decide), hn2 3 (by decide), f1 36 (by decide) (by decide) (by decide), hd.1 36 (by decide) (by decide) (by decide), hn 36 (by decide) (by decide) (by decide) (by decide)]; exact h4
    · rw [eg, f2 13 (by decide), hd.2 13 (by decide), hn2 13 (by decide), f1 43 (by decide) (by decide) (by decide), hd.1 43 (by decide) (by decide) (by decide), hn 43 (by decide) (by decide) (by decide) (by decide)]; exact h5
    · rw [eg, f2 16 (by decide), hd.2 16 (by decide), hn2 16 (by decide), f2 17 (by decide), hd.2 17 (by decide), hn2 17 (by decide)]; exact h6
    · rw [eg, f2 21 (by decide), hd.2 21 (by decide), hn2 21 (by decide), f1 45 (by decide) (by decide) (by decide), hd.1 45 (by decide) (by decide) (by decide), hn 45 (by decide) (by decide) (by decide) (by decide)]; exact h7
  unfold wX7_ends
  rw [ht]
  by_cases c : o.1 = 0
  · have hch : zchg g o = zpush g o.2.2 := if_pos c
    rw [hch, if_pos c] at h
    rw [c]
    refine brt (nI_le (a := 0) (b := 0) (Nat.le_refl _) (by decide)) ?_
    have tail : ∀ (K : Nat) (A : sM) (p : Nat → Nat → Nat), K < 8 → (∀ k, k ≠ 33 → k ≠ 37 → A k = M' k) → (∀ j, j ≠ 5 → A 33 j = M' 33 j) → A 33 5 = nI K → (∀ j q, j < K → q < 228 → A 37 (228 * j + q) = nI (p j q)) → (zpush g o.2.2).2.1.1 = K + 1 → (∀ j q, j < K → (zpush g o.2.2).2.1.2 j q = p j q) → (zpush g o.2.2).2.1.2 K = g.1 → jX7_ends_62 r Q A := by
      intro K A p hK f1 f2 f3 f4 k1 k2 k3
      unfold jX7_ends_62
      have e5 : (228 : Int32) * nI K = nI (228 * K) := pk_mul 228 K
      rw [f3, e5]
      refine ⟨⟨n00, nI_pos (by omega), n228, by rw [c0, i228]; decide, by rw [cl (by omega), i228]; omega⟩, ?_⟩
      intro M2 e2 M3 e3
      rw [c0, cl (by omega), i228] at e2
      have q5 : M2 33 5 = nI K := by rw [e2, ma_n _ _ (by decide)]; exact f3
      rw [q5, ia1] at e3
      have z := rest M3 (fun k a b d => by rw [e3, sw_ms_n _ _ _ a, e2, ma_n _ _ d, f1 k a d]) (fun j hj => by rw [e3, ms_j _ _ _ hj, e2, ma_n _ _ (by decide), f2 j hj]) (zpush g o.2.2) rfl ?_ ⟨?_, fun j q hj hq => ?_⟩
      · refine h M3 z.1 ?_ z.2
        rw [e3, ms_j _ _ _ (by decide), e2, ma_n _ _ (by decide), f2 6 (by decide)]; exact ht
      · refine rM_fr hR ?_
        rw [e3, sw_ms_n _ _ _ (by decide), e2, ma_n _ _ (by decide), f1 34 (by decide) (by decide)]
      · rw [e3, ms_e, k1]
      · rw [e3, sw_ms_n _ _ _ (by decide), e2, ma_e]
        rw [k1] at hj
        by_cases w : j = K
        · subst w
          rw [pk_cpy_in (by omega) (by omega), k3, f1 35 (by decide) (by decide), show 0 + (228 * j + q - 228 * j) = q by omega]
          exact p35 q hq
        · rw [pk_cpy_out (by omega), k2 j q (by omega)]
          exact f4 j q (by omega) hq
    refine bri (c := M' 33 5 = (8 : Int32)) (d := g.2.1.1 = 8) (by rw [p5]; exact nI_eq (b := 8) (by omega) (by decide)) (fun c8 => ?_) (fun c8 => ?_)
    · refine ⟨⟨n228, n00, n1596, by rw [i1596, i228]; decide, by rw [c0, i1596]; decide⟩, ?_⟩
      intro M6 e6 M7 e7
      rw [i228, c0, i1596] at e6
      have q5 : M6 33 5 = nI 8 := by rw [e6, ma_n _ _ (by decide), p5, c8]
      rw [q5] at e7
      have pu : (zpush g o.2.2).2.1 = (8, fun j => if j = 7 then g.1 else g.2.1.2 (j + 1)) := by unfold zpush; rw [if_pos c8, if_pos c8]
      refine tail 7 M7 (fun j => g.2.1.2 (j + 1)) (by decide) (fun k a b => by rw [e7, sw_ms_n _ _ _ a, e6, ma_n _ _ b]) (fun j hj => by rw [e7, ms_j _ _ _ hj, e6, ma_n _ _ (by decide)]) (by rw [e7, ms_e]; rfl) (fun j q hj hq => ?_) (by rw [pu]) (fun j q hj => by rw [pu]; show (if j = 7 then g.1 else g.2.1.2 (j + 1)) q = _; rw [if_neg (by omega)]) (by rw [pu]; rfl)
      rw [e7, sw_ms_n _ _ _ (by decide), e6, ma_e, pk_cpy_in (by omega) (by omega), p37, show 228 + (228 * j + q - 0) = 228 * (j + 1) + q by omega]
      exact h3 (j + 1) q (by omega) hq
    · have pu : (zpush g o.2.2).2.1 = (g.2.1.1 + 1, fun j => if j = g.2.1.1 then g.1 else g.2.1.2 j) := by unfold zpush; rw [if_neg c8, if_neg c8]
      exact tail g.2.1.1 M' g.2.1.2 (by omega) (fun _ _ _ => rfl) (fun _ _ => rfl) p5 (fun j q hj hq => by rw [p37]; exact h3 j q hj hq) (by rw [pu]) (fun j q hj => by rw [pu]; show (if j = g.2.1.1 then g.1 else g.2.1.2 j) q = _; rw [if_neg (by omega)]) (by rw [pu]; show (if g.2.1.1 = g.2.1.1 then g.1 else g.2.1.2 g.2.1.1) = g.1; exact if_pos rfl)
  · have hch : zchg g o = g := if_neg c
    rw [hch, if_neg c] at h
    refine brf (nI_nle (by omega) hc) ⟨⟨n00, n00, n228, by rw [c0, i228]; decide, by rw [c0, i228]; decide⟩, ?_⟩
    intro M9 e9
    rw [c0, i228] at e9
    have z := rest M9 (fun k a b d => by rw [e9, ma_n _ _ b]) (fun j hj => by rw [e9, ma_n _ _ (by decide)]) g rfl (fun q hq => ?_) ⟨?_, fun j q hj hq => ?_⟩
    · refine h M9 z.1 ?_ z.2
      rw [e9, ma_n _ _ (by decide)]; exact ht
    · rw [e9, ma_e, pk_cpy_in (by omega) (by omega), Nat.zero_add, Nat.sub_zero]
      exact p35 q hq
    · rw [e9, ma_n _ _ (by decide)]; exact p5
    · rw [e9, ma_n _ _ (by decide), p37]; exact h3 j q hj hq
/-- a changing call of the reference -/
theorem m_chg {M : sM} {g : zG} (hM : MI M g) (hG : GI g) (o : Nat × Nat × (Nat → Nat)) (hc : o.1 < 2 ^ 31) (w : sM → (Int32 → sM → Prop) → Prop) (hw : ∀ (M1 : sM) (R : Int32 → sM → Prop), rM M1 g.1 → M1 33 6 = 0 → zK o M1 R → w M1 R) {Q : Int32 → sM → Prop}
    (h : ∀ M' r, fM M M' → M' 33 6 = nI o.1 → (o.1 = 0 → r = nI o.2.1) → MI M' (zchg g o) → Q r M') : wX7_keep M (fun M1 => w M1 (fun r2 M3 => wX7_ends r2 M3 Q)) := by
  refine m_keep hM.1 (fun M1 R1 t1 b1 n1 n2 => hw M1 _ R1 t1 (fun M2 d2 R2 t2 => ?_))
  refine m_ends hM hG hc b1 (fun k a b c d => n1 k a c) (fun j hj => n2 j (by omega)) d2 R2 t2 _ (fun M3 f3 t3 I3 => h M3 _ f3 t3 (fun z => if_pos z) I3)
