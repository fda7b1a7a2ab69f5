/-! The whole picture of both sides: present, history, saved, text, errors, line. -/
abbrev zG : Type := (Nat → Nat) × (Nat × (Nat → Nat → Nat)) × (Nat × (Nat → Nat)) × (Nat × (Nat → Nat)) × (Int32 × Int32) × (Nat × (Nat → Nat))
def CI (M : sM) (g : zG) : Prop :=
  rS M 0 g.1 ∧ (M 1 2 = nI g.2.1.1 ∧ ∃ f, f < 9 ∧ M 1 1 = nI f ∧ ∀ j, j < g.2.1.1 → rS M (2 + (f + 9 - g.2.1.1 + j) % 9) (g.2.1.2 j)) ∧
  (M 0 2 = nI g.2.2.1.1 ∧ (g.2.2.1.1 = 1 → rS M 1 g.2.2.1.2)) ∧ (M 14 1 = nI g.2.2.2.1.1 ∧ ∀ j, j < g.2.2.2.1.1 → M 15 j = nI (g.2.2.2.1.2 j)) ∧
  (M 0 8 = g.2.2.2.2.1.1 ∧ M 0 9 = g.2.2.2.2.1.2) ∧ (M 31 1 = nI g.2.2.2.2.2.1 ∧ ∀ j, j < g.2.2.2.2.2.1 → M 32 j = nI (g.2.2.2.2.2.2 j))
def GI (g : zG) : Prop :=
  rB g.1 ∧ (g.2.1.1 ≤ 8 ∧ ∀ j, j < g.2.1.1 → rB (g.2.1.2 j)) ∧ (g.2.2.1.1 ≤ 1 ∧ (g.2.2.1.1 = 1 → rB g.2.2.1.2)) ∧ (g.2.2.2.1.1 ≤ 60 ∧ ∀ j, j < g.2.2.2.1.1 → g.2.2.2.1.2 j < 65536) ∧
  (-1 ≤ g.2.2.2.2.1.1.toInt ∧ -1 ≤ g.2.2.2.2.1.2.toInt) ∧ (g.2.2.2.2.2.1 ≤ 32 ∧ ∀ j, j < g.2.2.2.2.2.1 → g.2.2.2.2.2.2 j < 65536)
/-- the reference's objects are untouched -/
def fC (M M' : sM) : Prop := ∀ k, 33 ≤ k → k < 46 → M' k = M k
/-- nothing of the class but its present state and its scratch is touched -/
def fP (M M' : sM) : Prop := ∀ k, (k < 3 ∨ 14 ≤ k) → (k < 46 ∨ 63 ≤ k) → M' k = M k
theorem fC_t {M M1 M2 : sM} (h : fC M M1) (h2 : fC M1 M2) : fC M M2 := fun k a b => (h2 k a b).trans (h k a b)
theorem fP_t {M M1 M2 : sM} (h : fP M M1) (h2 : fP M1 M2) : fP M M2 := fun k a b => (h2 k a b).trans (h k a b)
theorem fP_r (M : sM) : fP M M := fun _ _ _ => rfl
theorem fC_r (M : sM) : fC M M := fun _ _ _ => rfl
theorem fP_C {M M' : sM} (h : fP M M') : fC M M' := fun k a b => h k (.inr (by omega)) (.inl b)
theorem fP_fr {M M' : sM} (h : fr (sw_st 0) (sw_st 0 + 17) M M') : fP M M' := fun k a b => h k (by unfold sw_st; omega)
theorem fP_fr0 {M M' : sM} {lo hi : Nat} (h : fr lo hi M M') (h1 : 3 ≤ lo) (h2 : hi ≤ 14) : fP M M' := fun k a b => h k (by omega)
theorem CI_tr {M M' : sM} {g : zG} (h : CI M g) (f : ∀ k, (k ≤ 1 ∨ k = 14 ∨ k = 15 ∨ k = 31 ∨ k = 32 ∨ 46 ≤ k) → M' k = M k) : CI M' g := by
  obtain ⟨h1, ⟨h2, s, h3, h4, h5⟩, h6, h7, h8, h9⟩ := h
  refine ⟨rS_fr h1 (fun b hb => f _ (by unfold sw_st; omega)), ⟨?_, s, h3, ?_, fun j hj => rS_fr (h5 j hj) (fun b hb => f _ (by unfold sw_st; omega))⟩, ⟨?_, fun z => rS_fr (h6.2 z) (fun b hb => f _ (by unfold sw_st; omega))⟩, ?_, ?_, ?_⟩
  · rw [f 1 (by decide)]; exact h2
  · rw [f 1 (by decide)]; exact h4
  · rw [f 0 (by decide)]; exact h6.1
  · rw [f 14 (by decide), f 15 (by decide)]; exact h7
  · rw [f 0 (by decide)]; exact h8
  · rw [f 31 (by decide), f 32 (by decide)]; exact h9
theorem CI_s {M M' : sM} {g : zG} (h : CI M g) {lo hi : Nat} (f : fr lo hi M M') (h1 : 3 ≤ lo) (h2 : hi ≤ 14) : CI M' g := CI_tr h (fun k hk => f k (by omega))
/-- a changing call that succeeds: the state before goes to the history -/
def zpush (g : zG) (a' : Nat → Nat) : zG := (a', (if g.2.1.1 = 8 then 8 else g.2.1.1 + 1, if g.2.1.1 = 8 then (fun j => if j = 7 then g.1 else g.2.1.2 (j + 1)) else (fun j => if j = g.2.1.1 then g.1 else g.2.1.2 j)), g.2.2)
def zchg (g : zG) (o : Nat × Nat × (Nat → Nat)) : zG := if o.1 = 0 then zpush g o.2.2 else g
theorem GI_push {g : zG} (h : GI g) {a' : Nat → Nat} (ha : rB a') : GI (zpush g a') := by
  obtain ⟨h1, ⟨h2, h3⟩, h4⟩ := h
  refine ⟨ha, ⟨?_, fun j hj => ?_⟩, h4⟩
  · show (if g.2.1.1 = 8 then 8 else g.2.1.1 + 1) ≤ 8
    split <;> omega
  · show rB ((if g.2.1.1 = 8 then (fun j => if j = 7 then g.1 else g.2.1.2 (j + 1)) else (fun j => if j = g.2.1.1 then g.1 else g.2.1.2 j)) j)
    have hj : j < (if g.2.1.1 = 8 then 8 else g.2.1.1 + 1) := hj
    by_cases c : g.2.1.1 = 8
    · rw [if_pos c] at hj ⊢
      show rB (if j = 7 then g.1 else g.2.1.2 (j + 1))
      split
      · exact h1
      · exact h3 _ (by omega)
    · rw [if_neg c] at hj ⊢
      show rB (if j = g.2.1.1 then g.1 else g.2.1.2 j)
      split
      · exact h1
      · exact h3 _ (by omega)
theorem GI_chg {g : zG} (h : GI g) {o : Nat × Nat × (Nat → Nat)} (ha : rB o.2.2) : GI (zchg g o) := by
  unfold zchg
  split
  · exact GI_push h ha
  · exact h
theorem c_prepare {M : sM} {g : zG} (hC : CI M g) (hG : GI g) {Q : sM → Prop} (h : ∀ M' f, f < 9 → M 1 1 = nI f → fr (sw_st (2 + f)) (sw_st (2 + f) + 17) M M' → rS M' (2 + f) g.1 → CI M' g → Q M') : wX0_prepare 0 M Q := by
  obtain ⟨h1, ⟨h2, s, h3, h4, h5⟩, h6⟩ := hC
  unfold wX0_prepare
  rw [h4, cl (by omega)]
  refine ⟨vin h3 (by decide), u5_copyFrom (by omega) h1 hG.1 (fun M' f1 f2 => h M' s h3 h4 f1 f2 ?_)⟩
  have hk := hG.2.1.1
  have e0 : ∀ k, k ≤ 79 → M' k = M k := fun k hk => f1 k (.inl (by unfold sw_st; omega))
  refine ⟨rS_fr h1 (fun b hb => e0 _ (by unfold sw_st; omega)), ⟨?_, s, h3, ?_, fun j hj => rS_fr (h5 j hj) (fun b hb => f1 _ (by unfold sw_st; omega))⟩, ⟨?_, fun z => rS_fr (h6.1.2 z) (fun b hb => e0 _ (by unfold sw_st; omega))⟩, ?_, ?_, ?_⟩
  · rw [e0 1 (by decide)]; exact h2
  · rw [e0 1 (by decide)]; exact h4
  · rw [e0 0 (by decide)]; exact h6.1.1
  · rw [e0 14 (by decide), e0 15 (by decide)]; exact h6.2.1
  · rw [e0 0 (by decide)]; exact h6.2.2.1
  · rw [e0 31 (by decide), e0 32 (by decide)]; exact h6.2.2.2
theorem rem9 {n : Nat} (h : n < 2 ^ 31) : nI n - nI n / (9 : Int32) * (9 : Int32) = nI (n % 9) := pk_rem (d := 9) h (by decide) (by decide)
/-- the slot that is free holds the state before: the step is kept -/
theorem c_commit {M M' : sM} {g : zG} {f : Nat} {a' : Nat → Nat} (hC : CI M g) (hG : GI g) (hf : f < 9) (hf1 : M 1 1 = nI f) (hs : rS M (2 + f) g.1) (hP : fP M M') (hS' : rS M' 0 a') {Q : sM → Prop} (h : ∀ M'', fC M' M'' → CI M'' (zpush g a') → (∀ k, k ≠ 1 → M'' k = M' k) → Q M'') : wX0_commit M' Q := by
  obtain ⟨h1, ⟨h2, s, h3, h4, h5⟩, h6⟩ := hC
  have hk := hG.2.1.1
  have es : s = f := by
    rw [h4] at hf1
    exact (nI_eq (by omega) (by omega)).mp hf1
  subst es
  unfold wX0_commit
  intro M1 e1 v2 e2 M3 e3
  have p1 : M' 1 = M 1 := hP 1 (by decide) (by decide)
  rw [p1, h4, ia1, rem9 (by omega)] at e1
  have q2 : M1 1 2 = nI g.2.1.1 := by rw [e1, ms_j _ _ _ (by decide), p1]; exact h2
  rw [q2, ia1] at e2
  have v2e : v2 = nI (if g.2.1.1 = 8 then 8 else g.2.1.1 + 1) := by
    rw [e2]
    by_cases c : g.2.1.1 = 8
    · rw [c, if_pos rfl, if_pos]; rfl
      exact nI_lt (a := 8) (by decide) (by decide)
    · rw [if_neg c, if_neg (nI_nlt (a := g.2.1.1 + 1) (b := 8) |> fun _ => ?_)]
      exact fun z => nI_nlt (a := 8) (b := g.2.1.1 + 1) (by omega) (by decide) z
  have n1 : ∀ k, k ≠ 1 → M3 k = M' k := fun k hk => by rw [e3, sw_ms_n _ _ _ hk, e1, sw_ms_n _ _ _ hk]
  have nb : ∀ k, (k < 3 ∨ 14 ≤ k) → (k < 46 ∨ 63 ≤ k) → k ≠ 1 → M3 k = M k := fun k a b c => (n1 k c).trans (hP k a b)
  refine h M3 (fun k a b => n1 k (by omega)) ?_ n1
  refine ⟨rS_fr hS' (fun b hb => n1 _ (by unfold sw_st; omega)), ⟨?_, (s + 1) % 9, by omega, ?_, fun j hj => ?_⟩, ⟨?_, fun z => rS_fr (h6.1.2 z) (fun b hb => nb _ (by unfold sw_st; omega) (by unfold sw_st; omega) (by unfold sw_st; omega))⟩, ?_, ?_, ?_⟩
  · rw [e3, ms_e, v2e]; rfl
  · rw [e3, ms_j _ _ _ (by decide), e1, ms_e]
  · have hj : j < (if g.2.1.1 = 8 then 8 else g.2.1.1 + 1) := hj
    show rS M3 (2 + ((s + 1) % 9 + 9 - (if g.2.1.1 = 8 then 8 else g.2.1.1 + 1) + j) % 9) ((if g.2.1.1 = 8 then (fun j => if j = 7 then g.1 else g.2.1.2 (j + 1)) else (fun j => if j = g.2.1.1 then g.1 else g.2.1.2 j)) j)
    by_cases c : g.2.1.1 = 8
    · rw [if_pos c] at hj
      rw [if_pos c, if_pos c]
      show rS M3 _ (if j = 7 then g.1 else g.2.1.2 (j + 1))
      by_cases w : j = 7
      · rw [if_pos w, show ((s + 1) % 9 + 9 - 8 + j) % 9 = s by omega]
        exact rS_fr hs (fun b hb => nb _ (by unfold sw_st; omega) (by unfold sw_st; omega) (by unfold sw_st; omega))
      · rw [if_neg w]
        have q := h5 (j + 1) (by omega)
        rw [show (s + 9 - g.2.1.1 + (j + 1)) % 9 = ((s + 1) % 9 + 9 - 8 + j) % 9 by omega] at q
        exact rS_fr q (fun b hb => nb _ (by unfold sw_st; omega) (by unfold sw_st; omega) (by unfold sw_st; omega))
    · rw [if_neg c] at hj
      rw [if_neg c, if_neg c]
      show rS M3 _ (if j = g.2.1.1 then g.1 else g.2.1.2 j)
      by_cases w : j = g.2.1.1
      · rw [if_pos w, show ((s + 1) % 9 + 9 - (g.2.1.1 + 1) + j) % 9 = s by omega]
        exact rS_fr hs (fun b hb => nb _ (by unfold sw_st; omega) (by unfold sw_st; omega) (by unfold sw_st; omega))
      · rw [if_neg w]
        have q := h5 j (by omega)
        rw [show (s + 9 - g.2.1.1 + j) % 9 = ((s + 1) % 9 + 9 - (g.2.1.1 + 1) + j) % 9 by omega] at q
        exact rS_fr q (fun b hb => nb _ (by unfold sw_st; omega) (by unfold sw_st; omega) (by unfold sw_st; omega))
  · rw [nb 0 (by decide) (by decide) (by decide)]; exact h6.1.1
  · rw [nb 14 (by decide) (by decide) (by decide), nb 15 (by decide) (by decide) (by decide)]; exact h6.2.1
  · rw [nb 0 (by decide) (by decide) (by decide)]; exact h6.2.2.1
  · rw [nb 31 (by decide) (by decide) (by decide), nb 32 (by decide) (by decide) (by decide)]; exact h6.2.2.2
theorem CI_P {M M' : sM} {g : zG} (hC : CI M g) (hP : fP M M') (hS : rS M' 0 g.1) : CI M' g := by
  obtain ⟨h1, ⟨h2, s, h3, h4, h5⟩, h6⟩ := hC
  refine ⟨hS, ⟨?_, s, h3, ?_, fun j hj => rS_fr (h5 j hj) (fun b hb => hP _ (by unfold sw_st; omega) (by unfold sw_st; omega))⟩, ⟨?_, fun z => rS_fr (h6.1.2 z) (fun b hb => hP _ (by unfold sw_st; omega) (by unfold sw_st; omega))⟩, ?_, ?_, ?_⟩
  · rw [hP 1 (by decide) (by decide)]; exact h2
  · rw [hP 1 (by decide) (by decide)]; exact h4
  · rw [hP 0 (by decide) (by decide)]; exact h6.1.1
  · rw [hP 14 (by decide) (by decide), hP 15 (by decide) (by decide)]; exact h6.2.1
  · rw [hP 0 (by decide) (by decide)]; exact h6.2.2.1
  · rw [hP 31 (by decide) (by decide), hP 32 (by decide) (by decide)]; exact h6.2.2.2
/-- a changing call of the class -/
theorem c_chg {M : sM} {g : zG} (hC : CI M g) (hG : GI g) (o : Nat × Nat × (Nat → Nat)) (r1 r2 r3 : Int32) (w : sM → (Int32 → sM → Prop) → Prop) (ho : o.1 ≠ 0 → o.2.2 = g.1) (hv : o.2.1 < 2 ^ 31)
    (hw : ∀ (M1 : sM) (R : Int32 → sM → Prop), rS M1 0 g.1 → (∀ M', fP M1 M' → rS M' 0 o.2.2 → R (zans r1 r2 r3 o) M') → w M1 R) {Q : Int32 → sM → Prop} {X : String → sM → Prop}
    (hQ : o.1 = 0 → ∀ M', fC M M' → CI M' (zpush g o.2.2) → Q (nI o.2.1) M') (hX : o.1 ≠ 0 → ∀ (M' : sM) (P : Prop), fC M M' → CI M' g → ¬ 0 ≤ zans r1 r2 r3 o ∧ wX6_refuse (zans r1 r2 r3 o) P (fun E => X E M')) : wX0_prepare 0 M (fun M1 => w M1 (fun r2 M3 => wX6_conclude r2 M3 Q X)) := by
  refine c_prepare hC hG (fun M1 f hf hf1 fr1 s1 C1 => hw M1 _ C1.1 (fun M2 P2 S2 => ?_))
  have F1 : fC M M1 := fun k a b => fr1 k (.inl (by unfold sw_st; omega))
  have hf2 : M1 1 1 = nI f := by rw [fr1 1 (.inl (by unfold sw_st; omega))]; exact hf1
  unfold wX6_conclude
  by_cases c : o.1 = 0
  · have e : zans r1 r2 r3 o = nI o.2.1 := if_pos c
    rw [e]
    exact brt (nI_pos' hv) (c_commit C1 hG hf hf2 s1 P2 S2 (fun M3 F3 C3 _ => hQ c M3 (fC_t (fC_t F1 (fP_C P2)) F3) C3))
  · rw [ho c] at S2
    have q := hX c M2 (wX0_commit M2 fun M3 => Q (zans r1 r2 r3 o) M3) (fC_t F1 (fP_C P2)) (CI_P C1 P2 S2)
    exact brf q.1 q.2
theorem rf4 {P : Prop} {X : String → Prop} (h : X "java/lang/UnsupportedOperationException") : wX6_refuse (-4) P X := brt rfl h
theorem rf3 {P : Prop} {X : String → Prop} (h : X "java/lang/IllegalStateException") : wX6_refuse (-3) P X := brf (by decide) (brt rfl h)
theorem rf2 {P : Prop} {X : String → Prop} (h : X "java/lang/IllegalArgumentException") : wX6_refuse (-2) P X := brf (by decide) (brf (by decide) (brt rfl h))
theorem rf1 {P : Prop} {X : String → Prop} (h : X "java/lang/IndexOutOfBoundsException") : wX6_refuse (-1) P X := brf (by decide) (brf (by decide) (brf (by decide) (brt rfl h)))
theorem rf5 {P : Prop} {X : String → Prop} (h : X "java/util/NoSuchElementException") : wX6_refuse (-5) P X := brf (by decide) (brf (by decide) (brf (by decide) (brf (by decide) h)))
/-! the reference's side -/
theorem i228 : ((228 : Int32)).toNatClampNeg = 228 := rfl
theorem i1596 : ((1596 : Int32)).toNatClampNeg = 1596 := rfl
theorem n228 : ¬ (228 : Int32) < 0 := by decide
theorem n1596 : ¬ (1596 : Int32) < 0 := by decide
theorem n00 : ¬ (0 : Int32) < 0 := by decide
theorem ma_e (M : sM) (k : Nat) (f : Nat → Int32) : sw_ma M k f k = f := if_pos rfl
theorem ma_n (M : sM) {k q : Nat} (f : Nat → Int32) (h : q ≠ k) : sw_ma M k f q = M q := if_neg h
