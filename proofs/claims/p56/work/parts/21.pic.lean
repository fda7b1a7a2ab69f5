/-! The picture of a memory: a row `a` of 228 numbers is a state of the academy (the reference's own row). -/
def zd (a : Nat → Nat) (k w : Nat) : Nat := a (4 + 5 * k + w)
def zx (a : Nat → Nat) (x w : Nat) : Nat := a (44 + 4 * x + w)
def zp (a : Nat → Nat) (x k w : Nat) : Nat := a (68 + 3 * (8 * x + k) + w)
def ze (a : Nat → Nat) (n w : Nat) : Nat := a (212 + 2 * n + w)
def zu (a : Nat → Nat) (j v : Nat) : Nat → Nat := fun q => if q = j then v else a q
theorem zu_t (a : Nat → Nat) (j v : Nat) : zu a j v j = v := if_pos rfl
theorem zu_f (a : Nat → Nat) {j q : Nat} (v : Nat) (h : q ≠ j) : zu a j v q = a q := if_neg h
theorem zd_d (a : Nat → Nat) {k w k2 w2 : Nat} (v : Nat) (hw : w < 5) (hw2 : w2 < 5) : zd (zu a (4 + 5 * k2 + w2) v) k w = if k = k2 ∧ w = w2 then v else zd a k w := by
  unfold zd zu
  by_cases h : k = k2 ∧ w = w2
  · obtain ⟨rfl, rfl⟩ := h
    rw [if_pos rfl, if_pos ⟨rfl, rfl⟩]
  · rw [if_neg (by omega), if_neg h]
theorem zd_o (a : Nat → Nat) {k w j : Nat} (v : Nat) (hk : k < 8) (hw : w < 5) (hj : j < 4 ∨ 44 ≤ j) : zd (zu a j v) k w = zd a k w := by
  unfold zd zu
  rw [if_neg (by omega)]
theorem zx_x (a : Nat → Nat) {k w k2 w2 : Nat} (v : Nat) (hw : w < 4) (hw2 : w2 < 4) : zx (zu a (44 + 4 * k2 + w2) v) k w = if k = k2 ∧ w = w2 then v else zx a k w := by
  unfold zx zu
  by_cases h : k = k2 ∧ w = w2
  · obtain ⟨rfl, rfl⟩ := h
    rw [if_pos rfl, if_pos ⟨rfl, rfl⟩]
  · rw [if_neg (by omega), if_neg h]
theorem zx_o (a : Nat → Nat) {k w j : Nat} (v : Nat) (hk : k < 6) (hw : w < 4) (hj : j < 44 ∨ 68 ≤ j) : zx (zu a j v) k w = zx a k w := by
  unfold zx zu
  rw [if_neg (by omega)]
theorem zp_p (a : Nat → Nat) {x k w x2 k2 w2 : Nat} (v : Nat) (hk : k < 8) (hk2 : k2 < 8) (hw : w < 3) (hw2 : w2 < 3) : zp (zu a (68 + 3 * (8 * x2 + k2) + w2) v) x k w = if x = x2 ∧ k = k2 ∧ w = w2 then v else zp a x k w := by
  unfold zp zu
  by_cases h : x = x2 ∧ k = k2 ∧ w = w2
  · obtain ⟨rfl, rfl, rfl⟩ := h
    rw [if_pos rfl, if_pos ⟨rfl, rfl, rfl⟩]
  · rw [if_neg (by omega), if_neg h]
theorem zp_o (a : Nat → Nat) {x k w j : Nat} (v : Nat) (hx : x < 6) (hk : k < 8) (hw : w < 3) (hj : j < 68 ∨ 212 ≤ j) : zp (zu a j v) x k w = zp a x k w := by
  unfold zp zu
  rw [if_neg (by omega)]
theorem ze_e (a : Nat → Nat) {k w k2 w2 : Nat} (v : Nat) (hw : w < 2) (hw2 : w2 < 2) : ze (zu a (212 + 2 * k2 + w2) v) k w = if k = k2 ∧ w = w2 then v else ze a k w := by
  unfold ze zu
  by_cases h : k = k2 ∧ w = w2
  · obtain ⟨rfl, rfl⟩ := h
    rw [if_pos rfl, if_pos ⟨rfl, rfl⟩]
  · rw [if_neg (by omega), if_neg h]
theorem ze_o (a : Nat → Nat) {k w j : Nat} (v : Nat) (hj : j < 212) : ze (zu a j v) k w = ze a k w := by
  unfold ze zu
  rw [if_neg (by omega)]
/-- the class's State i holds the row -/
def rS (M : sM) (i : Nat) (a : Nat → Nat) : Prop :=
  (M (sw_st i) 0 = nI (zm fun k => zd a k 2) ∧ M (sw_st i) 1 = nI (zm fun k => zd a k 3) ∧ M (sw_st i) 2 = nI (2 * zm fun n => ze a n 1) ∧ M (sw_st i) 3 = nI (a 0) ∧ M (sw_st i) 6 = nI (a 1) ∧ M (sw_st i) 14 = nI (a 2) ∧ M (sw_st i) 15 = nI (a 3)) ∧
  (∀ k, k < 8 → M (sw_st i + 1) k = nI (zd a k 0) ∧ M (sw_st i + 2) k = nI (zd a k 1) ∧ M (sw_st i + 9) k = nI (ze a k 0)) ∧
  (∀ x, x < 6 → M (sw_st i + 3) x = nI (zx a x 0) ∧ M (sw_st i + 4) x = nI (zx a x 1) ∧ M (sw_st i + 5) x = nI (zx a x 2) ∧ M (sw_st i + 6) x = nI (zx a x 3) ∧ M (sw_st i + 7) x = nI (zm fun k => zp a x k 0) ∧ M (sw_st i + 8) x = nI (zm fun k => zp a x k 1)) ∧
  (∀ x k, x < 6 → k < 8 → M (sw_st i + 11 + x) k = nP (zp a x k 2))
/-- what a state keeps to -/
def rB1 (a : Nat → Nat) : Prop := a 0 ≤ 8 ∧ a 1 ≤ 6 ∧ a 2 ≤ 20 ∧ a 3 ≤ 8
def rB2 (a : Nat → Nat) : Prop := ∀ k, k < 8 → zd a k 0 ≤ 102 ∧ zd a k 1 ≤ 5 ∧ zd a k 2 ≤ 1 ∧ zd a k 3 ≤ zd a k 2 ∧ zd a k 4 ≤ a 3 ∧ (a 0 ≤ k → zd a k 2 = 0 ∧ zd a k 4 = 0) ∧ (k < a 0 → 97 ≤ zd a k 0) ∧ (0 < zd a k 4 → ze a (zd a k 4 - 1) 0 = k)
def rB3 (a : Nat → Nat) : Prop := ∀ x, x < 6 → zx a x 0 ≤ 102 ∧ zx a x 1 ≤ 63 ∧ zx a x 2 ≤ 4 ∧ zx a x 3 ≤ 9 ∧ (x < a 1 → 97 ≤ zx a x 0)
def rB4 (a : Nat → Nat) : Prop := ∀ x k, x < 6 → k < 8 → zp a x k 0 ≤ 1 ∧ zp a x k 1 ≤ 1 ∧ zp a x k 2 ≤ 21 ∧ (zp a x k 1 = 0 → zp a x k 2 = 0) ∧ (zp a x k 1 = 1 → x < a 1 ∧ k < a 0 ∧ zx a x 0 ≠ zd a k 0)
def rB5 (a : Nat → Nat) : Prop := ∀ n, n < 8 → ze a n 0 ≤ 7 ∧ ze a n 1 ≤ 1 ∧ (a 3 ≤ n → ze a n 1 = 0) ∧ (n < a 3 → ze a n 0 < a 0 ∧ zd a (ze a n 0) 4 = n + 1)
def rB6 (a : Nat → Nat) : Prop := (∀ k, k < 8 → zs (fun x => zp a x k 1) 6 ≤ 3) ∧ (∀ x, x < 6 → zs (fun k => zp a x k 1) 8 ≤ zx a x 2) ∧ zs (fun k => if 0 < zd a k 4 then 1 else 0) 8 = a 3
def rB (a : Nat → Nat) : Prop := rB1 a ∧ rB2 a ∧ rB3 a ∧ rB4 a ∧ rB5 a ∧ rB6 a
/-- what differs lies between two numbers -/
def fr (lo hi : Nat) (M M' : sM) : Prop := ∀ k, (k < lo ∨ hi ≤ k) → M' k = M k
theorem fr_r (lo hi : Nat) (M : sM) : fr lo hi M M := fun _ _ => rfl
theorem fr_t {lo hi : Nat} {M M1 M2 : sM} (h : fr lo hi M M1) (h2 : fr lo hi M1 M2) : fr lo hi M M2 := fun k hk => (h2 k hk).trans (h k hk)
theorem fr_w {lo hi lo2 hi2 : Nat} {M M1 : sM} (h : fr lo hi M M1) (h1 : lo2 ≤ lo) (h2 : hi ≤ hi2) : fr lo2 hi2 M M1 := fun k hk => h k (by omega)
theorem fr_s {lo hi : Nat} (M : sM) {k : Nat} (j : Nat) (v : Int32) (h : lo ≤ k ∧ k < hi) : fr lo hi M (sw_ms M k j v) := fun q hq => sw_ms_n _ _ _ (by omega)
theorem fr_ma {lo hi : Nat} (M : sM) {k : Nat} (f : Nat → Int32) (h : lo ≤ k ∧ k < hi) : fr lo hi M (sw_ma M k f) := fun q hq => if_neg (by omega)
theorem ms_e (M : sM) (k j : Nat) (v : Int32) : sw_ms M k j v k j = v := by rw [sw_ms_k]; exact if_pos rfl
theorem ms_j (M : sM) (k : Nat) {j j2 : Nat} (v : Int32) (h : j2 ≠ j) : sw_ms M k j v k j2 = M k j2 := by rw [sw_ms_k]; exact if_neg h
theorem ms_a (M : sM) (k j : Nat) (v : Int32) (k2 j2 : Nat) : sw_ms M k j v k2 j2 = if k2 = k ∧ j2 = j then v else M k2 j2 := by
  by_cases h : k2 = k
  · subst h
    by_cases h2 : j2 = j
    · subst h2; rw [ms_e, if_pos ⟨rfl, rfl⟩]
    · rw [ms_j _ _ _ h2, if_neg (fun z => h2 z.2)]
  · rw [sw_ms_n _ _ _ h, if_neg (fun z => h z.1)]
theorem rS_fr {M M' : sM} {i : Nat} {a : Nat → Nat} (h : rS M i a) (hf : ∀ b, b < 17 → M' (sw_st i + b) = M (sw_st i + b)) : rS M' i a := by
  have f0 : M' (sw_st i) = M (sw_st i) := hf 0 (by decide)
  obtain ⟨h1, h2, h3, h4⟩ := h
  refine ⟨?_, ?_, ?_, ?_⟩
  · rw [f0]; exact h1
  · intro k hk
    rw [hf 1 (by decide), hf 2 (by decide), hf 9 (by decide)]; exact h2 k hk
  · intro x hx
    rw [hf 3 (by decide), hf 4 (by decide), hf 5 (by decide), hf 6 (by decide), hf 7 (by decide), hf 8 (by decide)]; exact h3 x hx
  · intro x k hx hk
    rw [Nat.add_assoc, hf (11 + x) (by omega), ← Nat.add_assoc]; exact h4 x k hx hk
section RSA
variable {M : sM} {i : Nat} {a : Nat → Nat}
theorem rS_ap (h : rS M i a) : M (sw_st i) 0 = nI (zm fun k => zd a k 2) := h.1.1
theorem rS_gr (h : rS M i a) : M (sw_st i) 1 = nI (zm fun k => zd a k 3) := h.1.2.1
theorem rS_rv (h : rS M i a) : M (sw_st i) 2 = nI (2 * zm fun n => ze a n 1) := h.1.2.2.1
theorem rS_D (h : rS M i a) : M (sw_st i) 3 = nI (a 0) := h.1.2.2.2.1
theorem rS_E (h : rS M i a) : M (sw_st i) 6 = nI (a 1) := h.1.2.2.2.2.1
theorem rS_T (h : rS M i a) : M (sw_st i) 14 = nI (a 2) := h.1.2.2.2.2.2.1
theorem rS_N (h : rS M i a) : M (sw_st i) 15 = nI (a 3) := h.1.2.2.2.2.2.2
theorem rS_df (h : rS M i a) {k : Nat} (hk : k < 8) : M (sw_st i + 1) k = nI (zd a k 0) := (h.2.1 k hk).1
theorem rS_dt (h : rS M i a) {k : Nat} (hk : k < 8) : M (sw_st i + 2) k = nI (zd a k 1) := (h.2.1 k hk).2.1
theorem rS_en (h : rS M i a) {k : Nat} (hk : k < 8) : M (sw_st i + 9) k = nI (ze a k 0) := (h.2.1 k hk).2.2
theorem rS_xf (h : rS M i a) {x : Nat} (hx : x < 6) : M (sw_st i + 3) x = nI (zx a x 0) := (h.2.2.1 x hx).1
theorem rS_xs (h : rS M i a) {x : Nat} (hx : x < 6) : M (sw_st i + 4) x = nI (zx a x 1) := (h.2.2.1 x hx).2.1
theorem rS_xc (h : rS M i a) {x : Nat} (hx : x < 6) : M (sw_st i + 5) x = nI (zx a x 2) := (h.2.2.1 x hx).2.2.1
theorem rS_xl (h : rS M i a) {x : Nat} (hx : x < 6) : M (sw_st i + 6) x = nI (zx a x 3) := (h.2.2.1 x hx).2.2.2.1
theorem rS_co (h : rS M i a) {x : Nat} (hx : x < 6) : M (sw_st i + 7) x = nI (zm fun k => zp a x k 0) := (h.2.2.1 x hx).2.2.2.2.1
theorem rS_as (h : rS M i a) {x : Nat} (hx : x < 6) : M (sw_st i + 8) x = nI (zm fun k => zp a x k 1) := (h.2.2.1 x hx).2.2.2.2.2
theorem rS_g (h : rS M i a) {x k : Nat} (hx : x < 6) (hk : k < 8) : M (sw_st i + 11 + x) k = nP (zp a x k 2) := h.2.2.2 x k hx hk
theorem rB_D (h : rB a) : a 0 ≤ 8 := h.1.1
theorem rB_E (h : rB a) : a 1 ≤ 6 := h.1.2.1
theorem rB_T (h : rB a) : a 2 ≤ 20 := h.1.2.2.1
theorem rB_N (h : rB a) : a 3 ≤ 8 := h.1.2.2.2
end RSA
/-! what is asked of a row -/
abbrev zneu (a : Nat → Nat) (x k : Nat) : Prop := zx a x 0 ≠ zd a k 0 ∧ zp a x k 0 = 0
abbrev zjud (a : Nat → Nat) (x k : Nat) : Prop := (zx a x 0 ≠ zd a k 0 ∧ zp a x k 0 = 0) ∧ zx a x 1 / 2 ^ zd a k 1 % 2 = 1
def zload (a : Nat → Nat) (x : Nat) : Nat := zs (fun k => zp a x k 1) 8
def zcnt (a : Nat → Nat) (k : Nat) : Nat := zs (fun x => zp a x k 1) 6
def zgc (a : Nat → Nat) (k : Nat) : Nat := zs (fun x => if 0 < zp a x k 2 then 1 else 0) (a 1)
def zgs (a : Nat → Nat) (k : Nat) : Nat := zs (fun x => zp a x k 2 - 1) (a 1)
def zlo (g : Nat → Nat) : Nat → Nat
  | 0 => 20
  | n + 1 => if 0 < g n ∧ g n - 1 < zlo g n then g n - 1 else zlo g n
def zhi (g : Nat → Nat) : Nat → Nat
  | 0 => 0
  | n + 1 => if 0 < g n ∧ zhi g n < g n - 1 then g n - 1 else zhi g n
/-- the result and one more, 0 if there is none -/
def zres (a : Nat → Nat) (k : Nat) : Nat := if zgc a k < 2 then 0 else if zgc a k = 2 then zgs a k / 2 + 1 else zgs a k - zlo (fun x => zp a x k 2) (a 1) - zhi (fun x => zp a x k 2) (a 1) + 1
abbrev zpas (a : Nat → Nat) (k : Nat) : Prop := 0 < zres a k ∧ a 2 < zres a k
abbrev zent (a : Nat → Nat) (k : Nat) : Prop := (0 < zres a k ∧ a 2 < zres a k) ∨ zd a k 3 = 1
section RBA
variable {a : Nat → Nat}
theorem zload_D (hb : rB a) {x : Nat} (hx : x < 6) : zs (fun k => zp a x k 1) (a 0) = zload a x := by
  refine (zs_ext hb.1.1 (fun k h1 h2 => ?_)).symm
  have := hb.2.2.2.1 x k hx h2
  omega
theorem zcnt_E (hb : rB a) {k : Nat} (hk : k < 8) : zs (fun x => zp a x k 1) (a 1) = zcnt a k := by
  refine (zs_ext hb.1.2.1 (fun x h1 h2 => ?_)).symm
  have := hb.2.2.2.1 x k h2 hk
  omega
theorem zcnt_le (hb : rB a) {k : Nat} (hk : k < 8) : zcnt a k ≤ 3 := hb.2.2.2.2.2.1 k hk
theorem zload_le (hb : rB a) {x : Nat} (hx : x < 6) : zload a x ≤ zx a x 2 := hb.2.2.2.2.2.2.1 x hx
theorem zgc_le (hb : rB a) {k : Nat} (hk : k < 8) : zgc a k ≤ 3 := by
  refine Nat.le_trans ?_ (zcnt_le hb hk)
  rw [← zcnt_E hb hk]
  refine zs_le (fun x hx => ?_)
  have := hb.2.2.2.1 x k (by have := hb.1.2.1; omega) hk
  split <;> omega
theorem zgs_le (hb : rB a) {k : Nat} (hk : k < 8) : zgs a k ≤ 20 * zgc a k := by
  unfold zgs zgc
  rw [← zs_mul]
  refine zs_le (fun x hx => ?_)
  have := hb.2.2.2.1 x k (by have := hb.1.2.1; omega) hk
  split <;> omega
theorem z_lohi (g : Nat → Nat) : ∀ n, (∀ x, x < n → g x ≤ 21) → (zs (fun x => if 0 < g x then 1 else 0) n = 0 → zs (fun x => g x - 1) n = 0 ∧ zlo g n = 20 ∧ zhi g n = 0) ∧ (zs (fun x => if 0 < g x then 1 else 0) n = 1 → zlo g n = zs (fun x => g x - 1) n ∧ zhi g n = zs (fun x => g x - 1) n) ∧ (2 ≤ zs (fun x => if 0 < g x then 1 else 0) n → zlo g n + zhi g n ≤ zs (fun x => g x - 1) n ∧ zlo g n ≤ zhi g n) ∧ zlo g n ≤ 20 ∧ zhi g n ≤ 20
  | 0, _ => ⟨fun _ => ⟨rfl, rfl, rfl⟩, fun h => absurd (show (0 : Nat) = 1 from h) (by decide), fun h => absurd (show (2 : Nat) ≤ 0 from h) (by decide), show (20 : Nat) ≤ 20 by decide, show (0 : Nat) ≤ 20 by decide⟩
  | n + 1, h => by
    have ih := z_lohi g n (fun x hx => h x (by omega))
    have hn := h n (by omega)
    rw [zs_succ, zs_succ]
    unfold zlo zhi
    generalize zs (fun x => if 0 < g x then 1 else 0) n = c at *
    generalize zs (fun x => g x - 1) n = s at *
    generalize zlo g n = lo at *
    generalize zhi g n = hi at *
    generalize g n = v at *
    obtain ⟨i1, i2, i3, i4, i5⟩ := ih
    by_cases hv : 0 < v
    · rw [if_pos hv]
      have q : c = 0 ∨ c = 1 ∨ 2 ≤ c := by omega
      by_cases q1 : v - 1 < lo
      · rw [if_pos ⟨hv, q1⟩]
        by_cases q2 : hi < v - 1
        · rw [if_pos ⟨hv, q2⟩]
          rcases q with q | q | q
          · obtain ⟨e1, e2, e3⟩ := i1 q; omega
          · obtain ⟨e1, e2⟩ := i2 q; omega
          · obtain ⟨e1, e2⟩ := i3 q; omega
        · rw [if_neg (fun z => q2 z.2)]
          rcases q with q | q | q
          · obtain ⟨e1, e2, e3⟩ := i1 q; omega
          · obtain ⟨e1, e2⟩ := i2 q; omega
          · obtain ⟨e1, e2⟩ := i3 q; omega
      · rw [if_neg (fun z => q1 z.2)]
        by_cases q2 : hi < v - 1
        · rw [if_pos ⟨hv, q2⟩]
          rcases q with q | q | q
          · obtain ⟨e1, e2, e3⟩ := i1 q; omega
          · obtain ⟨e1, e2⟩ := i2 q; omega
          · obtain ⟨e1, e2⟩ := i3 q; omega
        · rw [if_neg (fun z => q2 z.2)]
          rcases q with q | q | q
          · obtain ⟨e1, e2, e3⟩ := i1 q; omega
          · obtain ⟨e1, e2⟩ := i2 q; omega
          · obtain ⟨e1, e2⟩ := i3 q; omega
    · rw [if_neg hv, if_neg (fun z => hv z.1), if_neg (fun z => hv z.1)]
      have e : v - 1 = 0 := by omega
      rw [e]
      exact ⟨i1, i2, i3, i4, i5⟩
theorem z_lohi' (hb : rB a) {k : Nat} (hk : k < 8) (h : 2 ≤ zgc a k) : zlo (fun x => zp a x k 2) (a 1) + zhi (fun x => zp a x k 2) (a 1) ≤ zgs a k ∧ zlo (fun x => zp a x k 2) (a 1) ≤ 20 ∧ zhi (fun x => zp a x k 2) (a 1) ≤ 20 := by
  have q := z_lohi (fun x => zp a x k 2) (a 1) (fun x hx => (hb.2.2.2.1 x k (by have := hb.1.2.1; omega) hk).2.2.1)
  exact ⟨(q.2.2.1 h).1, q.2.2.2⟩
theorem zres_le (hb : rB a) {k : Nat} (hk : k < 8) : zres a k ≤ 61 := by
  have h1 := zgc_le hb hk
  have h2 := zgs_le hb hk
  unfold zres
  split
  · omega
  · split <;> omega
end RBA
theorem nb0 : narrow .boolean (.int (0 : Int32)) = .int 0 := rfl
theorem nb1 : narrow .boolean (.int (1 : Int32)) = .int 1 := rfl
theorem zi0 : ((0 : Int32)).toInt = 0 := by decide
theorem zi1 : ((1 : Int32)).toInt = 1 := by decide
/-- the sum of all grades, over all 48 pairs -/
def zall (a : Nat → Nat) : Nat := zs (fun q => a (68 + 3 * q + 2) - 1) 48
theorem ia1 (n : Nat) : nI n + (1 : Int32) = nI (n + 1) := (nI_succ n).symm
