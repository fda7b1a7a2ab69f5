/-! The pure part: who is assigned may judge. -/
theorem k_zu' {a : Nat → Nat} {j v q : Nat} (h : j ≠ q) : zu a j v q = a q := zu_f a v (Ne.symm h)
def zJ (a : Nat → Nat) : Prop := ∀ x k, x < 6 → k < 8 → zp a x k 1 = 1 → zjud a x k
theorem zJ_of {a a' : Nat → Nat} (hb : rB a) (h : zJ a) (h1 : ∀ x k w, x < 6 → k < 8 → w < 2 → zp a' x k w = zp a x k w) (h2 : ∀ x, x < 6 → x < a 1 → zx a' x 0 = zx a x 0 ∧ zx a' x 1 = zx a x 1) (h3 : ∀ k, k < 8 → k < a 0 → zd a' k 0 = zd a k 0 ∧ zd a' k 1 = zd a k 1) : zJ a' := by
  intro x k hx hk hp
  rw [h1 x k 1 hx hk (by decide)] at hp
  have h4 := (hb.2.2.2.1 x k hx hk).2.2.2.2 hp
  obtain ⟨⟨j1, j2⟩, j3⟩ := h x k hx hk hp
  refine ⟨⟨?_, ?_⟩, ?_⟩
  · rw [(h2 x hx h4.1).1, (h3 k hk h4.2.1).1]; exact j1
  · rw [h1 x k 0 hx hk (by decide)]; exact j2
  · rw [(h2 x hx h4.1).2, (h3 k hk h4.2.1).2]; exact j3
/-- a change that touches neither pairs' first two numbers, nor frames, nor topics -/
theorem zJ_far {a : Nat → Nat} (hb : rB a) (h : zJ a) {j v : Nat} (hj : (∀ x k w, x < 6 → k < 8 → w < 2 → j ≠ 68 + 3 * (8 * x + k) + w) ∧ (∀ x w, x < 6 → w < 2 → j ≠ 44 + 4 * x + w) ∧ ∀ k w, k < 8 → w < 2 → j ≠ 4 + 5 * k + w) : zJ (zu a j v) :=
  zJ_of hb h (fun x k w hx hk hw => zu_f a v (Ne.symm (hj.1 x k w hx hk hw))) (fun x hx _ => ⟨zu_f a v (Ne.symm (hj.2.1 x 0 hx (by decide))), zu_f a v (Ne.symm (hj.2.1 x 1 hx (by decide)))⟩) (fun k hk _ => ⟨zu_f a v (Ne.symm (hj.2.2 k 0 hk (by decide))), zu_f a v (Ne.symm (hj.2.2 k 1 hk (by decide)))⟩)
theorem J_oDoor {a : Nat → Nat} (hb : rB a) (h : zJ a) (f t : Int32) : zJ (oDoor a f t).2.2 := by
  have h8 := rB_D hb
  unfold oDoor
  split
  · split
    · exact h
    · refine zJ_of hb h (fun x k w hx hk hw => ?_) (fun x hx _ => ⟨?_, ?_⟩) (fun k hk hka => ⟨?_, ?_⟩)
      · unfold zp; dsimp only; rw [k_zu', k_zu', k_zu'] <;> omega
      · unfold zx; dsimp only; rw [k_zu', k_zu', k_zu'] <;> omega
      · unfold zx; dsimp only; rw [k_zu', k_zu', k_zu'] <;> omega
      · unfold zd; dsimp only; rw [k_zu', k_zu', k_zu'] <;> omega
      · unfold zd; dsimp only; rw [k_zu', k_zu', k_zu'] <;> omega
  · exact h
theorem J_oExam {a : Nat → Nat} (hb : rB a) (h : zJ a) (f s c l : Int32) : zJ (oExam a f s c l).2.2 := by
  have h6 := rB_E hb
  unfold oExam
  split
  · split
    · exact h
    · refine zJ_of hb h (fun x k w hx hk hw => ?_) (fun x hx hxa => ⟨?_, ?_⟩) (fun k hk hka => ⟨?_, ?_⟩)
      · unfold zp; dsimp only; rw [k_zu', k_zu', k_zu', k_zu', k_zu'] <;> omega
      · unfold zx; dsimp only; rw [k_zu', k_zu', k_zu', k_zu', k_zu'] <;> omega
      · unfold zx; dsimp only; rw [k_zu', k_zu', k_zu', k_zu', k_zu'] <;> omega
      · unfold zd; dsimp only; rw [k_zu', k_zu', k_zu', k_zu', k_zu'] <;> omega
      · unfold zd; dsimp only; rw [k_zu', k_zu', k_zu', k_zu', k_zu'] <;> omega
  · exact h
theorem J_oGrad {a : Nat → Nat} (hb : rB a) (h : zJ a) (x k g : Int32) : zJ (oGrad a x k g).2.2 := by
  unfold oGrad
  split
  · split
    · unfold oGradN
      split
      · exact h
      · exact zJ_far hb h ⟨fun x k w hx hk hw => by omega, fun x w hx hw => by omega, fun k w hk hw => by omega⟩
    · exact h
  · exact h
theorem J_oThr {a : Nat → Nat} (hb : rB a) (h : zJ a) (t : Int32) : zJ (oThr a t).2.2 := by
  unfold oThr
  split
  · exact zJ_far hb h ⟨fun x k w hx hk hw => by omega, fun x w hx hw => by omega, fun k w hk hw => by omega⟩
  · exact h
theorem J_oAw {a : Nat → Nat} (hb : rB a) (h : zJ a) (q : Int32) : zJ (oAw a q).2.2 := by
  have h8 := rB_D hb
  have hn := rB_N hb
  unfold oAw
  split
  · next hq =>
    obtain ⟨q9, hq9, rfl⟩ := zok_t hq (by omega)
    unfold oAwN
    split
    · exact h
    · split
      · exact h
      · refine zJ_of hb h (fun x k w hx hk hw => ?_) (fun x hx hxa => ⟨?_, ?_⟩) (fun k hk hka => ⟨?_, ?_⟩)
        · unfold zp; dsimp only; rw [nI_clamp (by omega), k_zu', k_zu', k_zu', k_zu'] <;> omega
        · unfold zx; dsimp only; rw [nI_clamp (by omega), k_zu', k_zu', k_zu', k_zu'] <;> omega
        · unfold zx; dsimp only; rw [nI_clamp (by omega), k_zu', k_zu', k_zu', k_zu'] <;> omega
        · unfold zd; dsimp only; rw [k_zu', k_zu', k_zu', k_zu'] <;> omega
        · unfold zd; dsimp only; rw [k_zu', k_zu', k_zu', k_zu'] <;> omega
  · exact h
theorem J_oApp {a : Nat → Nat} (hb : rB a) (h : zJ a) (q : Int32) : zJ (oApp a q).2.2 := by
  have h8 := rB_D hb
  unfold oApp
  split
  · next hq =>
    obtain ⟨q9, hq9, rfl⟩ := zok_t hq (by omega)
    unfold oAppN
    split
    · exact h
    · split
      · exact h
      · refine zJ_of hb h (fun x k w hx hk hw => ?_) (fun x hx hxa => ⟨?_, ?_⟩) (fun k hk hka => ⟨?_, ?_⟩)
        · unfold zp; dsimp only; rw [nI_clamp (by omega), k_zu', k_zu'] <;> omega
        · unfold zx; dsimp only; rw [nI_clamp (by omega), k_zu', k_zu'] <;> omega
        · unfold zx; dsimp only; rw [nI_clamp (by omega), k_zu', k_zu'] <;> omega
        · unfold zd; dsimp only; rw [k_zu', k_zu'] <;> omega
        · unfold zd; dsimp only; rw [k_zu', k_zu'] <;> omega
  · exact h
theorem J_oConf {a : Nat → Nat} (hb : rB a) (h : zJ a) (x k : Int32) : zJ (oConf a x k).2.2 := by
  have h8 := rB_D hb
  have h6 := rB_E hb
  unfold oConf
  split
  · next hq =>
    obtain ⟨x9, hx9, rfl⟩ := zok_t hq.1 (by omega)
    obtain ⟨k9, hk9, rfl⟩ := zok_t hq.2 (by omega)
    unfold oConfN
    rw [nI_clamp (by omega), nI_clamp (by omega)]
    split
    · exact h
    · next hn =>
      intro x k hx hk hp
      dsimp only at hp ⊢
      rw [zp_p a _ hk (by omega) (by decide) (by decide), if_neg (by omega)] at hp
      obtain ⟨⟨j1, j2⟩, j3⟩ := h x k hx hk hp
      refine ⟨⟨?_, ?_⟩, ?_⟩
      · rw [zx_o a _ hx (by decide) (by omega), zd_o a _ hk (by decide) (by omega)]; exact j1
      · rw [zp_p a _ hk (by omega) (by decide) (by decide), if_neg (fun e => hn (Or.inr (by rw [← e.1, ← e.2.1]; exact hp)))]; exact j2
      · rw [zx_o a _ hx (by decide) (by omega), zd_o a _ hk (by decide) (by omega)]; exact j3
  · exact h
theorem J_put {a : Nat → Nat} (h : zJ a) {x9 k9 : Nat} (hx9 : x9 < 6) (hk9 : k9 < 8) (hj : zjud a x9 k9) : zJ (zu a (68 + 3 * (8 * x9 + k9) + 1) 1) := by
  intro x k hx hk hp
  have hj9 : zjud a x k := by
    by_cases e : x = x9 ∧ k = k9
    · rw [e.1, e.2]; exact hj
    · rw [zp_p a _ hk hk9 (by decide) (by decide), if_neg (fun z => e ⟨z.1, z.2.1⟩)] at hp
      exact h x k hx hk hp
  obtain ⟨⟨j1, j2⟩, j3⟩ := hj9
  refine ⟨⟨?_, ?_⟩, ?_⟩
  · rw [zx_o a _ hx (by decide) (by omega), zd_o a _ hk (by decide) (by omega)]; exact j1
  · rw [zp_p a _ hk hk9 (by decide) (by decide), if_neg (fun z => by have := z.2.2; omega)]; exact j2
  · rw [zx_o a _ hx (by decide) (by omega), zd_o a _ hk (by decide) (by omega)]; exact j3
theorem J_oAss {a : Nat → Nat} (hb : rB a) (h : zJ a) (x k : Int32) : zJ (oAss a x k).2.2 := by
  have h8 := rB_D hb
  have h6 := rB_E hb
  unfold oAss
  split
  · next hq =>
    obtain ⟨x9, hx9, rfl⟩ := zok_t hq.1 (by omega)
    obtain ⟨k9, hk9, rfl⟩ := zok_t hq.2 (by omega)
    unfold oAssN
    rw [nI_clamp (by omega), nI_clamp (by omega)]
    split
    · exact h
    · split
      · exact h
      · next hj =>
        exact J_put h (by omega) (by omega) (Classical.not_not.mp hj)
  · exact h
theorem J_plan {a : Nat → Nat} (hb : rB a) (h : zJ a) : ∀ k, k ≤ a 0 → zJ (zpr a k)
  | 0, _ => h
  | k + 1, hk => by
    have ih := J_plan hb h k (by omega)
    obtain ⟨i1, i2, i3, i4⟩ := zpi_k hb k (by omega)
    have hD := rB_D hb
    by_cases q : zbp (zG0 a) (zC0 a) (a 0) k = 0
    · rw [zpr_0 q]; exact ih
    · obtain ⟨x, hx, e, wG, wc, wl⟩ := zbp_s q
      rw [zpr_s e]
      obtain ⟨⟨j1, j2⟩, j3⟩ := wG.2.2.1
      have f0 : zx (zpr a k) x 0 = zx a x 0 := i2 _ (Or.inl (by omega))
      have f1 : zx (zpr a k) x 1 = zx a x 1 := i2 _ (Or.inl (by omega))
      have g0 : zd (zpr a k) k 0 = zd a k 0 := i2 _ (Or.inl (by omega))
      have g1 : zd (zpr a k) k 1 = zd a k 1 := i2 _ (Or.inl (by omega))
      refine J_put ih hx (by omega) ⟨⟨?_, ?_⟩, ?_⟩
      · rw [f0, g0]; exact j1
      · rw [i4 x k 0 hx (Nat.le_refl _) (by omega) (by decide)]; exact j2
      · rw [f1, g1]; exact j3
theorem J_oPlan {a : Nat → Nat} (hb : rB a) (h : zJ a) : zJ (oPlan a).2.2 := J_plan hb h (a 0) (Nat.le_refl _)
