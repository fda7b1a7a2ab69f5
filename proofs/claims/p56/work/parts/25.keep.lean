/-! What the changing calls do to a row keeps what a state keeps to. -/
theorem rB_door {a : Nat → Nat} (hb : rB a) (hD : a 0 < 8) {f t : Nat} (hf : 97 ≤ f ∧ f ≤ 102) (ht : t ≤ 5) : rB (zu (zu (zu a (4 + 5 * a 0 + 0) f) (4 + 5 * a 0 + 1) t) 0 (a 0 + 1)) := by
  obtain ⟨A, hA⟩ : ∃ A, A = (zu (zu (zu a (4 + 5 * a 0 + 0) f) (4 + 5 * a 0 + 1) t) 0 (a 0 + 1)) := ⟨_, rfl⟩
  rw [← hA]
  obtain ⟨b1, b2, b3, b4, b5, b6, b7, b8⟩ := hb
  obtain ⟨g0, g1, g2, g3⟩ := b1
  have s0 : A 0 = (a 0 + 1) := by rw [hA, zu_t]
  have s1 : A 1 = a 1 := by rw [hA, zu_f _ _ (by omega), zu_f _ _ (by omega), zu_f _ _ (by omega)]
  have s2 : A 2 = a 2 := by rw [hA, zu_f _ _ (by omega), zu_f _ _ (by omega), zu_f _ _ (by omega)]
  have s3 : A 3 = a 3 := by rw [hA, zu_f _ _ (by omega), zu_f _ _ (by omega), zu_f _ _ (by omega)]
  have d0 : ∀ k, k < 8 → zd A k 0 = (if k = a 0 ∧ 0 = 0 then f else zd a k 0) := fun k hk => by rw [hA, zd_o _ _ hk (by decide) (by omega), zd_d _ _ (by decide) (by decide), if_neg (show ¬ (k = a 0 ∧ 0 = 1) by omega), zd_d _ _ (by decide) (by decide)]
  have d1 : ∀ k, k < 8 → zd A k 1 = (if k = a 0 ∧ 1 = 1 then t else zd a k 1) := fun k hk => by rw [hA, zd_o _ _ hk (by decide) (by omega), zd_d _ _ (by decide) (by decide), zd_d _ _ (by decide) (by decide), if_neg (show ¬ (k = a 0 ∧ 1 = 0) by omega)]
  have d2 : ∀ k, k < 8 → zd A k 2 = zd a k 2 := fun k hk => by rw [hA, zd_o _ _ hk (by decide) (by omega), zd_d _ _ (by decide) (by decide), if_neg (show ¬ (k = a 0 ∧ 2 = 1) by omega), zd_d _ _ (by decide) (by decide), if_neg (show ¬ (k = a 0 ∧ 2 = 0) by omega)]
  have d3 : ∀ k, k < 8 → zd A k 3 = zd a k 3 := fun k hk => by rw [hA, zd_o _ _ hk (by decide) (by omega), zd_d _ _ (by decide) (by decide), if_neg (show ¬ (k = a 0 ∧ 3 = 1) by omega), zd_d _ _ (by decide) (by decide), if_neg (show ¬ (k = a 0 ∧ 3 = 0) by omega)]
  have d4 : ∀ k, k < 8 → zd A k 4 = zd a k 4 := fun k hk => by rw [hA, zd_o _ _ hk (by decide) (by omega), zd_d _ _ (by decide) (by decide), if_neg (show ¬ (k = a 0 ∧ 4 = 1) by omega), zd_d _ _ (by decide) (by decide), if_neg (show ¬ (k = a 0 ∧ 4 = 0) by omega)]
  have x0 : ∀ x, x < 6 → zx A x 0 = zx a x 0 := fun x hx => by rw [hA, zx_o _ _ hx (by decide) (by omega), zx_o _ _ hx (by decide) (by omega), zx_o _ _ hx (by decide) (by omega)]
  have x1 : ∀ x, x < 6 → zx A x 1 = zx a x 1 := fun x hx => by rw [hA, zx_o _ _ hx (by decide) (by omega), zx_o _ _ hx (by decide) (by omega), zx_o _ _ hx (by decide) (by omega)]
  have x2 : ∀ x, x < 6 → zx A x 2 = zx a x 2 := fun x hx => by rw [hA, zx_o _ _ hx (by decide) (by omega), zx_o _ _ hx (by decide) (by omega), zx_o _ _ hx (by decide) (by omega)]
  have x3 : ∀ x, x < 6 → zx A x 3 = zx a x 3 := fun x hx => by rw [hA, zx_o _ _ hx (by decide) (by omega), zx_o _ _ hx (by decide) (by omega), zx_o _ _ hx (by decide) (by omega)]
  have p0 : ∀ x k, x < 6 → k < 8 → zp A x k 0 = zp a x k 0 := fun x k hx hk => by rw [hA, zp_o _ _ hx hk (by decide) (by omega), zp_o _ _ hx hk (by decide) (by omega), zp_o _ _ hx hk (by decide) (by omega)]
  have p1 : ∀ x k, x < 6 → k < 8 → zp A x k 1 = zp a x k 1 := fun x k hx hk => by rw [hA, zp_o _ _ hx hk (by decide) (by omega), zp_o _ _ hx hk (by decide) (by omega), zp_o _ _ hx hk (by decide) (by omega)]
  have p2 : ∀ x k, x < 6 → k < 8 → zp A x k 2 = zp a x k 2 := fun x k hx hk => by rw [hA, zp_o _ _ hx hk (by decide) (by omega), zp_o _ _ hx hk (by decide) (by omega), zp_o _ _ hx hk (by decide) (by omega)]
  have e0 : ∀ n, n < 8 → ze A n 0 = ze a n 0 := fun n hn => by rw [hA, ze_o _ _ (by omega), ze_o _ _ (by omega), ze_o _ _ (by omega)]
  have e1 : ∀ n, n < 8 → ze A n 1 = ze a n 1 := fun n hn => by rw [hA, ze_o _ _ (by omega), ze_o _ _ (by omega), ze_o _ _ (by omega)]
  refine ⟨⟨?_, ?_, ?_, ?_⟩, fun k hk => ?_, fun x hx => ?_, fun x k hx hk => ?_, fun n hn => ?_, fun k hk => ?_, fun x hx => ?_, ?_⟩
  · omega
  · omega
  · omega
  · omega
  · rw [d0 k hk, d1 k hk, d2 k hk, d3 k hk, d4 k hk, s0, s3]
    have q := b2 k hk
    have e : 0 < zd a k 4 → ze A (zd a k 4 - 1) 0 = k := fun z => by rw [e0 _ (by omega)]; exact q.2.2.2.2.2.2.2 z
    repeat' split
    all_goals omega
  · rw [x0 x hx, x1 x hx, x2 x hx, x3 x hx, s1]
    have q := b3 x hx
    repeat' split
    all_goals omega
  · rw [p0 x k hx hk, p1 x k hx hk, p2 x k hx hk, x0 x hx, d0 k hk, s0, s1]
    have q := b4 x k hx hk
    repeat' split
    all_goals omega
  · rw [e0 n hn, e1 n hn, s0, s3]
    have q := b5 n hn
    rw [d4 (ze a n 0) (by omega)]
    repeat' split
    all_goals omega
  · rw [zs_cong (fun x hx => p1 x k hx hk)]; exact b6 k hk
  · rw [zs_cong (fun k hk => p1 x k hx hk), x2 x hx]; exact b7 x hx
  · rw [s3, zs_cong (fun k hk => by rw [d4 k hk]), b8]
theorem rB_examiner {a : Nat → Nat} (hb : rB a) (hE : a 1 < 6) {f t c l : Nat} (hf : 97 ≤ f ∧ f ≤ 102) (ht : t ≤ 63) (hc : c ≤ 4) (hl : l ≤ 9) : rB (zu (zu (zu (zu (zu a (44 + 4 * a 1 + 0) f) (44 + 4 * a 1 + 1) t) (44 + 4 * a 1 + 2) c) (44 + 4 * a 1 + 3) l) 1 (a 1 + 1)) := by
  obtain ⟨A, hA⟩ : ∃ A, A = (zu (zu (zu (zu (zu a (44 + 4 * a 1 + 0) f) (44 + 4 * a 1 + 1) t) (44 + 4 * a 1 + 2) c) (44 + 4 * a 1 + 3) l) 1 (a 1 + 1)) := ⟨_, rfl⟩
  rw [← hA]
  obtain ⟨b1, b2, b3, b4, b5, b6, b7, b8⟩ := hb
  obtain ⟨g0, g1, g2, g3⟩ := b1
  have s0 : A 0 = a 0 := by rw [hA, zu_f _ _ (by omega), zu_f _ _ (by omega), zu_f _ _ (by omega), zu_f _ _ (by omega), zu_f _ _ (by omega)]
  have s1 : A 1 = (a 1 + 1) := by rw [hA, zu_t]
  have s2 : A 2 = a 2 := by rw [hA, zu_f _ _ (by omega), zu_f _ _ (by omega), zu_f _ _ (by omega), zu_f _ _ (by omega), zu_f _ _ (by omega)]
  have s3 : A 3 = a 3 := by rw [hA, zu_f _ _ (by omega), zu_f _ _ (by omega), zu_f _ _ (by omega), zu_f _ _ (by omega), zu_f _ _ (by omega)]
  have d0 : ∀ k, k < 8 → zd A k 0 = zd a k 0 := fun k hk => by rw [hA, zd_o _ _ hk (by decide) (by omega), zd_o _ _ hk (by decide) (by omega), zd_o _ _ hk (by decide) (by omega), zd_o _ _ hk (by decide) (by omega), zd_o _ _ hk (by decide) (by omega)]
  have d1 : ∀ k, k < 8 → zd A k 1 = zd a k 1 := fun k hk => by rw [hA, zd_o _ _ hk (by decide) (by omega), zd_o _ _ hk (by decide) (by omega), zd_o _ _ hk (by decide) (by omega), zd_o _ _ hk (by decide) (by omega), zd_o _ _ hk (by decide) (by omega)]
  have d2 : ∀ k, k < 8 → zd A k 2 = zd a k 2 := fun k hk => by rw [hA, zd_o _ _ hk (by decide) (by omega), zd_o _ _ hk (by decide) (by omega), zd_o _ _ hk (by decide) (by omega), zd_o _ _ hk (by decide) (by omega), zd_o _ _ hk (by decide) (by omega)]
  have d3 : ∀ k, k < 8 → zd A k 3 = zd a k 3 := fun k hk => by rw [hA, zd_o _ _ hk (by decide) (by omega), zd_o _ _ hk (by decide) (by omega), zd_o _ _ hk (by decide) (by omega), zd_o _ _ hk (by decide) (by omega), zd_o _ _ hk (by decide) (by omega)]
  have d4 : ∀ k, k < 8 → zd A k 4 = zd a k 4 := fun k hk => by rw [hA, zd_o _ _ hk (by decide) (by omega), zd_o _ _ hk (by decide) (by omega), zd_o _ _ hk (by decide) (by omega), zd_o _ _ hk (by decide) (by omega), zd_o _ _ hk (by decide) (by omega)]
  have x0 : ∀ x, x < 6 → zx A x 0 = (if x = a 1 ∧ 0 = 0 then f else zx a x 0) := fun x hx => by rw [hA, zx_o _ _ hx (by decide) (by omega), zx_x _ _ (by decide) (by decide), if_neg (show ¬ (x = a 1 ∧ 0 = 3) by omega), zx_x _ _ (by decide) (by decide), if_neg (show ¬ (x = a 1 ∧ 0 = 2) by omega), zx_x _ _ (by decide) (by decide), if_neg (show ¬ (x = a 1 ∧ 0 = 1) by omega), zx_x _ _ (by decide) (by decide)]
  have x1 : ∀ x, x < 6 → zx A x 1 = (if x = a 1 ∧ 1 = 1 then t else zx a x 1) := fun x hx => by rw [hA, zx_o _ _ hx (by decide) (by omega), zx_x _ _ (by decide) (by decide), if_neg (show ¬ (x = a 1 ∧ 1 = 3) by omega), zx_x _ _ (by decide) (by decide), if_neg (show ¬ (x = a 1 ∧ 1 = 2) by omega), zx_x _ _ (by decide) (by decide), zx_x _ _ (by decide) (by decide), if_neg (show ¬ (x = a 1 ∧ 1 = 0) by omega)]
  have x2 : ∀ x, x < 6 → zx A x 2 = (if x = a 1 ∧ 2 = 2 then c else zx a x 2) := fun x hx => by rw [hA, zx_o _ _ hx (by decide) (by omega), zx_x _ _ (by decide) (by decide), if_neg (show ¬ (x = a 1 ∧ 2 = 3) by omega), zx_x _ _ (by decide) (by decide), zx_x _ _ (by decide) (by decide), if_neg (show ¬ (x = a 1 ∧ 2 = 1) by omega), zx_x _ _ (by decide) (by decide), if_neg (show ¬ (x = a 1 ∧ 2 = 0) by omega)]
  have x3 : ∀ x, x < 6 → zx A x 3 = (if x = a 1 ∧ 3 = 3 then l else zx a x 3) := fun x hx => by rw [hA, zx_o _ _ hx (by decide) (by omega), zx_x _ _ (by decide) (by decide), zx_x _ _ (by decide) (by decide), if_neg (show ¬ (x = a 1 ∧ 3 = 2) by omega), zx_x _ _ (by decide) (by decide), if_neg (show ¬ (x = a 1 ∧ 3 = 1) by omega), zx_x _ _ (by decide) (by decide), if_neg (show ¬ (x = a 1 ∧ 3 = 0) by omega)]
  have p0 : ∀ x k, x < 6 → k < 8 → zp A x k 0 = zp a x k 0 := fun x k hx hk => by rw [hA, zp_o _ _ hx hk (by decide) (by omega), zp_o _ _ hx hk (by decide) (by omega), zp_o _ _ hx hk (by decide) (by omega), zp_o _ _ hx hk (by decide) (by omega), zp_o _ _ hx hk (by decide) (by omega)]
  have p1 : ∀ x k, x < 6 → k < 8 → zp A x k 1 = zp a x k 1 := fun x k hx hk => by rw [hA, zp_o _ _ hx hk (by decide) (by omega), zp_o _ _ hx hk (by decide) (by omega), zp_o _ _ hx hk (by decide) (by omega), zp_o _ _ hx hk (by decide) (by omega), zp_o _ _ hx hk (by decide) (by omega)]
  have p2 : ∀ x k, x < 6 → k < 8 → zp A x k 2 = zp a x k 2 := fun x k hx hk => by rw [hA, zp_o _ _ hx hk (by decide) (by omega), zp_o _ _ hx hk (by decide) (by omega), zp_o _ _ hx hk (by decide) (by omega), zp_o _ _ hx hk (by decide) (by omega), zp_o _ _ hx hk (by decide) (by omega)]
  have e0 : ∀ n, n < 8 → ze A n 0 = ze a n 0 := fun n hn => by rw [hA, ze_o _ _ (by omega), ze_o _ _ (by omega), ze_o _ _ (by omega), ze_o _ _ (by omega), ze_o _ _ (by omega)]
  have e1 : ∀ n, n < 8 → ze A n 1 = ze a n 1 := fun n hn => by rw [hA, ze_o _ _ (by omega), ze_o _ _ (by omega), ze_o _ _ (by omega), ze_o _ _ (by omega), ze_o _ _ (by omega)]
  refine ⟨⟨?_, ?_, ?_, ?_⟩, fun k hk => ?_, fun x hx => ?_, fun x k hx hk => ?_, fun n hn => ?_, fun k hk => ?_, fun x hx => ?_, ?_⟩
  · omega
  · omega
  · omega
  · omega
  · rw [d0 k hk, d1 k hk, d2 k hk, d3 k hk, d4 k hk, s0, s3]
    have q := b2 k hk
    have e : 0 < zd a k 4 → ze A (zd a k 4 - 1) 0 = k := fun z => by rw [e0 _ (by omega)]; exact q.2.2.2.2.2.2.2 z
    repeat' split
    all_goals omega
  · rw [x0 x hx, x1 x hx, x2 x hx, x3 x hx, s1]
    have q := b3 x hx
    repeat' split
    all_goals omega
  · rw [p0 x k hx hk, p1 x k hx hk, p2 x k hx hk, x0 x hx, d0 k hk, s0, s1]
    have q := b4 x k hx hk
    repeat' split
    all_goals omega
  · rw [e0 n hn, e1 n hn, s0, s3]
    have q := b5 n hn
    rw [d4 (ze a n 0) (by omega)]
    repeat' split
    all_goals omega
  · rw [zs_cong (fun x hx => p1 x k hx hk)]; exact b6 k hk
  · rw [zs_cong (fun k hk => p1 x k hx hk), x2 x hx]
    have q := b7 x hx
    split
    · rename_i z
      obtain ⟨rfl, -⟩ := z
      rw [zs_zero (fun k hk => by have := b4 (a 1) k hx hk; omega)]; exact Nat.zero_le _
    · exact q
  · rw [s3, zs_cong (fun k hk => by rw [d4 k hk]), b8]
theorem rB_conflict {a : Nat → Nat} (hb : rB a) {y0 k0 : Nat} (hx0 : y0 < 6) (hk0 : k0 < 8) : rB (zu a (68 + 3 * (8 * y0 + k0) + 0) 1) := by
  obtain ⟨A, hA⟩ : ∃ A, A = (zu a (68 + 3 * (8 * y0 + k0) + 0) 1) := ⟨_, rfl⟩
  rw [← hA]
  obtain ⟨b1, b2, b3, b4, b5, b6, b7, b8⟩ := hb
  obtain ⟨g0, g1, g2, g3⟩ := b1
  have s0 : A 0 = a 0 := by rw [hA, zu_f _ _ (by omega)]
  have s1 : A 1 = a 1 := by rw [hA, zu_f _ _ (by omega)]
  have s2 : A 2 = a 2 := by rw [hA, zu_f _ _ (by omega)]
  have s3 : A 3 = a 3 := by rw [hA, zu_f _ _ (by omega)]
  have d0 : ∀ k, k < 8 → zd A k 0 = zd a k 0 := fun k hk => by rw [hA, zd_o _ _ hk (by decide) (by omega)]
  have d1 : ∀ k, k < 8 → zd A k 1 = zd a k 1 := fun k hk => by rw [hA, zd_o _ _ hk (by decide) (by omega)]
  have d2 : ∀ k, k < 8 → zd A k 2 = zd a k 2 := fun k hk => by rw [hA, zd_o _ _ hk (by decide) (by omega)]
  have d3 : ∀ k, k < 8 → zd A k 3 = zd a k 3 := fun k hk => by rw [hA, zd_o _ _ hk (by decide) (by omega)]
  have d4 : ∀ k, k < 8 → zd A k 4 = zd a k 4 := fun k hk => by rw [hA, zd_o _ _ hk (by decide) (by omega)]
  have x0 : ∀ x, x < 6 → zx A x 0 = zx a x 0 := fun x hx => by rw [hA, zx_o _ _ hx (by decide) (by omega)]
  have x1 : ∀ x, x < 6 → zx A x 1 = zx a x 1 := fun x hx => by rw [hA, zx_o _ _ hx (by decide) (by omega)]
  have x2 : ∀ x, x < 6 → zx A x 2 = zx a x 2 := fun x hx => by rw [hA, zx_o _ _ hx (by decide) (by omega)]
  have x3 : ∀ x, x < 6 → zx A x 3 = zx a x 3 := fun x hx => by rw [hA, zx_o _ _ hx (by decide) (by omega)]
  have p0 : ∀ x k, x < 6 → k < 8 → zp A x k 0 = (if x = y0 ∧ k = k0 ∧ 0 = 0 then 1 else zp a x k 0) := fun x k hx hk => by rw [hA, zp_p _ _ hk (by omega) (by decide) (by decide)]
  have p1 : ∀ x k, x < 6 → k < 8 → zp A x k 1 = zp a x k 1 := fun x k hx hk => by rw [hA, zp_p _ _ hk (by omega) (by decide) (by decide), if_neg (show ¬ (x = y0 ∧ k = k0 ∧ 1 = 0) by omega)]
  have p2 : ∀ x k, x < 6 → k < 8 → zp A x k 2 = zp a x k 2 := fun x k hx hk => by rw [hA, zp_p _ _ hk (by omega) (by decide) (by decide), if_neg (show ¬ (x = y0 ∧ k = k0 ∧ 2 = 0) by omega)]
  have e0 : ∀ n, n < 8 → ze A n 0 = ze a n 0 := fun n hn => by rw [hA, ze_o _ _ (by omega)]
  have e1 : ∀ n, n < 8 → ze A n 1 = ze a n 1 := fun n hn => by rw [hA, ze_o _ _ (by omega)]
  refine ⟨⟨?_, ?_, ?_, ?_⟩, fun k hk => ?_, fun x hx => ?_, fun x k hx hk => ?_, fun n hn => ?_, fun k hk => ?_, fun x hx => ?_, ?_⟩
  · omega
  · omega
  · omega
  · omega
  · rw [d0 k hk, d1 k hk, d2 k hk, d3 k hk, d4 k hk, s0, s3]
    have q := b2 k hk
    have e : 0 < zd a k 4 → ze A (zd a k 4 - 1) 0 = k := fun z => by rw [e0 _ (by omega)]; exact q.2.2.2.2.2.2.2 z
    repeat' split
    all_goals omega
  · rw [x0 x hx, x1 x hx, x2 x hx, x3 x hx, s1]
    have q := b3 x hx
    repeat' split
    all_goals omega
  · rw [p0 x k hx hk, p1 x k hx hk, p2 x k hx hk, x0 x hx, d0 k hk, s0, s1]
    have q := b4 x k hx hk
    repeat' split
    all_goals omega
  · rw [e0 n hn, e1 n hn, s0, s3]
    have q := b5 n hn
    rw [d4 (ze a n 0) (by omega)]
    repeat' split
    all_goals omega
  · rw [zs_cong (fun x hx => p1 x k hx hk)]; exact b6 k hk
  · rw [zs_cong (fun k hk => p1 x k hx hk), x2 x hx]; exact b7 x hx
  · rw [s3, zs_cong (fun k hk => by rw [d4 k hk]), b8]
theorem rB_assign {a : Nat → Nat} (hb : rB a) {y0 k0 : Nat} (hx0 : y0 < 6) (hk0 : k0 < 8) (hy : y0 < a 1) (hk : k0 < a 0) (hne : zx a y0 0 ≠ zd a k0 0) (h0 : zp a y0 k0 1 = 0) (hc : zcnt a k0 < 3) (hl : zload a y0 < zx a y0 2) : rB (zu a (68 + 3 * (8 * y0 + k0) + 1) 1) := by
  obtain ⟨A, hA⟩ : ∃ A, A = (zu a (68 + 3 * (8 * y0 + k0) + 1) 1) := ⟨_, rfl⟩
  rw [← hA]
  obtain ⟨b1, b2, b3, b4, b5, b6, b7, b8⟩ := hb
  obtain ⟨g0, g1, g2, g3⟩ := b1
  have s0 : A 0 = a 0 := by rw [hA, zu_f _ _ (by omega)]
  have s1 : A 1 = a 1 := by rw [hA, zu_f _ _ (by omega)]
  have s2 : A 2 = a 2 := by rw [hA, zu_f _ _ (by omega)]
  have s3 : A 3 = a 3 := by rw [hA, zu_f _ _ (by omega)]
  have d0 : ∀ k, k < 8 → zd A k 0 = zd a k 0 := fun k hk => by rw [hA, zd_o _ _ hk (by decide) (by omega)]
  have d1 : ∀ k, k < 8 → zd A k 1 = zd a k 1 := fun k hk => by rw [hA, zd_o _ _ hk (by decide) (by omega)]
  have d2 : ∀ k, k < 8 → zd A k 2 = zd a k 2 := fun k hk => by rw [hA, zd_o _ _ hk (by decide) (by omega)]
  have d3 : ∀ k, k < 8 → zd A k 3 = zd a k 3 := fun k hk => by rw [hA, zd_o _ _ hk (by decide) (by omega)]
  have d4 : ∀ k, k < 8 → zd A k 4 = zd a k 4 := fun k hk => by rw [hA, zd_o _ _ hk (by decide) (by omega)]
  have x0 : ∀ x, x < 6 → zx A x 0 = zx a x 0 := fun x hx => by rw [hA, zx_o _ _ hx (by decide) (by omega)]
  have x1 : ∀ x, x < 6 → zx A x 1 = zx a x 1 := fun x hx => by rw [hA, zx_o _ _ hx (by decide) (by omega)]
  have x2 : ∀ x, x < 6 → zx A x 2 = zx a x 2 := fun x hx => by rw [hA, zx_o _ _ hx (by decide) (by omega)]
  have x3 : ∀ x, x < 6 → zx A x 3 = zx a x 3 := fun x hx => by rw [hA, zx_o _ _ hx (by decide) (by omega)]
  have p0 : ∀ x k, x < 6 → k < 8 → zp A x k 0 = zp a x k 0 := fun x k hx hk => by rw [hA, zp_p _ _ hk (by omega) (by decide) (by decide), if_neg (show ¬ (x = y0 ∧ k = k0 ∧ 0 = 1) by omega)]
  have p1 : ∀ x k, x < 6 → k < 8 → zp A x k 1 = (if x = y0 ∧ k = k0 ∧ 1 = 1 then 1 else zp a x k 1) := fun x k hx hk => by rw [hA, zp_p _ _ hk (by omega) (by decide) (by decide)]
  have p2 : ∀ x k, x < 6 → k < 8 → zp A x k 2 = zp a x k 2 := fun x k hx hk => by rw [hA, zp_p _ _ hk (by omega) (by decide) (by decide), if_neg (show ¬ (x = y0 ∧ k = k0 ∧ 2 = 1) by omega)]
  have e0 : ∀ n, n < 8 → ze A n 0 = ze a n 0 := fun n hn => by rw [hA, ze_o _ _ (by omega)]
  have e1 : ∀ n, n < 8 → ze A n 1 = ze a n 1 := fun n hn => by rw [hA, ze_o _ _ (by omega)]
  refine ⟨⟨?_, ?_, ?_, ?_⟩, fun k hk => ?_, fun x hx => ?_, fun x k hx hk => ?_, fun n hn => ?_, fun k hk => ?_, fun x hx => ?_, ?_⟩
  · omega
  · omega
  · omega
  · omega
  · rw [d0 k hk, d1 k hk, d2 k hk, d3 k hk, d4 k hk, s0, s3]
    have q := b2 k hk
    have e : 0 < zd a k 4 → ze A (zd a k 4 - 1) 0 = k := fun z => by rw [e0 _ (by omega)]; exact q.2.2.2.2.2.2.2 z
    repeat' split
    all_goals omega
  · rw [x0 x hx, x1 x hx, x2 x hx, x3 x hx, s1]
    have q := b3 x hx
    repeat' split
    all_goals omega
  · rw [p0 x k hx hk, p1 x k hx hk, p2 x k hx hk, x0 x hx, d0 k hk, s0, s1]
    have q := b4 x k hx hk
    split
    · rename_i z
      obtain ⟨rfl, rfl, -⟩ := z
      omega
    · omega
  · rw [e0 n hn, e1 n hn, s0, s3]
    have q := b5 n hn
    rw [d4 (ze a n 0) (by omega)]
    repeat' split
    all_goals omega
  · rw [zs_cong (fun x hx => p1 x k hx hk)]
    by_cases c : k = k0
    · subst c
      have q := zs_upd (fun x => zp a x k 1) y0 1 hx0
      rw [zs_cong (f := fun x => if x = y0 ∧ k = k ∧ 1 = 1 then 1 else zp a x k 1) (g := fun x => if x = y0 then 1 else zp a x k 1) (fun x _ => by by_cases e : x = y0 <;> simp [e])]
      unfold zcnt at hc
      omega
    · rw [zs_cong (g := fun x => zp a x k 1) (fun x _ => if_neg (fun z => c z.2.1))]; exact b6 k hk
  · rw [zs_cong (fun k hk => p1 x k hx hk), x2 x hx]
    by_cases c : x = y0
    · subst c
      have q := zs_upd (fun k => zp a x k 1) k0 1 hk0
      rw [zs_cong (f := fun k => if x = x ∧ k = k0 ∧ 1 = 1 then 1 else zp a x k 1) (g := fun k => if k = k0 then 1 else zp a x k 1) (fun k _ => by by_cases e : k = k0 <;> simp [e])]
      unfold zload at hl
      omega
    · rw [zs_cong (g := fun k => zp a x k 1) (fun k _ => if_neg (fun z => c z.1))]; exact b7 x hx
  · rw [s3, zs_cong (fun k hk => by rw [d4 k hk]), b8]
theorem rB_grade {a : Nat → Nat} (hb : rB a) {y0 k0 : Nat} (hx0 : y0 < 6) (hk0 : k0 < 8) (h1 : zp a y0 k0 1 = 1) {g : Nat} (hg : g ≤ 20) : rB (zu a (68 + 3 * (8 * y0 + k0) + 2) (g + 1)) := by
  obtain ⟨A, hA⟩ : ∃ A, A = (zu a (68 + 3 * (8 * y0 + k0) + 2) (g + 1)) := ⟨_, rfl⟩
  rw [← hA]
  obtain ⟨b1, b2, b3, b4, b5, b6, b7, b8⟩ := hb
  obtain ⟨g0, g1, g2, g3⟩ := b1
  have s0 : A 0 = a 0 := by rw [hA, zu_f _ _ (by omega)]
  have s1 : A 1 = a 1 := by rw [hA, zu_f _ _ (by omega)]
  have s2 : A 2 = a 2 := by rw [hA, zu_f _ _ (by omega)]
  have s3 : A 3 = a 3 := by rw [hA, zu_f _ _ (by omega)]
  have d0 : ∀ k, k < 8 → zd A k 0 = zd a k 0 := fun k hk => by rw [hA, zd_o _ _ hk (by decide) (by omega)]
  have d1 : ∀ k, k < 8 → zd A k 1 = zd a k 1 := fun k hk => by rw [hA, zd_o _ _ hk (by decide) (by omega)]
  have d2 : ∀ k, k < 8 → zd A k 2 = zd a k 2 := fun k hk => by rw [hA, zd_o _ _ hk (by decide) (by omega)]
  have d3 : ∀ k, k < 8 → zd A k 3 = zd a k 3 := fun k hk => by rw [hA, zd_o _ _ hk (by decide) (by omega)]
  have d4 : ∀ k, k < 8 → zd A k 4 = zd a k 4 := fun k hk => by rw [hA, zd_o _ _ hk (by decide) (by omega)]
  have x0 : ∀ x, x < 6 → zx A x 0 = zx a x 0 := fun x hx => by rw [hA, zx_o _ _ hx (by decide) (by omega)]
  have x1 : ∀ x, x < 6 → zx A x 1 = zx a x 1 := fun x hx => by rw [hA, zx_o _ _ hx (by decide) (by omega)]
  have x2 : ∀ x, x < 6 → zx A x 2 = zx a x 2 := fun x hx => by rw [hA, zx_o _ _ hx (by decide) (by omega)]
  have x3 : ∀ x, x < 6 → zx A x 3 = zx a x 3 := fun x hx => by rw [hA, zx_o _ _ hx (by decide) (by omega)]
  have p0 : ∀ x k, x < 6 → k < 8 → zp A x k 0 = zp a x k 0 := fun x k hx hk => by rw [hA, zp_p _ _ hk (by omega) (by decide) (by decide), if_neg (show ¬ (x = y0 ∧ k = k0 ∧ 0 = 2) by omega)]
  have p1 : ∀ x k, x < 6 → k < 8 → zp A x k 1 = zp a x k 1 := fun x k hx hk => by rw [hA, zp_p _ _ hk (by omega) (by decide) (by decide), if_neg (show ¬ (x = y0 ∧ k = k0 ∧ 1 = 2) by omega)]
  have p2 : ∀ x k, x < 6 → k < 8 → zp A x k 2 = (if x = y0 ∧ k = k0 ∧ 2 = 2 then (g + 1) else zp a x k 2) := fun x k hx hk => by rw [hA, zp_p _ _ hk (by omega) (by decide) (by decide)]
  have e0 : ∀ n, n < 8 → ze A n 0 = ze a n 0 := fun n hn => by rw [hA, ze_o _ _ (by omega)]
  have e1 : ∀ n, n < 8 → ze A n 1 = ze a n 1 := fun n hn => by rw [hA, ze_o _ _ (by omega)]
  refine ⟨⟨?_, ?_, ?_, ?_⟩, fun k hk => ?_, fun x hx => ?_, fun x k hx hk => ?_, fun n hn => ?_, fun k hk => ?_, fun x hx => ?_, ?_⟩
  · omega
  · omega
  · omega
  · omega
  · rw [d0 k hk, d1 k hk, d2 k hk, d3 k hk, d4 k hk, s0, s3]
    have q := b2 k hk
    have e : 0 < zd a k 4 → ze A (zd a k 4 - 1) 0 = k := fun z => by rw [e0 _ (by omega)]; exact q.2.2.2.2.2.2.2 z
    repeat' split
    all_goals omega
  · rw [x0 x hx, x1 x hx, x2 x hx, x3 x hx, s1]
    have q := b3 x hx
    repeat' split
    all_goals omega
  · rw [p0 x k hx hk, p1 x k hx hk, p2 x k hx hk, x0 x hx, d0 k hk, s0, s1]
    have q := b4 x k hx hk
    split
    · rename_i z
      obtain ⟨rfl, rfl, -⟩ := z
      omega
    · omega
  · rw [e0 n hn, e1 n hn, s0, s3]
    have q := b5 n hn
    rw [d4 (ze a n 0) (by omega)]
    repeat' split
    all_goals omega
  · rw [zs_cong (fun x hx => p1 x k hx hk)]; exact b6 k hk
  · rw [zs_cong (fun k hk => p1 x k hx hk), x2 x hx]; exact b7 x hx
  · rw [s3, zs_cong (fun k hk => by rw [d4 k hk]), b8]
theorem rB_threshold {a : Nat → Nat} (hb : rB a) {t : Nat} (ht : t ≤ 20) : rB (zu a 2 t) := by
  obtain ⟨A, hA⟩ : ∃ A, A = (zu a 2 t) := ⟨_, rfl⟩
  rw [← hA]
  obtain ⟨b1, b2, b3, b4, b5, b6, b7, b8⟩ := hb
  obtain ⟨g0, g1, g2, g3⟩ := b1
  have s0 : A 0 = a 0 := by rw [hA, zu_f _ _ (by omega)]
  have s1 : A 1 = a 1 := by rw [hA, zu_f _ _ (by omega)]
  have s2 : A 2 = t := by rw [hA, zu_t]
  have s3 : A 3 = a 3 := by rw [hA, zu_f _ _ (by omega)]
  have d0 : ∀ k, k < 8 → zd A k 0 = zd a k 0 := fun k hk => by rw [hA, zd_o _ _ hk (by decide) (by omega)]
  have d1 : ∀ k, k < 8 → zd A k 1 = zd a k 1 := fun k hk => by rw [hA, zd_o _ _ hk (by decide) (by omega)]
  have d2 : ∀ k, k < 8 → zd A k 2 = zd a k 2 := fun k hk => by rw [hA, zd_o _ _ hk (by decide) (by omega)]
  have d3 : ∀ k, k < 8 → zd A k 3 = zd a k 3 := fun k hk => by rw [hA, zd_o _ _ hk (by decide) (by omega)]
  have d4 : ∀ k, k < 8 → zd A k 4 = zd a k 4 := fun k hk => by rw [hA, zd_o _ _ hk (by decide) (by omega)]
  have x0 : ∀ x, x < 6 → zx A x 0 = zx a x 0 := fun x hx => by rw [hA, zx_o _ _ hx (by decide) (by omega)]
  have x1 : ∀ x, x < 6 → zx A x 1 = zx a x 1 := fun x hx => by rw [hA, zx_o _ _ hx (by decide) (by omega)]
  have x2 : ∀ x, x < 6 → zx A x 2 = zx a x 2 := fun x hx => by rw [hA, zx_o _ _ hx (by decide) (by omega)]
  have x3 : ∀ x, x < 6 → zx A x 3 = zx a x 3 := fun x hx => by rw [hA, zx_o _ _ hx (by decide) (by omega)]
  have p0 : ∀ x k, x < 6 → k < 8 → zp A x k 0 = zp a x k 0 := fun x k hx hk => by rw [hA, zp_o _ _ hx hk (by decide) (by omega)]
  have p1 : ∀ x k, x < 6 → k < 8 → zp A x k 1 = zp a x k 1 := fun x k hx hk => by rw [hA, zp_o _ _ hx hk (by decide) (by omega)]
  have p2 : ∀ x k, x < 6 → k < 8 → zp A x k 2 = zp a x k 2 := fun x k hx hk => by rw [hA, zp_o _ _ hx hk (by decide) (by omega)]
  have e0 : ∀ n, n < 8 → ze A n 0 = ze a n 0 := fun n hn => by rw [hA, ze_o _ _ (by omega)]
  have e1 : ∀ n, n < 8 → ze A n 1 = ze a n 1 := fun n hn => by rw [hA, ze_o _ _ (by omega)]
  refine ⟨⟨?_, ?_, ?_, ?_⟩, fun k hk => ?_, fun x hx => ?_, fun x k hx hk => ?_, fun n hn => ?_, fun k hk => ?_, fun x hx => ?_, ?_⟩
  · omega
  · omega
  · omega
  · omega
  · rw [d0 k hk, d1 k hk, d2 k hk, d3 k hk, d4 k hk, s0, s3]
    have q := b2 k hk
    have e : 0 < zd a k 4 → ze A (zd a k 4 - 1) 0 = k := fun z => by rw [e0 _ (by omega)]; exact q.2.2.2.2.2.2.2 z
    repeat' split
    all_goals omega
  · rw [x0 x hx, x1 x hx, x2 x hx, x3 x hx, s1]
    have q := b3 x hx
    repeat' split
    all_goals omega
  · rw [p0 x k hx hk, p1 x k hx hk, p2 x k hx hk, x0 x hx, d0 k hk, s0, s1]
    have q := b4 x k hx hk
    repeat' split
    all_goals omega
  · rw [e0 n hn, e1 n hn, s0, s3]
    have q := b5 n hn
    rw [d4 (ze a n 0) (by omega)]
    repeat' split
    all_goals omega
  · rw [zs_cong (fun x hx => p1 x k hx hk)]; exact b6 k hk
  · rw [zs_cong (fun k hk => p1 x k hx hk), x2 x hx]; exact b7 x hx
  · rw [s3, zs_cong (fun k hk => by rw [d4 k hk]), b8]
theorem rB_appeal {a : Nat → Nat} (hb : rB a) {k0 v : Nat} (hk0 : k0 < a 0) (hv : v ≤ 1) : rB (zu (zu a (4 + 5 * k0 + 2) 1) (4 + 5 * k0 + 3) v) := by
  obtain ⟨A, hA⟩ : ∃ A, A = (zu (zu a (4 + 5 * k0 + 2) 1) (4 + 5 * k0 + 3) v) := ⟨_, rfl⟩
  rw [← hA]
  obtain ⟨b1, b2, b3, b4, b5, b6, b7, b8⟩ := hb
  obtain ⟨g0, g1, g2, g3⟩ := b1
  have s0 : A 0 = a 0 := by rw [hA, zu_f _ _ (by omega), zu_f _ _ (by omega)]
  have s1 : A 1 = a 1 := by rw [hA, zu_f _ _ (by omega), zu_f _ _ (by omega)]
  have s2 : A 2 = a 2 := by rw [hA, zu_f _ _ (by omega), zu_f _ _ (by omega)]
  have s3 : A 3 = a 3 := by rw [hA, zu_f _ _ (by omega), zu_f _ _ (by omega)]
  have d0 : ∀ k, k < 8 → zd A k 0 = zd a k 0 := fun k hk => by rw [hA, zd_d _ _ (by decide) (by decide), if_neg (show ¬ (k = k0 ∧ 0 = 3) by omega), zd_d _ _ (by decide) (by decide), if_neg (show ¬ (k = k0 ∧ 0 = 2) by omega)]
  have d1 : ∀ k, k < 8 → zd A k 1 = zd a k 1 := fun k hk => by rw [hA, zd_d _ _ (by decide) (by decide), if_neg (show ¬ (k = k0 ∧ 1 = 3) by omega), zd_d _ _ (by decide) (by decide), if_neg (show ¬ (k = k0 ∧ 1 = 2) by omega)]
  have d2 : ∀ k, k < 8 → zd A k 2 = (if k = k0 ∧ 2 = 2 then 1 else zd a k 2) := fun k hk => by rw [hA, zd_d _ _ (by decide) (by decide), if_neg (show ¬ (k = k0 ∧ 2 = 3) by omega), zd_d _ _ (by decide) (by decide)]
  have d3 : ∀ k, k < 8 → zd A k 3 = (if k = k0 ∧ 3 = 3 then v else zd a k 3) := fun k hk => by rw [hA, zd_d _ _ (by decide) (by decide), zd_d _ _ (by decide) (by decide), if_neg (show ¬ (k = k0 ∧ 3 = 2) by omega)]
  have d4 : ∀ k, k < 8 → zd A k 4 = zd a k 4 := fun k hk => by rw [hA, zd_d _ _ (by decide) (by decide), if_neg (show ¬ (k = k0 ∧ 4 = 3) by omega), zd_d _ _ (by decide) (by decide), if_neg (show ¬ (k = k0 ∧ 4 = 2) by omega)]
  have x0 : ∀ x, x < 6 → zx A x 0 = zx a x 0 := fun x hx => by rw [hA, zx_o _ _ hx (by decide) (by omega), zx_o _ _ hx (by decide) (by omega)]
  have x1 : ∀ x, x < 6 → zx A x 1 = zx a x 1 := fun x hx => by rw [hA, zx_o _ _ hx (by decide) (by omega), zx_o _ _ hx (by decide) (by omega)]
  have x2 : ∀ x, x < 6 → zx A x 2 = zx a x 2 := fun x hx => by rw [hA, zx_o _ _ hx (by decide) (by omega), zx_o _ _ hx (by decide) (by omega)]
  have x3 : ∀ x, x < 6 → zx A x 3 = zx a x 3 := fun x hx => by rw [hA, zx_o _ _ hx (by decide) (by omega), zx_o _ _ hx (by decide) (by omega)]
  have p0 : ∀ x k, x < 6 → k < 8 → zp A x k 0 = zp a x k 0 := fun x k hx hk => by rw [hA, zp_o _ _ hx hk (by decide) (by omega), zp_o _ _ hx hk (by decide) (by omega)]
  have p1 : ∀ x k, x < 6 → k < 8 → zp A x k 1 = zp a x k 1 := fun x k hx hk => by rw [hA, zp_o _ _ hx hk (by decide) (by omega), zp_o _ _ hx hk (by decide) (by omega)]
  have p2 : ∀ x k, x < 6 → k < 8 → zp A x k 2 = zp a x k 2 := fun x k hx hk => by rw [hA, zp_o _ _ hx hk (by decide) (by omega), zp_o _ _ hx hk (by decide) (by omega)]
  have e0 : ∀ n, n < 8 → ze A n 0 = ze a n 0 := fun n hn => by rw [hA, ze_o _ _ (by omega), ze_o _ _ (by omega)]
  have e1 : ∀ n, n < 8 → ze A n 1 = ze a n 1 := fun n hn => by rw [hA, ze_o _ _ (by omega), ze_o _ _ (by omega)]
  refine ⟨⟨?_, ?_, ?_, ?_⟩, fun k hk => ?_, fun x hx => ?_, fun x k hx hk => ?_, fun n hn => ?_, fun k hk => ?_, fun x hx => ?_, ?_⟩
  · omega
  · omega
  · omega
  · omega
  · rw [d0 k hk, d1 k hk, d2 k hk, d3 k hk, d4 k hk, s0, s3]
    have q := b2 k hk
    have e : 0 < zd a k 4 → ze A (zd a k 4 - 1) 0 = k := fun z => by rw [e0 _ (by omega)]; exact q.2.2.2.2.2.2.2 z
    repeat' split
    all_goals omega
  · rw [x0 x hx, x1 x hx, x2 x hx, x3 x hx, s1]
    have q := b3 x hx
    repeat' split
    all_goals omega
  · rw [p0 x k hx hk, p1 x k hx hk, p2 x k hx hk, x0 x hx, d0 k hk, s0, s1]
    have q := b4 x k hx hk
    repeat' split
    all_goals omega
  · rw [e0 n hn, e1 n hn, s0, s3]
    have q := b5 n hn
    rw [d4 (ze a n 0) (by omega)]
    repeat' split
    all_goals omega
  · rw [zs_cong (fun x hx => p1 x k hx hk)]; exact b6 k hk
  · rw [zs_cong (fun k hk => p1 x k hx hk), x2 x hx]; exact b7 x hx
  · rw [s3, zs_cong (fun k hk => by rw [d4 k hk]), b8]
theorem rB_award {a : Nat → Nat} (hb : rB a) {k0 : Nat} (hk0 : k0 < a 0) (h0 : zd a k0 4 = 0) (hN : a 3 < 8) : rB (zu (zu (zu (zu a (212 + 2 * a 3 + 0) k0) (212 + 2 * a 3 + 1) 0) 3 (a 3 + 1)) (4 + 5 * k0 + 4) (a 3 + 1)) := by
  obtain ⟨A, hA⟩ : ∃ A, A = (zu (zu (zu (zu a (212 + 2 * a 3 + 0) k0) (212 + 2 * a 3 + 1) 0) 3 (a 3 + 1)) (4 + 5 * k0 + 4) (a 3 + 1)) := ⟨_, rfl⟩
  rw [← hA]
  obtain ⟨b1, b2, b3, b4, b5, b6, b7, b8⟩ := hb
  obtain ⟨g0, g1, g2, g3⟩ := b1
  have s0 : A 0 = a 0 := by rw [hA, zu_f _ _ (by omega), zu_f _ _ (by omega), zu_f _ _ (by omega), zu_f _ _ (by omega)]
  have s1 : A 1 = a 1 := by rw [hA, zu_f _ _ (by omega), zu_f _ _ (by omega), zu_f _ _ (by omega), zu_f _ _ (by omega)]
  have s2 : A 2 = a 2 := by rw [hA, zu_f _ _ (by omega), zu_f _ _ (by omega), zu_f _ _ (by omega), zu_f _ _ (by omega)]
  have s3 : A 3 = (a 3 + 1) := by rw [hA, zu_f _ _ (by omega), zu_t]
  have d0 : ∀ k, k < 8 → zd A k 0 = zd a k 0 := fun k hk => by rw [hA, zd_d _ _ (by decide) (by decide), if_neg (show ¬ (k = k0 ∧ 0 = 4) by omega), zd_o _ _ hk (by decide) (by omega), zd_o _ _ hk (by decide) (by omega), zd_o _ _ hk (by decide) (by omega)]
  have d1 : ∀ k, k < 8 → zd A k 1 = zd a k 1 := fun k hk => by rw [hA, zd_d _ _ (by decide) (by decide), if_neg (show ¬ (k = k0 ∧ 1 = 4) by omega), zd_o _ _ hk (by decide) (by omega), zd_o _ _ hk (by decide) (by omega), zd_o _ _ hk (by decide) (by omega)]
  have d2 : ∀ k, k < 8 → zd A k 2 = zd a k 2 := fun k hk => by rw [hA, zd_d _ _ (by decide) (by decide), if_neg (show ¬ (k = k0 ∧ 2 = 4) by omega), zd_o _ _ hk (by decide) (by omega), zd_o _ _ hk (by decide) (by omega), zd_o _ _ hk (by decide) (by omega)]
  have d3 : ∀ k, k < 8 → zd A k 3 = zd a k 3 := fun k hk => by rw [hA, zd_d _ _ (by decide) (by decide), if_neg (show ¬ (k = k0 ∧ 3 = 4) by omega), zd_o _ _ hk (by decide) (by omega), zd_o _ _ hk (by decide) (by omega), zd_o _ _ hk (by decide) (by omega)]
  have d4 : ∀ k, k < 8 → zd A k 4 = (if k = k0 ∧ 4 = 4 then (a 3 + 1) else zd a k 4) := fun k hk => by rw [hA, zd_d _ _ (by decide) (by decide), zd_o _ _ hk (by decide) (by omega), zd_o _ _ hk (by decide) (by omega), zd_o _ _ hk (by decide) (by omega)]
  have x0 : ∀ x, x < 6 → zx A x 0 = zx a x 0 := fun x hx => by rw [hA, zx_o _ _ hx (by decide) (by omega), zx_o _ _ hx (by decide) (by omega), zx_o _ _ hx (by decide) (by omega), zx_o _ _ hx (by decide) (by omega)]
  have x1 : ∀ x, x < 6 → zx A x 1 = zx a x 1 := fun x hx => by rw [hA, zx_o _ _ hx (by decide) (by omega), zx_o _ _ hx (by decide) (by omega), zx_o _ _ hx (by decide) (by omega), zx_o _ _ hx (by decide) (by omega)]
  have x2 : ∀ x, x < 6 → zx A x 2 = zx a x 2 := fun x hx => by rw [hA, zx_o _ _ hx (by decide) (by omega), zx_o _ _ hx (by decide) (by omega), zx_o _ _ hx (by decide) (by omega), zx_o _ _ hx (by decide) (by omega)]
  have x3 : ∀ x, x < 6 → zx A x 3 = zx a x 3 := fun x hx => by rw [hA, zx_o _ _ hx (by decide) (by omega), zx_o _ _ hx (by decide) (by omega), zx_o _ _ hx (by decide) (by omega), zx_o _ _ hx (by decide) (by omega)]
  have p0 : ∀ x k, x < 6 → k < 8 → zp A x k 0 = zp a x k 0 := fun x k hx hk => by rw [hA, zp_o _ _ hx hk (by decide) (by omega), zp_o _ _ hx hk (by decide) (by omega), zp_o _ _ hx hk (by decide) (by omega), zp_o _ _ hx hk (by decide) (by omega)]
  have p1 : ∀ x k, x < 6 → k < 8 → zp A x k 1 = zp a x k 1 := fun x k hx hk => by rw [hA, zp_o _ _ hx hk (by decide) (by omega), zp_o _ _ hx hk (by decide) (by omega), zp_o _ _ hx hk (by decide) (by omega), zp_o _ _ hx hk (by decide) (by omega)]
  have p2 : ∀ x k, x < 6 → k < 8 → zp A x k 2 = zp a x k 2 := fun x k hx hk => by rw [hA, zp_o _ _ hx hk (by decide) (by omega), zp_o _ _ hx hk (by decide) (by omega), zp_o _ _ hx hk (by decide) (by omega), zp_o _ _ hx hk (by decide) (by omega)]
  have e0 : ∀ n, n < 8 → ze A n 0 = (if n = a 3 ∧ 0 = 0 then k0 else ze a n 0) := fun n hn => by rw [hA, ze_o _ _ (by omega), ze_o _ _ (by omega), ze_e _ _ (by decide) (by decide), if_neg (show ¬ (n = a 3 ∧ 0 = 1) by omega), ze_e _ _ (by decide) (by decide)]
  have e1 : ∀ n, n < 8 → ze A n 1 = (if n = a 3 ∧ 1 = 1 then 0 else ze a n 1) := fun n hn => by rw [hA, ze_o _ _ (by omega), ze_o _ _ (by omega), ze_e _ _ (by decide) (by decide), ze_e _ _ (by decide) (by decide), if_neg (show ¬ (n = a 3 ∧ 1 = 0) by omega)]
  refine ⟨⟨?_, ?_, ?_, ?_⟩, fun k hk => ?_, fun x hx => ?_, fun x k hx hk => ?_, fun n hn => ?_, fun k hk => ?_, fun x hx => ?_, ?_⟩
  · omega
  · omega
  · omega
  · have q := zs_upd (fun k => if 0 < zd a k 4 then 1 else 0) k0 1 (n := 8) (by omega)
    have q2 := zs_bound (f := fun k => if k = k0 then 1 else if 0 < zd a k 4 then 1 else 0) (c := 1) (n := 8) (fun k _ => by show (if _ then _ else _) ≤ 1; split; exact Nat.le_refl 1; split <;> omega)
    have q3 : (if 0 < zd a k0 4 then 1 else 0) = 0 := if_neg (by omega)
    omega
  · rw [d0 k hk, d1 k hk, d2 k hk, d3 k hk, d4 k hk, s0, s3]
    have q := b2 k hk
    by_cases c : k = k0
    · subst c
      rw [if_pos ⟨rfl, rfl⟩]
      have e : ze A (a 3 + 1 - 1) 0 = k := by rw [show a 3 + 1 - 1 = a 3 by omega, e0 _ hN, if_pos ⟨rfl, rfl⟩]
      omega
    · rw [if_neg (fun z => c z.1)]
      have e : 0 < zd a k 4 → ze A (zd a k 4 - 1) 0 = k := fun z => by rw [e0 _ (by omega), if_neg (by omega)]; exact q.2.2.2.2.2.2.2 z
      omega
  · rw [x0 x hx, x1 x hx, x2 x hx, x3 x hx, s1]
    have q := b3 x hx
    repeat' split
    all_goals omega
  · rw [p0 x k hx hk, p1 x k hx hk, p2 x k hx hk, x0 x hx, d0 k hk, s0, s1]
    have q := b4 x k hx hk
    repeat' split
    all_goals omega
  · rw [e0 n hn, e1 n hn, s0, s3]
    have q := b5 n hn
    by_cases c : n = a 3
    · rw [if_pos ⟨c, rfl⟩, if_pos ⟨c, rfl⟩, d4 k0 (by omega), if_pos ⟨rfl, rfl⟩]
      omega
    · rw [if_neg (fun z => c z.1), if_neg (fun z => c z.1), d4 (ze a n 0) (by omega)]
      by_cases c2 : ze a n 0 = k0
      · rw [c2] at q
        rw [if_pos ⟨c2, rfl⟩]
        omega
      · rw [if_neg (fun z => c2 z.1)]
        omega
  · rw [zs_cong (fun x hx => p1 x k hx hk)]; exact b6 k hk
  · rw [zs_cong (fun k hk => p1 x k hx hk), x2 x hx]; exact b7 x hx
  · rw [s3, zs_cong (g := fun k => if k = k0 then 1 else if 0 < zd a k 4 then 1 else 0) (fun k hk => by rw [d4 k hk]; by_cases c : k = k0 <;> simp [c])]
    have q := zs_upd (fun k => if 0 < zd a k 4 then 1 else 0) k0 1 (n := 8) (by omega)
    have q3 : (if 0 < zd a k0 4 then 1 else 0) = 0 := if_neg (by omega)
    omega
theorem rB_revoke {a : Nat → Nat} (hb : rB a) {n0 : Nat} (hn0 : n0 < a 3) : rB (zu a (212 + 2 * n0 + 1) 1) := by
  obtain ⟨A, hA⟩ : ∃ A, A = (zu a (212 + 2 * n0 + 1) 1) := ⟨_, rfl⟩
  rw [← hA]
  obtain ⟨b1, b2, b3, b4, b5, b6, b7, b8⟩ := hb
  obtain ⟨g0, g1, g2, g3⟩ := b1
  have s0 : A 0 = a 0 := by rw [hA, zu_f _ _ (by omega)]
  have s1 : A 1 = a 1 := by rw [hA, zu_f _ _ (by omega)]
  have s2 : A 2 = a 2 := by rw [hA, zu_f _ _ (by omega)]
  have s3 : A 3 = a 3 := by rw [hA, zu_f _ _ (by omega)]
  have d0 : ∀ k, k < 8 → zd A k 0 = zd a k 0 := fun k hk => by rw [hA, zd_o _ _ hk (by decide) (by omega)]
  have d1 : ∀ k, k < 8 → zd A k 1 = zd a k 1 := fun k hk => by rw [hA, zd_o _ _ hk (by decide) (by omega)]
  have d2 : ∀ k, k < 8 → zd A k 2 = zd a k 2 := fun k hk => by rw [hA, zd_o _ _ hk (by decide) (by omega)]
  have d3 : ∀ k, k < 8 → zd A k 3 = zd a k 3 := fun k hk => by rw [hA, zd_o _ _ hk (by decide) (by omega)]
  have d4 : ∀ k, k < 8 → zd A k 4 = zd a k 4 := fun k hk => by rw [hA, zd_o _ _ hk (by decide) (by omega)]
  have x0 : ∀ x, x < 6 → zx A x 0 = zx a x 0 := fun x hx => by rw [hA, zx_o _ _ hx (by decide) (by omega)]
  have x1 : ∀ x, x < 6 → zx A x 1 = zx a x 1 := fun x hx => by rw [hA, zx_o _ _ hx (by decide) (by omega)]
  have x2 : ∀ x, x < 6 → zx A x 2 = zx a x 2 := fun x hx => by rw [hA, zx_o _ _ hx (by decide) (by omega)]
  have x3 : ∀ x, x < 6 → zx A x 3 = zx a x 3 := fun x hx => by rw [hA, zx_o _ _ hx (by decide) (by omega)]
  have p0 : ∀ x k, x < 6 → k < 8 → zp A x k 0 = zp a x k 0 := fun x k hx hk => by rw [hA, zp_o _ _ hx hk (by decide) (by omega)]
  have p1 : ∀ x k, x < 6 → k < 8 → zp A x k 1 = zp a x k 1 := fun x k hx hk => by rw [hA, zp_o _ _ hx hk (by decide) (by omega)]
  have p2 : ∀ x k, x < 6 → k < 8 → zp A x k 2 = zp a x k 2 := fun x k hx hk => by rw [hA, zp_o _ _ hx hk (by decide) (by omega)]
  have e0 : ∀ n, n < 8 → ze A n 0 = ze a n 0 := fun n hn => by rw [hA, ze_e _ _ (by decide) (by decide), if_neg (show ¬ (n = n0 ∧ 0 = 1) by omega)]
  have e1 : ∀ n, n < 8 → ze A n 1 = (if n = n0 ∧ 1 = 1 then 1 else ze a n 1) := fun n hn => by rw [hA, ze_e _ _ (by decide) (by decide)]
  refine ⟨⟨?_, ?_, ?_, ?_⟩, fun k hk => ?_, fun x hx => ?_, fun x k hx hk => ?_, fun n hn => ?_, fun k hk => ?_, fun x hx => ?_, ?_⟩
  · omega
  · omega
  · omega
  · omega
  · rw [d0 k hk, d1 k hk, d2 k hk, d3 k hk, d4 k hk, s0, s3]
    have q := b2 k hk
    have e : 0 < zd a k 4 → ze A (zd a k 4 - 1) 0 = k := fun z => by rw [e0 _ (by omega)]; exact q.2.2.2.2.2.2.2 z
    repeat' split
    all_goals omega
  · rw [x0 x hx, x1 x hx, x2 x hx, x3 x hx, s1]
    have q := b3 x hx
    repeat' split
    all_goals omega
  · rw [p0 x k hx hk, p1 x k hx hk, p2 x k hx hk, x0 x hx, d0 k hk, s0, s1]
    have q := b4 x k hx hk
    repeat' split
    all_goals omega
  · rw [e0 n hn, e1 n hn, s0, s3]
    have q := b5 n hn
    rw [d4 (ze a n 0) (by omega)]
    repeat' split
    all_goals omega
  · rw [zs_cong (fun x hx => p1 x k hx hk)]; exact b6 k hk
  · rw [zs_cong (fun k hk => p1 x k hx hk), x2 x hx]; exact b7 x hx
  · rw [s3, zs_cong (fun k hk => by rw [d4 k hk]), b8]
theorem zN_lt {a : Nat → Nat} (hb : rB a) {k0 : Nat} (hk0 : k0 < 8) (h0 : zd a k0 4 = 0) : a 3 < 8 := by
  have q := zs_upd (fun k => if 0 < zd a k 4 then 1 else 0) k0 1 (n := 8) hk0
  have q2 := zs_bound (f := fun k => if k = k0 then 1 else if 0 < zd a k 4 then 1 else 0) (c := 1) (n := 8) (fun k _ => by show (if _ then _ else _) ≤ 1; split; exact Nat.le_refl 1; split <;> omega)
  have q3 : (if 0 < zd a k0 4 then 1 else 0) = 0 := if_neg (by omega)
  have q4 := hb.2.2.2.2.2.2.2
  omega
