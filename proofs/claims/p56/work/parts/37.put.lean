/-! The best plan carried out: the row behind it; the class's putPlan. -/
theorem zload_u {a : Nat → Nat} {x k y : Nat} (hk : k < 8) (h0 : zp a x k 1 = 0) : zload (zu a (68 + 3 * (8 * x + k) + 1) 1) y = zload a y + if y = x then 1 else 0 := by
  unfold zload
  by_cases e : y = x
  · subst e
    rw [if_pos rfl]
    have h1 := zs_upd (fun j => zp a y j 1) k 1 hk
    have h2 : zs (fun j => zp (zu a (68 + 3 * (8 * y + k) + 1) 1) y j 1) 8 = zs (fun j => if j = k then 1 else zp a y j 1) 8 := zs_cong (fun j hj => by
      rw [zp_p a 1 hj hk (by decide) (by decide)]
      by_cases e : j = k
      · rw [if_pos ⟨rfl, e, rfl⟩, if_pos e]
      · rw [if_neg (fun z => e z.2.1), if_neg e])
    rw [h2]
    omega
  · rw [if_neg e]
    exact zs_cong (fun j hj => by
      rw [zp_p a 1 hj hk (by decide) (by decide)]
      exact if_neg (fun z => e z.1))
noncomputable def zpr (a : Nat → Nat) : Nat → Nat → Nat
  | 0 => a
  | k + 1 => if zbp (zG0 a) (zC0 a) (a 0) k = 0 then zpr a k else zu (zpr a k) (68 + 3 * (8 * (zbp (zG0 a) (zC0 a) (a 0) k - 1) + k) + 1) 1
def zpi (a : Nat → Nat) (k : Nat) : Prop := rB (zpr a k) ∧ (∀ q, q < 68 ∨ 212 ≤ q → zpr a k q = a q) ∧ (∀ x, x < a 1 → (zpl (zG0 a) (zC0 a) (a 0) k).1 x + zload (zpr a k) x = zx a x 2) ∧ ∀ x j w, x < 6 → k ≤ j → j < 8 → w < 3 → zp (zpr a k) x j w = zp a x j w
theorem zpr_s {a : Nat → Nat} {k x : Nat} (h : zbp (zG0 a) (zC0 a) (a 0) k = x + 1) : zpr a (k + 1) = zu (zpr a k) (68 + 3 * (8 * x + k) + 1) 1 := by
  show (if _ then _ else _) = _
  rw [if_neg (by omega), h, Nat.add_sub_cancel]
theorem zpr_0 {a : Nat → Nat} {k : Nat} (h : zbp (zG0 a) (zC0 a) (a 0) k = 0) : zpr a (k + 1) = zpr a k := if_pos h
theorem zpi_k {a : Nat → Nat} (hb : rB a) : ∀ k, k ≤ a 0 → zpi a k
  | 0, _ => by
    refine ⟨hb, fun _ _ => rfl, fun x hx => ?_, fun _ _ _ _ _ _ _ => rfl⟩
    have hE := rB_E hb
    have := zload_le hb (x := x) (by omega)
    show zC0 a x + zload a x = zx a x 2
    unfold zC0
    rw [if_pos hx]; omega
  | k + 1, hk => by
    obtain ⟨i1, i2, i3, i4⟩ := zpi_k hb k (by omega)
    have hE := rB_E hb
    have hD := rB_D hb
    by_cases q : zbp (zG0 a) (zC0 a) (a 0) k = 0
    · refine ⟨by rw [zpr_0 q]; exact i1, by rw [zpr_0 q]; exact i2, by rw [zpr_0 q, zpl_0 q]; exact i3, fun x j w hx hj hj8 hw => by rw [zpr_0 q]; exact i4 x j w hx (by omega) hj8 hw⟩
    · obtain ⟨x, hx, e, wG, wc, wl⟩ := zbp_s q
      have hk8 : k < 8 := by omega
      have z0 : zp (zpr a k) x k 1 = 0 := by rw [i4 x k 1 hx (Nat.le_refl _) hk8 (by decide)]; exact wG.2.2.2
      have hxE : x < a 1 := wG.1
      have h3 := i3 x hxE
      have cx : ∀ y w, y < 6 → w < 4 → zx (zpr a k) y w = zx a y w := fun y w hy hw => by unfold zx; exact i2 _ (by omega)
      have cd : ∀ j w, j < 8 → w < 5 → zd (zpr a k) j w = zd a j w := fun j w hj hw => by unfold zd; exact i2 _ (by omega)
      have wn := wG.2.2.1.1.1
      rw [zpi, zpr_s e]
      refine ⟨rB_assign i1 hx hk8 (by rw [i2 1 (by omega)]; exact hxE) (by rw [i2 0 (by omega)]; omega) (by rw [cx x 0 hx (by decide), cd k 0 hk8 (by decide)]; exact wn) z0 ?_ ?_, fun p hp => ?_, fun y hy => ?_, fun y j w hy hj hj8 hw => ?_⟩
      · have : zcnt (zpr a k) k = zcnt a k := zs_cong (fun y hy => i4 y k 1 hy (Nat.le_refl _) hk8 (by decide))
        rw [this]; exact wG.2.1
      · rw [cx x 2 hx (by decide)]; omega
      · rw [zu_f _ _ (by omega)]; exact i2 p hp
      · rw [zload_u hk8 z0, zpl_s q, e, Nat.add_sub_cancel]
        have h4 := i3 y hy
        show zsub (zpl (zG0 a) (zC0 a) (a 0) k).1 x y + _ = _
        unfold zsub
        by_cases r : y = x
        · subst r; rw [if_pos rfl, if_pos rfl]; omega
        · rw [if_neg r, if_neg r]; omega
      · rw [zp_p _ 1 hj8 hk8 hw (by decide), if_neg (by omega)]
        exact i4 y j w hy (by omega) hj8 hw
noncomputable def oPlan (a : Nat → Nat) : Nat × Nat × (Nat → Nat) := (0, zmx (zG0 a) (zC0 a) 0 (a 0), zpr a (a 0))
theorem oPlan_B {a : Nat → Nat} (hb : rB a) : rB (oPlan a).2.2 := (zpi_k hb (a 0) (Nat.le_refl _)).1
theorem u5_putPlan {M : sM} {i : Nat} {a : Nat → Nat} (hS : rS M i a) (hb : rB a) (h6 : ∀ j, j < a 0 → M 6 j = nP (zbp (zG0 a) (zC0 a) (a 0) j)) {Q : Int32 → sM → Prop} (h : ∀ M', fr (sw_st i) (sw_st i + 17) M M' → rS M' i (zpr a (a 0)) → Q (nI (zmx (zG0 a) (zC0 a) 0 (a 0))) M') : wX5_putPlan i M Q := by
  have hD := rB_D hb
  have key : ∀ m k, k + m = a 0 → ∀ M2, fr (sw_st i) (sw_st i + 17) M M2 → rS M2 i (zpr a k) → lX5_putPlan_4 i (fun x2_4k M_4k => Q x2_4k M_4k) (m + 1) (nI (zs (fun j => if zbp (zG0 a) (zC0 a) (a 0) j = 0 then 0 else 1) k)) (nI k) M2 := by
    intro m
    induction m with
    | zero =>
      intro k hk M2 f2 s2
      have e : k = a 0 := by omega
      subst e
      have I := zpi_k hb (a 0) (Nat.le_refl _)
      unfold lX5_putPlan_4
      rw [rS_D s2, I.2.1 0 (by omega), zpl_all hD]
      exact brt (nI_le (Nat.le_refl _) (by omega)) (h M2 f2 s2)
    | succ m ih =>
      intro k hk M2 f2 s2
      have I := zpi_k hb k (by omega)
      have hk8 : k < 8 := by omega
      unfold lX5_putPlan_4
      rw [rS_D s2, I.2.1 0 (by omega)]
      refine brf (nI_ge (by omega) (by omega)) ⟨vin hk8 (by decide), ?_⟩
      rw [cl (by omega), f2 6 (by unfold sw_st; omega), h6 k (by omega)]
      have b6 := zbp_6 (G := zG0 a) (c := zC0 a) (d := a 0) (k := k)
      refine bri (nP_n1 (by omega)) (fun z => ?_) (fun z => ?_)
      · intro v4 e4
        subst e4
        have r := ih (k + 1) (by omega) M2 f2 (by rw [zpr_0 z]; exact s2)
        rw [zs_succ, if_pos z, Nat.add_zero, nI_succ] at r
        exact r
      · obtain ⟨x, hx, e, wG, wc, wl⟩ := zbp_s z
        have z0 : zp (zpr a k) x k 1 = 0 := by rw [I.2.2.2 x k 1 hx (Nat.le_refl _) hk8 (by decide)]; exact wG.2.2.2
        rw [e, nP_S]
        refine ⟨vin hk8 (by decide), vin hx (by decide), vin hx (by decide), ?_⟩
        intro M8 e8 v9 e9 v10 e10
        subst e9 e10
        rw [cl (by omega), rS_as s2 hx, zb_or _ (by have := zm_lt (zm_p1 I.1 hx); omega) k (by omega) (by rw [zm_bit (zm_p1 I.1 hx) hk8]; exact z0)] at e8
        have s8 : rS M8 i (zpr a (k + 1)) := by
          rw [zpr_s e, e8]
          exact rU_as s2 hx hk8 z0
        have r := ih (k + 1) (by omega) M8 (fr_t f2 (by rw [e8]; exact fr_s M2 _ _ (by omega))) s8
        rw [zs_succ, if_neg z, nI_succ, nI_succ] at r
        exact r
  unfold wX5_putPlan
  exact ⟨a 0 + 1, key (a 0) 0 (by omega) M (fr_r _ _ _) hS⟩
