/-! The first picture: class and reference agree from the start. -/
def za0 : Nat → Nat := fun p => if p = 2 then 10 else 0
theorem za_d (k w : Nat) : zd za0 k w = 0 := if_neg (show ¬ 4 + 5 * k + w = 2 by omega)
theorem za_x (k w : Nat) : zx za0 k w = 0 := if_neg (show ¬ 44 + 4 * k + w = 2 by omega)
theorem za_p (x k w : Nat) : zp za0 x k w = 0 := if_neg (show ¬ 68 + 3 * (8 * x + k) + w = 2 by omega)
theorem za_e (k w : Nat) : ze za0 k w = 0 := if_neg (show ¬ 212 + 2 * k + w = 2 by omega)
theorem za_B : rB za0 := by
  have e0 : za0 0 = 0 := rfl
  have e1 : za0 1 = 0 := rfl
  have e3 : za0 3 = 0 := rfl
  refine ⟨⟨by rw [e0]; omega, by rw [e1]; omega, by decide, by rw [e3]; omega⟩, fun k hk => ?_, fun x hx => ?_, fun x k hx hk => ?_, fun n hn => ?_, fun k hk => ?_, fun x hx => ?_, ?_⟩
  · simp [za_d, za_e, e0, e3]
  · simp [za_x, e1]
  · simp [za_p, za_x, za_d, e1, e0]
  · simp [za_e, za_d, e3, e0]
  · simp only [za_p]; decide
  · simp only [za_p, za_x]; decide
  · simp only [za_d, e3]; decide
def zz0 : zG := (za0, (0, fun _ => za0), (0, za0), (0, fun _ => 0), (-1, -1), (0, fun _ => 0))
theorem zz_G : GI zz0 := ⟨za_B, ⟨Nat.zero_le _, fun j hj => absurd hj (Nat.not_lt_zero _)⟩, ⟨Nat.zero_le _, fun h => absurd h (by decide)⟩, ⟨Nat.zero_le _, fun j hj => absurd hj (Nat.not_lt_zero _)⟩, ⟨by decide, by decide⟩, ⟨Nat.zero_le _, fun j hj => absurd hj (Nat.not_lt_zero _)⟩⟩
/-- what stands in the cells at the start -/
def zMok (M : sM) : Prop := (∀ j, M 0 j = if j = 8 ∨ j = 9 then -1 else 0) ∧ (∀ k j, 0 < k → k < 33 → M k j = 0) ∧ (∀ j, M 33 j = if j = 16 ∨ j = 17 then -1 else 0) ∧ (∀ j, M 34 j = if j = 2 then 10 else 0) ∧ (∀ k j, 34 < k → k < 46 → M k j = 0) ∧ (∀ j, M 46 j = if j = 14 then 10 else 0) ∧ (∀ r j, 0 < r → r < 11 → M (46 + r) j = 0) ∧ ∀ x k, x < 6 → k < 8 → M (57 + x) k = -1
theorem zz_S {M : sM} (h : zMok M) : rS M 0 za0 := by
  obtain ⟨h0, h1, h2, h3, h4, h5, h6, h7⟩ := h
  have hm : ∀ f : Nat → Nat, (∀ k, f k = 0) → zm f = 0 := fun f hf => by rw [show f = fun _ => 0 from funext hf]; decide
  refine ⟨⟨?_, ?_, ?_, ?_, ?_, ?_, ?_⟩, fun k hk => ⟨?_, ?_, ?_⟩, fun x hx => ⟨?_, ?_, ?_, ?_, ?_, ?_⟩, fun x k hx hk => ?_⟩
  · rw [hm _ (fun k => za_d k 2)]; exact h5 0
  · rw [hm _ (fun k => za_d k 3)]; exact h5 1
  · rw [hm _ (fun k => za_e k 1)]; exact h5 2
  · exact h5 3
  · exact h5 6
  · exact h5 14
  · exact h5 15
  · rw [za_d]; exact h6 1 k (by decide) (by decide)
  · rw [za_d]; exact h6 2 k (by decide) (by decide)
  · rw [za_e]; exact h6 9 k (by decide) (by decide)
  · rw [za_x]; exact h6 3 x (by decide) (by decide)
  · rw [za_x]; exact h6 4 x (by decide) (by decide)
  · rw [za_x]; exact h6 5 x (by decide) (by decide)
  · rw [za_x]; exact h6 6 x (by decide) (by decide)
  · rw [hm _ (fun k => za_p x k 0)]; exact h6 7 x (by decide) (by decide)
  · rw [hm _ (fun k => za_p x k 1)]; exact h6 8 x (by decide) (by decide)
  · rw [za_p]; exact h7 x k hx hk
theorem zz_C {M : sM} (h : zMok M) : CI M zz0 := by
  have hs := zz_S h
  obtain ⟨h0, h1, h2, h3, h4, h5, h6, h7⟩ := h
  exact ⟨hs, ⟨h1 1 2 (by decide) (by decide), 0, by decide, h1 1 1 (by decide) (by decide), fun j hj => absurd hj (Nat.not_lt_zero _)⟩, ⟨h0 2, fun z => absurd z (by decide)⟩, ⟨h1 14 1 (by decide) (by decide), fun j hj => absurd hj (Nat.not_lt_zero _)⟩, ⟨h0 8, h0 9⟩, h1 31 1 (by decide) (by decide), fun j hj => absurd hj (Nat.not_lt_zero _)⟩
theorem z_refs {D : va_G} {cl : List vw_C} {q n : Nat} {c : ClassId} {f f' : Nat → Option Nat} {H : Heap} (hf : ∀ j, j < n → f j = f' j) (h : va_at D cl (q, .inl (c, n, .inr (.inr (.inr (.inr f))))) H) : va_at D cl (q, .inl (c, n, .inr (.inr (.inr (.inr f'))))) H := by
  have e : vp_cell c (n, .inr (.inr (.inr (.inr f)))) = vp_cell c (n, .inr (.inr (.inr (.inr f')))) := by
    show arrV c n (fun j => va_rf (f j)) = arrV c n (fun j => va_rf (f' j))
    unfold arrV
    congr 1
    exact congrArg Array.ofFn (funext fun j => congrArg va_rf (hf j j.isLt))
  show H[q]? = some (vp_cell c (n, .inr (.inr (.inr (.inr f')))))
  rw [← e]
  exact h
/-- the address of a State's r-th cell -/
def sAd (q : Nat) (u : Nat → Nat) (r : Nat) : Nat := if r = 0 then q else if r < 9 then u r else if r = 9 then u 10 else if r = 10 then u 9 else u 9 + 1 + (r - 11)
def zlp (r : Nat) : Nat := if r < 9 then r else if r = 9 then 16 else r - 1
def zSE (ac : Nat → ClassId) (u : Nat → Nat) (M : Nat → Nat → Int32) (r : Nat) : va_E := match r with
  | 0 => .inr (5, [.int 0, .int 0, .int 0, .int 0, .ref (u 1), .ref (u 2), .int 0, .ref (u 3), .ref (u 4), .ref (u 5), .ref (u 6), .ref (u 7), .ref (u 8), .ref (u 9), .int 10, .int 0, .ref (u 10)])
  | 1 => .inl (ac 0, 8, .inl (fun _ => 0))
  | 2 => .inl (ac 1, 8, .inl (fun _ => 0))
  | 3 => .inl (ac 0, 6, .inl (fun _ => 0))
  | 4 => .inl (ac 1, 6, .inl (fun _ => 0))
  | 5 => .inl (ac 1, 6, .inl (fun _ => 0))
  | 6 => .inl (ac 1, 6, .inl (fun _ => 0))
  | 7 => .inl (ac 1, 6, .inl (fun _ => 0))
  | 8 => .inl (ac 1, 6, .inl (fun _ => 0))
  | 9 => .inl (ac 1, 8, .inl (fun _ => 0))
  | 10 => .inl (ac 4, 6, .inr (.inr (.inr (.inr (fun j => some (u 9 + 1 + j))))))
  | 11 => .inl (ac 1, 8, .inl (M 0))
  | 12 => .inl (ac 1, 8, .inl (M 1))
  | 13 => .inl (ac 1, 8, .inl (M 2))
  | 14 => .inl (ac 1, 8, .inl (M 3))
  | 15 => .inl (ac 1, 8, .inl (M 4))
  | _ => .inl (ac 1, 8, .inl (M 5))
theorem zS_get (ac : Nat → ClassId) (q : Nat) (u : Nat → Nat) (M : Nat → Nat → Int32) : ∀ r, r < 17 → (zWs ac q u M)[zlp r]? = some (sAd q u r, zSE ac u M r)
  | 0, _ => rfl
  | 1, _ => rfl
  | 2, _ => rfl
  | 3, _ => rfl
  | 4, _ => rfl
  | 5, _ => rfl
  | 6, _ => rfl
  | 7, _ => rfl
  | 8, _ => rfl
  | 9, _ => rfl
  | 10, _ => rfl
  | 11, _ => rfl
  | 12, _ => rfl
  | 13, _ => rfl
  | 14, _ => rfl
  | 15, _ => rfl
  | 16, _ => rfl
  | k + 17, h => absurd h (by omega)
theorem zS_at {D : va_G} {cl : List vw_C} {g : sG} {M : sM} {b q a : Nat} {u : Nat → Nat} {Mu : Nat → Nat → Int32} {H : Heap} (hA : ∀ r, r < 17 → sw_ad g (b + r) = sAd q u r) (h0 : ∀ j, M b j = if j = 14 then 10 else 0) (h1 : ∀ r, 0 < r → r < 11 → ∀ j, M (b + r) j = 0) (h2 : ∀ x, x < 6 → M (b + (11 + x)) = Mu x) : ∀ r, r < 17 → va_at D cl (a, zSE (sw_ac g) u Mu r) H → va_at D cl (a, sw_mk g (M (b + r)) (sw_layS b r)) H
  | 0, _, h => by
    have e : sw_mk g (M (b + 0)) (sw_layS b 0) = zSE (sw_ac g) u Mu 0 := by
      show (.inr (5, [.int (M b 0), .int (M b 1), .int (M b 2), .int (M b 3), .ref (sw_ad g (b + 1)), .ref (sw_ad g (b + 2)), .int (M b 6), .ref (sw_ad g (b + 3)), .ref (sw_ad g (b + 4)), .ref (sw_ad g (b + 5)), .ref (sw_ad g (b + 6)), .ref (sw_ad g (b + 7)), .ref (sw_ad g (b + 8)), .ref (sw_ad g (b + 10)), .int (M b 14), .int (M b 15), .ref (sw_ad g (b + 9))]) : va_E) = _
      rw [h0 0, h0 1, h0 2, h0 3, h0 6, h0 14, h0 15, hA 1 (by decide), hA 2 (by decide), hA 3 (by decide), hA 4 (by decide), hA 5 (by decide), hA 6 (by decide), hA 7 (by decide), hA 8 (by decide), hA 9 (by decide), hA 10 (by decide)]
      rfl
    rw [e]; exact h
  | 1, _, h => by
    have e : M (b + 1) = fun _ => 0 := funext (h1 1 (by decide) (by decide))
    show va_at D cl (a, .inl (_, _, .inl (M (b + 1)))) H
    rw [e]; exact h
  | 2, _, h => by
    have e : M (b + 2) = fun _ => 0 := funext (h1 2 (by decide) (by decide))
    show va_at D cl (a, .inl (_, _, .inl (M (b + 2)))) H
    rw [e]; exact h
  | 3, _, h => by
    have e : M (b + 3) = fun _ => 0 := funext (h1 3 (by decide) (by decide))
    show va_at D cl (a, .inl (_, _, .inl (M (b + 3)))) H
    rw [e]; exact h
  | 4, _, h => by
    have e : M (b + 4) = fun _ => 0 := funext (h1 4 (by decide) (by decide))
    show va_at D cl (a, .inl (_, _, .inl (M (b + 4)))) H
    rw [e]; exact h
  | 5, _, h => by
    have e : M (b + 5) = fun _ => 0 := funext (h1 5 (by decide) (by decide))
    show va_at D cl (a, .inl (_, _, .inl (M (b + 5)))) H
    rw [e]; exact h
  | 6, _, h => by
    have e : M (b + 6) = fun _ => 0 := funext (h1 6 (by decide) (by decide))
    show va_at D cl (a, .inl (_, _, .inl (M (b + 6)))) H
    rw [e]; exact h
  | 7, _, h => by
    have e : M (b + 7) = fun _ => 0 := funext (h1 7 (by decide) (by decide))
    show va_at D cl (a, .inl (_, _, .inl (M (b + 7)))) H
    rw [e]; exact h
  | 8, _, h => by
    have e : M (b + 8) = fun _ => 0 := funext (h1 8 (by decide) (by decide))
    show va_at D cl (a, .inl (_, _, .inl (M (b + 8)))) H
    rw [e]; exact h
  | 9, _, h => by
    have e : M (b + 9) = fun _ => 0 := funext (h1 9 (by decide) (by decide))
    show va_at D cl (a, .inl (_, _, .inl (M (b + 9)))) H
    rw [e]; exact h
  | 10, _, h => z_refs (fun j hj => by
    show some (u 9 + 1 + j) = some (sw_ad g (b + 11 + 1 * j))
    rw [show b + 11 + 1 * j = b + (11 + j) by omega, hA (11 + j) (by omega)]
    unfold sAd
    rw [if_neg (by omega), if_neg (by omega), if_neg (by omega), if_neg (by omega), show 11 + j - 11 = j by omega]) h
  | 11, _, h => by
    have e : M (b + 11) = Mu 0 := h2 0 (by decide)
    show va_at D cl (a, .inl (_, _, .inl (M (b + 11)))) H
    rw [e]; exact h
  | 12, _, h => by
    have e : M (b + 12) = Mu 1 := h2 1 (by decide)
    show va_at D cl (a, .inl (_, _, .inl (M (b + 12)))) H
    rw [e]; exact h
  | 13, _, h => by
    have e : M (b + 13) = Mu 2 := h2 2 (by decide)
    show va_at D cl (a, .inl (_, _, .inl (M (b + 13)))) H
    rw [e]; exact h
  | 14, _, h => by
    have e : M (b + 14) = Mu 3 := h2 3 (by decide)
    show va_at D cl (a, .inl (_, _, .inl (M (b + 14)))) H
    rw [e]; exact h
  | 15, _, h => by
    have e : M (b + 15) = Mu 4 := h2 4 (by decide)
    show va_at D cl (a, .inl (_, _, .inl (M (b + 15)))) H
    rw [e]; exact h
  | 16, _, h => by
    have e : M (b + 16) = Mu 5 := h2 5 (by decide)
    show va_at D cl (a, .inl (_, _, .inl (M (b + 16)))) H
    rw [e]; exact h
  | k + 17, h, _ => absurd h (by omega)
