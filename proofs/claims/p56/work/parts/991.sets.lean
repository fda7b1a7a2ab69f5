/-! The pure part: sets of three. -/
def zb8 (m : Nat) : Nat := m / 2 ^ 0 % 2 + m / 2 ^ 1 % 2 + m / 2 ^ 2 % 2 + m / 2 ^ 3 % 2 + m / 2 ^ 4 % 2 + m / 2 ^ 5 % 2 + m / 2 ^ 6 % 2 + m / 2 ^ 7 % 2
set_option maxRecDepth 20000 in
theorem zv_sum (v : Nat → Nat) (h : ∀ m, m < 64 → zb8 m ≠ 3 → v m = 0) : zs v 64 = zT (fun x y w => if x < y ∧ y < w then v (2 ^ x + 2 ^ y + 2 ^ w) else 0) := by
  have h0 := h 0 (by decide) (by decide)
  have h1 := h 1 (by decide) (by decide)
  have h2 := h 2 (by decide) (by decide)
  have h3 := h 3 (by decide) (by decide)
  have h4 := h 4 (by decide) (by decide)
  have h5 := h 5 (by decide) (by decide)
  have h6 := h 6 (by decide) (by decide)
  have h8 := h 8 (by decide) (by decide)
  have h9 := h 9 (by decide) (by decide)
  have h10 := h 10 (by decide) (by decide)
  have h12 := h 12 (by decide) (by decide)
  have h15 := h 15 (by decide) (by decide)
  have h16 := h 16 (by decide) (by decide)
  have h17 := h 17 (by decide) (by decide)
  have h18 := h 18 (by decide) (by decide)
  have h20 := h 20 (by decide) (by decide)
  have h23 := h 23 (by decide) (by decide)
  have h24 := h 24 (by decide) (by decide)
  have h27 := h 27 (by decide) (by decide)
  have h29 := h 29 (by decide) (by decide)
  have h30 := h 30 (by decide) (by decide)
  have h31 := h 31 (by decide) (by decide)
  have h32 := h 32 (by decide) (by decide)
  have h33 := h 33 (by decide) (by decide)
  have h34 := h 34 (by decide) (by decide)
  have h36 := h 36 (by decide) (by decide)
  have h39 := h 39 (by decide) (by decide)
  have h40 := h 40 (by decide) (by decide)
  have h43 := h 43 (by decide) (by decide)
  have h45 := h 45 (by decide) (by decide)
  have h46 := h 46 (by decide) (by decide)
  have h47 := h 47 (by decide) (by decide)
  have h48 := h 48 (by decide) (by decide)
  have h51 := h 51 (by decide) (by decide)
  have h53 := h 53 (by decide) (by decide)
  have h54 := h 54 (by decide) (by decide)
  have h55 := h 55 (by decide) (by decide)
  have h57 := h 57 (by decide) (by decide)
  have h58 := h 58 (by decide) (by decide)
  have h59 := h 59 (by decide) (by decide)
  have h60 := h 60 (by decide) (by decide)
  have h61 := h 61 (by decide) (by decide)
  have h62 := h 62 (by decide) (by decide)
  have h63 := h 63 (by decide) (by decide)
  have e1 : zs v 64 = 0 + v 0 + v 1 + v 2 + v 3 + v 4 + v 5 + v 6 + v 7 + v 8 + v 9 + v 10 + v 11 + v 12 + v 13 + v 14 + v 15 + v 16 + v 17 + v 18 + v 19 + v 20 + v 21 + v 22 + v 23 + v 24 + v 25 + v 26 + v 27 + v 28 + v 29 + v 30 + v 31 + v 32 + v 33 + v 34 + v 35 + v 36 + v 37 + v 38 + v 39 + v 40 + v 41 + v 42 + v 43 + v 44 + v 45 + v 46 + v 47 + v 48 + v 49 + v 50 + v 51 + v 52 + v 53 + v 54 + v 55 + v 56 + v 57 + v 58 + v 59 + v 60 + v 61 + v 62 + v 63 := rfl
  have e2 : zT (fun x y w => if x < y ∧ y < w then v (2 ^ x + 2 ^ y + 2 ^ w) else 0) = ((((((0 + ((((((0 + ((((((0 + 0) + 0) + 0) + 0) + 0) + 0)) + ((((((0 + 0) + 0) + v 7) + v 11) + v 19) + v 35)) + ((((((0 + 0) + 0) + 0) + v 13) + v 21) + v 37)) + ((((((0 + 0) + 0) + 0) + 0) + v 25) + v 41)) + ((((((0 + 0) + 0) + 0) + 0) + 0) + v 49)) + ((((((0 + 0) + 0) + 0) + 0) + 0) + 0))) + ((((((0 + ((((((0 + 0) + 0) + 0) + 0) + 0) + 0)) + ((((((0 + 0) + 0) + 0) + 0) + 0) + 0)) + ((((((0 + 0) + 0) + 0) + v 14) + v 22) + v 38)) + ((((((0 + 0) + 0) + 0) + 0) + v 26) + v 42)) + ((((((0 + 0) + 0) + 0) + 0) + 0) + v 50)) + ((((((0 + 0) + 0) + 0) + 0) + 0) + 0))) + ((((((0 + ((((((0 + 0) + 0) + 0) + 0) + 0) + 0)) + ((((((0 + 0) + 0) + 0) + 0) + 0) + 0)) + ((((((0 + 0) + 0) + 0) + 0) + 0) + 0)) + ((((((0 + 0) + 0) + 0) + 0) + v 28) + v 44)) + ((((((0 + 0) + 0) + 0) + 0) + 0) + v 52)) + ((((((0 + 0) + 0) + 0) + 0) + 0) + 0))) + ((((((0 + ((((((0 + 0) + 0) + 0) + 0) + 0) + 0)) + ((((((0 + 0) + 0) + 0) + 0) + 0) + 0)) + ((((((0 + 0) + 0) + 0) + 0) + 0) + 0)) + ((((((0 + 0) + 0) + 0) + 0) + 0) + 0)) + ((((((0 + 0) + 0) + 0) + 0) + 0) + v 56)) + ((((((0 + 0) + 0) + 0) + 0) + 0) + 0))) + ((((((0 + ((((((0 + 0) + 0) + 0) + 0) + 0) + 0)) + ((((((0 + 0) + 0) + 0) + 0) + 0) + 0)) + ((((((0 + 0) + 0) + 0) + 0) + 0) + 0)) + ((((((0 + 0) + 0) + 0) + 0) + 0) + 0)) + ((((((0 + 0) + 0) + 0) + 0) + 0) + 0)) + ((((((0 + 0) + 0) + 0) + 0) + 0) + 0))) + ((((((0 + ((((((0 + 0) + 0) + 0) + 0) + 0) + 0)) + ((((((0 + 0) + 0) + 0) + 0) + 0) + 0)) + ((((((0 + 0) + 0) + 0) + 0) + 0) + 0)) + ((((((0 + 0) + 0) + 0) + 0) + 0) + 0)) + ((((((0 + 0) + 0) + 0) + 0) + 0) + 0)) + ((((((0 + 0) + 0) + 0) + 0) + 0) + 0))) := rfl
  rw [e1, e2]
  omega
def zFm (g : Nat → Nat) (m : Nat) : Nat → Nat
  | 0 => 0
  | j + 1 => zFm g m j ||| (if m / 2 ^ j % 2 = 1 then g j else 0)
theorem zFm_x (g : Nat → Nat) {m E : Nat} (hm : m < 2 ^ E) : ∀ n, E ≤ n → zFm g m n = zFm g m E
  | 0, h => by rw [show E = 0 by omega]
  | n + 1, h => by
    rcases Nat.lt_or_ge n E with q | q
    · rw [show E = n + 1 by omega]
    · have h2 : 2 ^ E ≤ 2 ^ n := Nat.pow_le_pow_right (by decide) q
      show zFm g m n ||| (if m / 2 ^ n % 2 = 1 then g n else 0) = _
      rw [Nat.div_eq_of_lt (by omega), if_neg (by decide), Nat.or_zero]
      exact zFm_x g hm n q
theorem zFm_lt {g : Nat → Nat} {m : Nat} : ∀ {n : Nat}, (∀ j, j < n → g j < 64) → zFm g m n < 64
  | 0, _ => by show 0 < 64; decide
  | n + 1, h => by
    show zFm g m n ||| (if m / 2 ^ n % 2 = 1 then g n else 0) < 2 ^ 6
    refine Nat.or_lt_two_pow (zFm_lt (fun j hj => h j (by omega))) ?_
    split
    · exact h n (by omega)
    · decide
theorem zFm_7 (g : Nat → Nat) : zFm g 7 6 = g 0 ||| g 1 ||| g 2 := by
  show ((((((0 ||| g 0) ||| g 1) ||| g 2) ||| 0) ||| 0) ||| 0) = _
  simp only [Nat.zero_or, Nat.or_zero]
theorem zFm_11 (g : Nat → Nat) : zFm g 11 6 = g 0 ||| g 1 ||| g 3 := by
  show ((((((0 ||| g 0) ||| g 1) ||| 0) ||| g 3) ||| 0) ||| 0) = _
  simp only [Nat.zero_or, Nat.or_zero]
theorem zFm_19 (g : Nat → Nat) : zFm g 19 6 = g 0 ||| g 1 ||| g 4 := by
  show ((((((0 ||| g 0) ||| g 1) ||| 0) ||| 0) ||| g 4) ||| 0) = _
  simp only [Nat.zero_or, Nat.or_zero]
theorem zFm_35 (g : Nat → Nat) : zFm g 35 6 = g 0 ||| g 1 ||| g 5 := by
  show ((((((0 ||| g 0) ||| g 1) ||| 0) ||| 0) ||| 0) ||| g 5) = _
  simp only [Nat.zero_or, Nat.or_zero]
theorem zFm_13 (g : Nat → Nat) : zFm g 13 6 = g 0 ||| g 2 ||| g 3 := by
  show ((((((0 ||| g 0) ||| 0) ||| g 2) ||| g 3) ||| 0) ||| 0) = _
  simp only [Nat.zero_or, Nat.or_zero]
theorem zFm_21 (g : Nat → Nat) : zFm g 21 6 = g 0 ||| g 2 ||| g 4 := by
  show ((((((0 ||| g 0) ||| 0) ||| g 2) ||| 0) ||| g 4) ||| 0) = _
  simp only [Nat.zero_or, Nat.or_zero]
theorem zFm_37 (g : Nat → Nat) : zFm g 37 6 = g 0 ||| g 2 ||| g 5 := by
  show ((((((0 ||| g 0) ||| 0) ||| g 2) ||| 0) ||| 0) ||| g 5) = _
  simp only [Nat.zero_or, Nat.or_zero]
theorem zFm_25 (g : Nat → Nat) : zFm g 25 6 = g 0 ||| g 3 ||| g 4 := by
  show ((((((0 ||| g 0) ||| 0) ||| 0) ||| g 3) ||| g 4) ||| 0) = _
  simp only [Nat.zero_or, Nat.or_zero]
theorem zFm_41 (g : Nat → Nat) : zFm g 41 6 = g 0 ||| g 3 ||| g 5 := by
  show ((((((0 ||| g 0) ||| 0) ||| 0) ||| g 3) ||| 0) ||| g 5) = _
  simp only [Nat.zero_or, Nat.or_zero]
theorem zFm_49 (g : Nat → Nat) : zFm g 49 6 = g 0 ||| g 4 ||| g 5 := by
  show ((((((0 ||| g 0) ||| 0) ||| 0) ||| 0) ||| g 4) ||| g 5) = _
  simp only [Nat.zero_or, Nat.or_zero]
theorem zFm_14 (g : Nat → Nat) : zFm g 14 6 = g 1 ||| g 2 ||| g 3 := by
  show ((((((0 ||| 0) ||| g 1) ||| g 2) ||| g 3) ||| 0) ||| 0) = _
  simp only [Nat.zero_or, Nat.or_zero]
theorem zFm_22 (g : Nat → Nat) : zFm g 22 6 = g 1 ||| g 2 ||| g 4 := by
  show ((((((0 ||| 0) ||| g 1) ||| g 2) ||| 0) ||| g 4) ||| 0) = _
  simp only [Nat.zero_or, Nat.or_zero]
theorem zFm_38 (g : Nat → Nat) : zFm g 38 6 = g 1 ||| g 2 ||| g 5 := by
  show ((((((0 ||| 0) ||| g 1) ||| g 2) ||| 0) ||| 0) ||| g 5) = _
  simp only [Nat.zero_or, Nat.or_zero]
theorem zFm_26 (g : Nat → Nat) : zFm g 26 6 = g 1 ||| g 3 ||| g 4 := by
  show ((((((0 ||| 0) ||| g 1) ||| 0) ||| g 3) ||| g 4) ||| 0) = _
  simp only [Nat.zero_or, Nat.or_zero]
theorem zFm_42 (g : Nat → Nat) : zFm g 42 6 = g 1 ||| g 3 ||| g 5 := by
  show ((((((0 ||| 0) ||| g 1) ||| 0) ||| g 3) ||| 0) ||| g 5) = _
  simp only [Nat.zero_or, Nat.or_zero]
theorem zFm_50 (g : Nat → Nat) : zFm g 50 6 = g 1 ||| g 4 ||| g 5 := by
  show ((((((0 ||| 0) ||| g 1) ||| 0) ||| 0) ||| g 4) ||| g 5) = _
  simp only [Nat.zero_or, Nat.or_zero]
theorem zFm_28 (g : Nat → Nat) : zFm g 28 6 = g 2 ||| g 3 ||| g 4 := by
  show ((((((0 ||| 0) ||| 0) ||| g 2) ||| g 3) ||| g 4) ||| 0) = _
  simp only [Nat.zero_or, Nat.or_zero]
theorem zFm_44 (g : Nat → Nat) : zFm g 44 6 = g 2 ||| g 3 ||| g 5 := by
  show ((((((0 ||| 0) ||| 0) ||| g 2) ||| g 3) ||| 0) ||| g 5) = _
  simp only [Nat.zero_or, Nat.or_zero]
theorem zFm_52 (g : Nat → Nat) : zFm g 52 6 = g 2 ||| g 4 ||| g 5 := by
  show ((((((0 ||| 0) ||| 0) ||| g 2) ||| 0) ||| g 4) ||| g 5) = _
  simp only [Nat.zero_or, Nat.or_zero]
theorem zFm_56 (g : Nat → Nat) : zFm g 56 6 = g 3 ||| g 4 ||| g 5 := by
  show ((((((0 ||| 0) ||| 0) ||| 0) ||| g 3) ||| g 4) ||| g 5) = _
  simp only [Nat.zero_or, Nat.or_zero]
theorem zFm_3 (g : Nat → Nat) {x y w : Nat} (h1 : x < y) (h2 : y < w) (h3 : w < 6) : zFm g (2 ^ x + 2 ^ y + 2 ^ w) 6 = g x ||| g y ||| g w := by
  rcases (show x = 0 ∨ x = 1 ∨ x = 2 ∨ x = 3 by omega) with rfl | rfl | rfl | rfl
  · rcases (show y = 1 ∨ y = 2 ∨ y = 3 ∨ y = 4 by omega) with rfl | rfl | rfl | rfl
    · rcases (show w = 2 ∨ w = 3 ∨ w = 4 ∨ w = 5 by omega) with rfl | rfl | rfl | rfl
      · exact zFm_7 g
      · exact zFm_11 g
      · exact zFm_19 g
      · exact zFm_35 g
    · rcases (show w = 3 ∨ w = 4 ∨ w = 5 by omega) with rfl | rfl | rfl
      · exact zFm_13 g
      · exact zFm_21 g
      · exact zFm_37 g
    · rcases (show w = 4 ∨ w = 5 by omega) with rfl | rfl
      · exact zFm_25 g
      · exact zFm_41 g
    · rcases (show w = 5 by omega) with rfl
      · exact zFm_49 g
  · rcases (show y = 2 ∨ y = 3 ∨ y = 4 by omega) with rfl | rfl | rfl
    · rcases (show w = 3 ∨ w = 4 ∨ w = 5 by omega) with rfl | rfl | rfl
      · exact zFm_14 g
      · exact zFm_22 g
      · exact zFm_38 g
    · rcases (show w = 4 ∨ w = 5 by omega) with rfl | rfl
      · exact zFm_26 g
      · exact zFm_42 g
    · rcases (show w = 5 by omega) with rfl
      · exact zFm_50 g
  · rcases (show y = 3 ∨ y = 4 by omega) with rfl | rfl
    · rcases (show w = 4 ∨ w = 5 by omega) with rfl | rfl
      · exact zFm_28 g
      · exact zFm_44 g
    · rcases (show w = 5 by omega) with rfl
      · exact zFm_52 g
  · rcases (show y = 4 by omega) with rfl
    · rcases (show w = 5 by omega) with rfl
      · exact zFm_56 g
theorem z3_bitA : ∀ n, n < 216 → (n / 36 < n / 6 % 6 ∧ n / 6 % 6 < n % 6) → zb8 (2 ^ (n / 36) + 2 ^ (n / 6 % 6) + 2 ^ (n % 6)) = 3 := by decide +kernel
theorem z3_bitB : ∀ n, n < 216 → ∀ i, i < 6 → (n / 36 < n / 6 % 6 ∧ n / 6 % 6 < n % 6) → ((2 ^ (n / 36) + 2 ^ (n / 6 % 6) + 2 ^ (n % 6)) / 2 ^ i % 2 = 1 ↔ (i = n / 36 ∨ i = n / 6 % 6 ∨ i = n % 6)) := by decide +kernel
theorem z3_bitC : ∀ n, n < 216 → ∀ E, E < 7 → (n / 36 < n / 6 % 6 ∧ n / 6 % 6 < n % 6) → (2 ^ (n / 36) + 2 ^ (n / 6 % 6) + 2 ^ (n % 6) < 2 ^ E ↔ n % 6 < E) := by decide +kernel
theorem z3_b {x y w : Nat} (h1 : x < y) (h2 : y < w) (h3 : w < 6) : (∀ i, i < 6 → ((2 ^ x + 2 ^ y + 2 ^ w) / 2 ^ i % 2 = 1 ↔ (i = x ∨ i = y ∨ i = w))) ∧ zb8 (2 ^ x + 2 ^ y + 2 ^ w) = 3 ∧ ∀ E, E < 7 → (2 ^ x + 2 ^ y + 2 ^ w < 2 ^ E ↔ w < E) := by
  have rA := z3_bitA (36 * x + 6 * y + w) (by omega)
  have rB := z3_bitB (36 * x + 6 * y + w) (by omega)
  have rC := z3_bitC (36 * x + 6 * y + w) (by omega)
  rw [show (36 * x + 6 * y + w) / 36 = x by omega, show (36 * x + 6 * y + w) / 6 % 6 = y by omega, show (36 * x + 6 * y + w) % 6 = w by omega] at rA rB rC
  exact ⟨fun i hi => rB i hi ⟨h1, h2⟩, rA ⟨h1, h2⟩, fun E hE => rC E hE ⟨h1, h2⟩⟩
theorem z3_or : ∀ n, n < 216 → (zb8 (2 ^ (n / 36) ||| 2 ^ (n / 6 % 6) ||| 2 ^ (n % 6)) = 3 ↔ (n / 36 ≠ n / 6 % 6 ∧ n / 36 ≠ n % 6 ∧ n / 6 % 6 ≠ n % 6)) := by decide +kernel
theorem z3_o {p q r : Nat} (hp : p < 6) (hq : q < 6) (hr : r < 6) : zb8 (2 ^ p ||| 2 ^ q ||| 2 ^ r) = 3 ↔ (p ≠ q ∧ p ≠ r ∧ q ≠ r) := by
  have h := z3_or (36 * p + 6 * q + r) (by omega)
  rw [show (36 * p + 6 * q + r) / 36 = p by omega, show (36 * p + 6 * q + r) / 6 % 6 = q by omega, show (36 * p + 6 * q + r) % 6 = r by omega] at h
  exact h
def zgx (a : Nat → Nat) (x : Nat) : Nat := 2 ^ (zx a x 0 - 97)
theorem zgx_lt {a : Nat → Nat} (hb : rB a) {x : Nat} (hx : x < a 1) : zgx a x < 64 := by
  have h6 := rB_E hb
  have r := (hb.2.2.1 x (by omega)).1
  have h : 2 ^ (zx a x 0 - 97) ≤ 2 ^ 5 := Nat.pow_le_pow_right (by decide) (by omega)
  unfold zgx
  omega
def zIs (a : Nat → Nat) (k m j : Nat) : Prop := zb8 m = 3 ∧ ∀ i, i < j → m / 2 ^ i % 2 = 1 → zst a k i
noncomputable def zCs (a : Nat → Nat) (k m : Nat) : Nat := zif (zIs a k m (a 1) ∧ zb8 (zFm (zgx a) m (a 1)) = 3) 1 0
theorem zCs_3 {a : Nat → Nat} (hb : rB a) {k x y w : Nat} (h1 : x < y) (h2 : y < w) (h3 : w < 6) (hE : w < a 1) : zCs a k (2 ^ x + 2 ^ y + 2 ^ w) = zpan a k x y w := by
  have h6 := rB_E hb
  obtain ⟨b1, b2, b3⟩ := z3_b h1 h2 h3
  have rx := hb.2.2.1 x (by omega)
  have ry := hb.2.2.1 y (by omega)
  have rw' := hb.2.2.1 w (by omega)
  have px := rx.2.2.2.2 (by omega)
  have py := ry.2.2.2.2 (by omega)
  have pw := rw'.2.2.2.2 hE
  have ef : zFm (zgx a) (2 ^ x + 2 ^ y + 2 ^ w) (a 1) = 2 ^ (zx a x 0 - 97) ||| 2 ^ (zx a y 0 - 97) ||| 2 ^ (zx a w 0 - 97) := by
    rw [← zFm_x (zgx a) ((b3 (a 1) (by omega)).mpr hE) 6 h6]
    exact zFm_3 (zgx a) h1 h2 h3
  unfold zCs zpan
  rw [ef, z3_o (by omega) (by omega) (by omega)]
  by_cases q : zpq a k x y w
  · obtain ⟨q1, q2, q3, q4, q5, q6⟩ := q
    rw [if_pos ⟨h1, h2, q1, q2, q3, q4, q5, q6⟩]
    refine zif_t ⟨⟨b2, fun i hi hbit => ?_⟩, ?_, ?_, ?_⟩ 1 0
    · rcases (b1 i (by omega)).mp hbit with rfl | rfl | rfl
      · exact q1
      · exact q2
      · exact q3
    · omega
    · omega
    · omega
  · rw [if_neg (fun t => q t.2.2)]
    refine zif_f (fun t => q ?_) 1 0
    obtain ⟨⟨t1, t2⟩, t3, t4, t5⟩ := t
    exact ⟨t2 x (by omega) ((b1 x (by omega)).mpr (Or.inl rfl)), t2 y (by omega) ((b1 y (by omega)).mpr (Or.inr (Or.inl rfl))), t2 w hE ((b1 w (by omega)).mpr (Or.inr (Or.inr rfl))), by omega, by omega, by omega⟩
theorem zCs_pc {a : Nat → Nat} (hb : rB a) (k : Nat) : zs (zCs a k) (2 ^ a 1) = zpc a k := by
  have h6 := rB_E hb
  have h64 : 2 ^ a 1 ≤ 2 ^ 6 := Nat.pow_le_pow_right (by decide) h6
  have e1 : zs (zCs a k) (2 ^ a 1) = zs (fun m => if m < 2 ^ a 1 then zCs a k m else 0) (2 ^ a 1) := zs_cong (fun m hm => (if_pos hm).symm)
  have e2 := zs_ext (f := fun m => if m < 2 ^ a 1 then zCs a k m else 0) (m := 2 ^ a 1) (n := 64) h64 (fun m h1 h2 => if_neg (by omega))
  rw [e1, ← e2, zv_sum]
  · refine zT_c (fun x y w hx hy hw => ?_)
    show (if x < y ∧ y < w then (if 2 ^ x + 2 ^ y + 2 ^ w < 2 ^ a 1 then zCs a k (2 ^ x + 2 ^ y + 2 ^ w) else 0) else 0) = zpan a k x y w
    by_cases q : x < y ∧ y < w
    · rw [if_pos q]
      have b3 := (z3_b q.1 q.2 hw).2.2 (a 1) (by omega)
      by_cases c : w < a 1
      · rw [if_pos (b3.mpr c)]
        exact zCs_3 hb q.1 q.2 hw c
      · rw [if_neg (fun t => c (b3.mp t))]
        exact (if_neg (fun t => c t.2.2.2.2.1.1)).symm
    · rw [if_neg q]
      exact (if_neg (fun t => q ⟨t.1, t.2.1⟩)).symm
  · intro m hm hn
    show (if m < 2 ^ a 1 then zCs a k m else 0) = 0
    split
    · exact zif_f (fun t => hn t.1.1) 1 0
    · rfl
