/-! Panels: counted by trying, by frames; the first one. No machine. -/
abbrev zst (a : Nat → Nat) (k x : Nat) : Prop := x < a 1 ∧ (zx a x 0 ≠ zd a k 0 ∧ zp a x k 0 = 0) ∧ zp a x k 1 = 0
abbrev zpq (a : Nat → Nat) (k x y z : Nat) : Prop := zst a k x ∧ zst a k y ∧ zst a k z ∧ zx a x 0 ≠ zx a y 0 ∧ zx a x 0 ≠ zx a z 0 ∧ zx a y 0 ≠ zx a z 0
def zpan (a : Nat → Nat) (k x y z : Nat) : Nat := if x < y ∧ y < z ∧ zpq a k x y z then 1 else 0
def zT (P : Nat → Nat → Nat → Nat) : Nat := zs (fun x => zs (fun y => zs (fun z => P x y z) 6) 6) 6
def zpc (a : Nat → Nat) (k : Nat) : Nat := zT (zpan a k)
theorem zT_c {P R : Nat → Nat → Nat → Nat} (h : ∀ x y z, x < 6 → y < 6 → z < 6 → P x y z = R x y z) : zT P = zT R := zs_cong (fun x hx => zs_cong (fun y hy => zs_cong (fun z hz => h x y z hx hy hz)))
theorem zT_s1 (P : Nat → Nat → Nat → Nat) : zT (fun x y z => P y x z) = zT P := zs_swap (fun x y => zs (fun z => P y x z) 6) 6 6
theorem zT_s2 (P : Nat → Nat → Nat → Nat) : zT (fun x y z => P x z y) = zT P := zs_cong (fun x _ => zs_swap (fun y z => P x z y) 6 6)
theorem zT_a (P R : Nat → Nat → Nat → Nat) : zT (fun x y z => P x y z + R x y z) = zT P + zT R := by
  unfold zT
  rw [← zs_add]
  refine zs_cong (fun x _ => ?_)
  show zs (fun y => zs (fun z => P x y z + R x y z) 6) 6 = zs (fun y => zs (fun z => P x y z) 6) 6 + zs (fun y => zs (fun z => R x y z) 6) 6
  rw [← zs_add]
  exact zs_cong (fun y _ => zs_add (fun z => P x y z) (fun z => R x y z) 6)
/-- all six orders -/
def z6 (P : Nat → Nat → Nat → Nat) : Nat → Nat → Nat → Nat := fun x y z => P x y z + (P y x z + (P x z y + (P y z x + (P z x y + P z y x))))
theorem zT_6 (P : Nat → Nat → Nat → Nat) : zT (z6 P) = 6 * zT P := by
  have e1 : zT (fun x y z => P y x z) = zT P := zT_s1 P
  have e2 : zT (fun x y z => P x z y) = zT P := zT_s2 P
  have e3 : zT (fun x y z => P y z x) = zT P := (zT_s1 (fun x y z => P x z y)).trans e2
  have e4 : zT (fun x y z => P z x y) = zT P := (zT_s2 (fun x y z => P y x z)).trans e1
  have e5 : zT (fun x y z => P z y x) = zT P := (zT_s2 (fun x y z => P y z x)).trans e3
  unfold z6
  rw [zT_a (fun x y z => P x y z) (fun x y z => P y x z + (P x z y + (P y z x + (P z x y + P z y x)))), zT_a (fun x y z => P y x z) (fun x y z => P x z y + (P y z x + (P z x y + P z y x))), zT_a (fun x y z => P x z y) (fun x y z => P y z x + (P z x y + P z y x)), zT_a (fun x y z => P y z x) (fun x y z => P z x y + P z y x), zT_a (fun x y z => P z x y) (fun x y z => P z y x), e1, e2, e3, e4, e5]
  show zT P + _ = _
  omega
def zo3 (x y z : Nat) : Nat := if x < y ∧ y < z then 1 else 0
theorem zo3_6 {x y z : Nat} (h1 : x ≠ y) (h2 : x ≠ z) (h3 : y ≠ z) : z6 zo3 x y z = 1 := by
  unfold z6 zo3
  rcases (show (x < y ∧ y < z) ∨ (y < x ∧ x < z) ∨ (x < z ∧ z < y) ∨ (y < z ∧ z < x) ∨ (z < x ∧ x < y) ∨ (z < y ∧ y < x) by omega) with h | h | h | h | h | h
  · rw [if_pos h, if_neg (by omega), if_neg (by omega), if_neg (by omega), if_neg (by omega), if_neg (by omega)]
  · rw [if_neg (by omega), if_pos h, if_neg (by omega), if_neg (by omega), if_neg (by omega), if_neg (by omega)]
  · rw [if_neg (by omega), if_neg (by omega), if_pos h, if_neg (by omega), if_neg (by omega), if_neg (by omega)]
  · rw [if_neg (by omega), if_neg (by omega), if_neg (by omega), if_pos h, if_neg (by omega), if_neg (by omega)]
  · rw [if_neg (by omega), if_neg (by omega), if_neg (by omega), if_neg (by omega), if_pos h, if_neg (by omega)]
  · rw [if_neg (by omega), if_neg (by omega), if_neg (by omega), if_neg (by omega), if_neg (by omega), if_pos h]
def zsi (a : Nat → Nat) (k x : Nat) : Nat := if zst a k x then 1 else 0
/-- suitable all three -/
def zs3 (a : Nat → Nat) (k x y z : Nat) : Nat := zsi a k z * (zsi a k y * zsi a k x)
/-- how many suit with a frame -/
def zfr (a : Nat → Nat) (k f : Nat) : Nat := zs (fun x => if zx a x 0 = 97 + f ∧ zst a k x then 1 else 0) 6
section FR
variable {a : Nat → Nat} {k : Nat}
theorem zfr_l (hb : rB a) (W : Nat → Nat) : zs (fun f => W f * zfr a k f) 6 = zs (fun x => zsi a k x * W (zx a x 0 - 97)) 6 := by
  have e : zs (fun f => W f * zfr a k f) 6 = zs (fun f => zs (fun x => W f * (if zx a x 0 = 97 + f ∧ zst a k x then 1 else 0)) 6) 6 := zs_cong (fun f _ => (zs_mul _ _ _).symm)
  rw [e, zs_swap]
  refine zs_cong (fun x hx => ?_)
  show zs (fun f => W f * (if zx a x 0 = 97 + f ∧ zst a k x then 1 else 0)) 6 = zsi a k x * W (zx a x 0 - 97)
  unfold zsi
  by_cases q : zst a k x
  · rw [if_pos q, Nat.one_mul]
    have b := hb.2.2.1 x hx
    have b2 := b.2.2.2.2 q.1
    have h1 := zs_upd (fun _ => 0) (zx a x 0 - 97) (W (zx a x 0 - 97)) (n := 6) (by omega)
    have h3 : zs (fun _ => 0) 6 = 0 := rfl
    have h2 : zs (fun f => W f * (if zx a x 0 = 97 + f ∧ zst a k x then 1 else 0)) 6 = zs (fun f => if f = zx a x 0 - 97 then W (zx a x 0 - 97) else 0) 6 := zs_cong (fun f hf => by
      show W f * (if zx a x 0 = 97 + f ∧ zst a k x then 1 else 0) = if f = zx a x 0 - 97 then W (zx a x 0 - 97) else 0
      by_cases e : f = zx a x 0 - 97
      · rw [if_pos ⟨by omega, q⟩, if_pos e, ← e, Nat.mul_one]
      · rw [if_neg (fun z => e (by omega)), if_neg e, Nat.mul_zero])
    omega
  · rw [if_neg q, Nat.zero_mul]
    refine zs_zero (fun f _ => ?_)
    show W f * (if zx a x 0 = 97 + f ∧ zst a k x then 1 else 0) = 0
    rw [if_neg (fun z => q z.2), Nat.mul_zero]
def zpf (a : Nat → Nat) (k : Nat) : Nat := zT (fun f g h => zo3 f g h * (zfr a k f * zfr a k g * zfr a k h))
theorem zpf_1 (hb : rB a) : zpf a k = zT (fun x y z => zs3 a k x y z * zo3 (zx a x 0 - 97) (zx a y 0 - 97) (zx a z 0 - 97)) := by
  have r : ∀ P : Nat → Nat → Nat → Nat, zT P = zs (fun z => zs (fun y => zs (fun x => P x y z) 6) 6) 6 := fun P => by
    have e1 : zT (fun x y z => P z y x) = zT P := (zT_s2 (fun x y z => P y z x)).trans ((zT_s1 (fun x y z => P x z y)).trans (zT_s2 P))
    rw [← e1]; rfl
  unfold zpf
  rw [r, r]
  have e1 : zs (fun h => zs (fun g => zs (fun f => zo3 f g h * (zfr a k f * zfr a k g * zfr a k h)) 6) 6) 6 = zs (fun h => (zs (fun g => (zs (fun f => zo3 f g h * zfr a k f) 6) * zfr a k g) 6) * zfr a k h) 6 := by
    refine zs_cong (fun h _ => ?_)
    show zs (fun g => zs (fun f => zo3 f g h * (zfr a k f * zfr a k g * zfr a k h)) 6) 6 = (zs (fun g => (zs (fun f => zo3 f g h * zfr a k f) 6) * zfr a k g) 6) * zfr a k h
    rw [Nat.mul_comm, ← zs_mul]
    refine zs_cong (fun g _ => ?_)
    show zs (fun f => zo3 f g h * (zfr a k f * zfr a k g * zfr a k h)) 6 = zfr a k h * ((zs (fun f => zo3 f g h * zfr a k f) 6) * zfr a k g)
    rw [Nat.mul_comm (zs _ _) _, ← Nat.mul_assoc, ← zs_mul]
    refine zs_cong (fun f _ => ?_)
    show zo3 f g h * (zfr a k f * zfr a k g * zfr a k h) = zfr a k h * zfr a k g * (zo3 f g h * zfr a k f)
    ac_rfl
  rw [e1, zfr_l hb (fun h => zs (fun g => (zs (fun f => zo3 f g h * zfr a k f) 6) * zfr a k g) 6)]
  refine zs_cong (fun z _ => ?_)
  show zsi a k z * zs (fun g => (zs (fun f => zo3 f g (zx a z 0 - 97) * zfr a k f) 6) * zfr a k g) 6 = zs (fun y => zs (fun x => zs3 a k x y z * zo3 (zx a x 0 - 97) (zx a y 0 - 97) (zx a z 0 - 97)) 6) 6
  rw [zfr_l hb (fun g => zs (fun f => zo3 f g (zx a z 0 - 97) * zfr a k f) 6), ← zs_mul]
  refine zs_cong (fun y _ => ?_)
  show zsi a k z * (zsi a k y * zs (fun f => zo3 f (zx a y 0 - 97) (zx a z 0 - 97) * zfr a k f) 6) = zs (fun x => zs3 a k x y z * zo3 (zx a x 0 - 97) (zx a y 0 - 97) (zx a z 0 - 97)) 6
  rw [zfr_l hb (fun f => zo3 f (zx a y 0 - 97) (zx a z 0 - 97)), ← Nat.mul_assoc, ← zs_mul]
  refine zs_cong (fun x _ => ?_)
  show zsi a k z * zsi a k y * (zsi a k x * zo3 (zx a x 0 - 97) (zx a y 0 - 97) (zx a z 0 - 97)) = zs3 a k x y z * zo3 (zx a x 0 - 97) (zx a y 0 - 97) (zx a z 0 - 97)
  unfold zs3
  ac_rfl
theorem zs3_0 {x y z : Nat} (h : ¬ (zst a k x ∧ zst a k y ∧ zst a k z)) : zs3 a k x y z = 0 := by
  unfold zs3 zsi
  by_cases h1 : zst a k x
  · by_cases h2 : zst a k y
    · by_cases h3 : zst a k z
      · exact absurd ⟨h1, h2, h3⟩ h
      · rw [if_neg h3, Nat.zero_mul]
    · rw [if_neg h2, Nat.zero_mul, Nat.mul_zero]
  · rw [if_neg h1, Nat.mul_zero, Nat.mul_zero]
theorem zs3_1 {x y z : Nat} (h : zst a k x ∧ zst a k y ∧ zst a k z) : zs3 a k x y z = 1 := by
  unfold zs3 zsi
  rw [if_pos h.1, if_pos h.2.1, if_pos h.2.2]
/-- both ways of counting agree -/
theorem zpf_pc (hb : rB a) : zpf a k = zpc a k := by
  have key : zT (z6 (fun x y z => zs3 a k x y z * zo3 (zx a x 0 - 97) (zx a y 0 - 97) (zx a z 0 - 97))) = zT (z6 (zpan a k)) := by
    refine zT_c (fun x y z hx hy hz => ?_)
    have bx := hb.2.2.1 x hx
    have by' := hb.2.2.1 y hy
    have bz := hb.2.2.1 z hz
    by_cases h : zst a k x ∧ zst a k y ∧ zst a k z
    · obtain ⟨h1, h2, h3⟩ := h
      have px := bx.2.2.2.2 h1.1
      have py := by'.2.2.2.2 h2.1
      have pz := bz.2.2.2.2 h3.1
      have l : z6 (fun x y z => zs3 a k x y z * zo3 (zx a x 0 - 97) (zx a y 0 - 97) (zx a z 0 - 97)) x y z = z6 zo3 (zx a x 0 - 97) (zx a y 0 - 97) (zx a z 0 - 97) := by
        unfold z6
        dsimp only
        rw [zs3_1 ⟨h1, h2, h3⟩, zs3_1 ⟨h2, h1, h3⟩, zs3_1 ⟨h1, h3, h2⟩, zs3_1 ⟨h2, h3, h1⟩, zs3_1 ⟨h3, h1, h2⟩, zs3_1 ⟨h3, h2, h1⟩]
        simp only [Nat.one_mul]
      rw [l]
      by_cases d : zx a x 0 ≠ zx a y 0 ∧ zx a x 0 ≠ zx a z 0 ∧ zx a y 0 ≠ zx a z 0
      · obtain ⟨d1, d2, d3⟩ := d
        rw [zo3_6 (by omega) (by omega) (by omega)]
        have pn : ∀ u v w, zpq a k u v w → zpan a k u v w = zo3 u v w := fun u v w q => by
          unfold zpan zo3
          by_cases e : u < v ∧ v < w
          · rw [if_pos e, if_pos ⟨e.1, e.2, q⟩]
          · rw [if_neg e, if_neg (fun t => e ⟨t.1, t.2.1⟩)]
        have ne : x ≠ y ∧ x ≠ z ∧ y ≠ z := ⟨fun e => d1 (by rw [e]), fun e => d2 (by rw [e]), fun e => d3 (by rw [e])⟩
        rw [← zo3_6 ne.1 ne.2.1 ne.2.2]
        unfold z6
        rw [pn x y z ⟨h1, h2, h3, d1, d2, d3⟩, pn y x z ⟨h2, h1, h3, d1.symm, d3, d2⟩, pn x z y ⟨h1, h3, h2, d2, d1, d3.symm⟩, pn y z x ⟨h2, h3, h1, d3, d1.symm, d2.symm⟩, pn z x y ⟨h3, h1, h2, d2.symm, d3.symm, d1⟩, pn z y x ⟨h3, h2, h1, d3.symm, d2.symm, d1.symm⟩]
      · have p0 : ∀ u v w, ¬ (zx a u 0 ≠ zx a v 0 ∧ zx a u 0 ≠ zx a w 0 ∧ zx a v 0 ≠ zx a w 0) → zpan a k u v w = 0 := fun u v w q => if_neg (fun t => q t.2.2.2.2.2)
        have o0 : ∀ u v w, ¬ (u ≠ v ∧ u ≠ w ∧ v ≠ w) → zo3 u v w = 0 := fun u v w q => if_neg (by omega)
        unfold z6
        rw [p0 x y z d, p0 y x z (by omega), p0 x z y (by omega), p0 y z x (by omega), p0 z x y (by omega), p0 z y x (by omega)]
        rw [o0 _ _ _ (by omega), o0 _ _ _ (by omega), o0 _ _ _ (by omega), o0 _ _ _ (by omega), o0 _ _ _ (by omega), o0 _ _ _ (by omega)]
    · have p0 : ∀ u v w, ¬ (zst a k u ∧ zst a k v ∧ zst a k w) → zpan a k u v w = 0 := fun u v w q => if_neg (fun t => q ⟨t.2.2.1, t.2.2.2.1, t.2.2.2.2.1⟩)
      have q1 : ¬ (zst a k y ∧ zst a k x ∧ zst a k z) := fun t => h ⟨t.2.1, t.1, t.2.2⟩
      have q2 : ¬ (zst a k x ∧ zst a k z ∧ zst a k y) := fun t => h ⟨t.1, t.2.2, t.2.1⟩
      have q3 : ¬ (zst a k y ∧ zst a k z ∧ zst a k x) := fun t => h ⟨t.2.2, t.1, t.2.1⟩
      have q4 : ¬ (zst a k z ∧ zst a k x ∧ zst a k y) := fun t => h ⟨t.2.1, t.2.2, t.1⟩
      have q5 : ¬ (zst a k z ∧ zst a k y ∧ zst a k x) := fun t => h ⟨t.2.2, t.2.1, t.1⟩
      unfold z6
      dsimp only
      rw [p0 _ _ _ h, p0 _ _ _ q1, p0 _ _ _ q2, p0 _ _ _ q3, p0 _ _ _ q4, p0 _ _ _ q5, zs3_0 h, zs3_0 q1, zs3_0 q2, zs3_0 q3, zs3_0 q4, zs3_0 q5]
      simp only [Nat.zero_mul]
  rw [zT_6, zT_6] at key
  rw [zpf_1 hb]
  unfold zpc
  omega
end FR
/-- the first panel: its number and one more -/
noncomputable def zff (a : Nat → Nat) (k : Nat) : Nat := zfst (fun n => zpan a k (n / 36) (n / 6 % 6) (n % 6) = 1) 216
theorem zpan_1 (a : Nat → Nat) (k x y z : Nat) : zpan a k x y z ≤ 1 := by unfold zpan; split <;> omega
theorem zpan_p {a : Nat → Nat} {k x y z : Nat} (h : zpan a k x y z = 1) : x < y ∧ y < z ∧ zpq a k x y z := by
  unfold zpan at h
  by_cases e : x < y ∧ y < z ∧ zpq a k x y z
  · exact e
  · rw [if_neg e] at h; omega
theorem zT_le {P : Nat → Nat → Nat → Nat} (h : ∀ x y z, P x y z ≤ 1) : zT P ≤ 216 := by
  have := zs_bound (f := fun x => zs (fun y => zs (fun z => P x y z) 6) 6) (n := 6) (c := 36) (fun x _ => by
    have := zs_bound (f := fun y => zs (fun z => P x y z) 6) (n := 6) (c := 6) (fun y _ => by
      have := zs_bound (f := fun z => P x y z) (n := 6) (c := 1) (fun z _ => h x y z)
      omega)
    omega)
  unfold zT; omega
theorem zpc_0 {a : Nat → Nat} {k : Nat} : zpc a k = 0 ↔ zff a k = 0 := by
  constructor
  · intro h
    refine zfst_0 (fun n hn e => ?_)
    have h1 : zpan a k (n / 36) (n / 6 % 6) (n % 6) ≤ zs (fun z => zpan a k (n / 36) (n / 6 % 6) z) 6 := zs_mem (f := fun z => zpan a k (n / 36) (n / 6 % 6) z) (by omega)
    have h2 : zs (fun z => zpan a k (n / 36) (n / 6 % 6) z) 6 ≤ zs (fun y => zs (fun z => zpan a k (n / 36) y z) 6) 6 := zs_mem (f := fun y => zs (fun z => zpan a k (n / 36) y z) 6) (by omega)
    have h3 : zs (fun y => zs (fun z => zpan a k (n / 36) y z) 6) 6 ≤ zpc a k := zs_mem (f := fun x => zs (fun y => zs (fun z => zpan a k x y z) 6) 6) (by omega)
    omega
  · intro h
    rcases Nat.eq_zero_or_pos (zpc a k) with q | q
    · exact q
    · obtain ⟨x, hx, h1⟩ := zs_pos q
      obtain ⟨y, hy, h2⟩ := zs_pos h1
      obtain ⟨z, hz, h3⟩ := zs_pos h2
      rcases zfst_s (fun n => zpan a k (n / 36) (n / 6 % 6) (n % 6) = 1) 216 with ⟨-, s⟩ | ⟨n, s1, s2, s3, s4⟩
      · refine absurd ?_ (s (36 * x + 6 * y + z) (by omega))
        rw [show (36 * x + 6 * y + z) / 36 = x by omega, show (36 * x + 6 * y + z) / 6 % 6 = y by omega, show (36 * x + 6 * y + z) % 6 = z by omega]
        have := zpan_1 a k x y z
        have h3 : 0 < zpan a k x y z := h3
        omega
      · unfold zff at h; omega
