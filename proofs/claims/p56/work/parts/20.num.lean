/-! Plain numbers: sums, masks, the Java operations on small numbers. No machine. -/
def zs (f : Nat → Nat) : Nat → Nat
  | 0 => 0
  | n + 1 => zs f n + f n
theorem zs_succ (f : Nat → Nat) (n : Nat) : zs f (n + 1) = zs f n + f n := rfl
theorem zs_cong {f g : Nat → Nat} : ∀ {n : Nat}, (∀ k, k < n → f k = g k) → zs f n = zs g n
  | 0, _ => rfl
  | n + 1, h => by rw [zs_succ, zs_succ, zs_cong (fun k hk => h k (by omega)), h n (by omega)]
theorem zs_le {f g : Nat → Nat} : ∀ {n : Nat}, (∀ k, k < n → f k ≤ g k) → zs f n ≤ zs g n
  | 0, _ => Nat.le_refl _
  | n + 1, h => by
    have h1 := zs_le (n := n) (fun k hk => h k (by omega))
    have h2 := h n (by omega)
    rw [zs_succ, zs_succ]; omega
theorem zs_add (f g : Nat → Nat) : ∀ n, zs (fun k => f k + g k) n = zs f n + zs g n
  | 0 => rfl
  | n + 1 => by rw [zs_succ, zs_succ, zs_succ, zs_add f g n]; omega
theorem zs_zero {f : Nat → Nat} : ∀ {n : Nat}, (∀ k, k < n → f k = 0) → zs f n = 0
  | 0, _ => rfl
  | n + 1, h => by rw [zs_succ, zs_zero (fun k hk => h k (by omega)), h n (by omega)]
theorem zs_swap (f : Nat → Nat → Nat) (m : Nat) : ∀ n, zs (fun i => zs (fun j => f i j) m) n = zs (fun j => zs (fun i => f i j) n) m
  | 0 => (zs_zero (fun _ _ => rfl)).symm
  | n + 1 => by rw [zs_succ, zs_swap f m n, ← zs_add]; rfl
theorem zs_ext {f : Nat → Nat} {m : Nat} : ∀ {n : Nat}, m ≤ n → (∀ k, m ≤ k → k < n → f k = 0) → zs f n = zs f m
  | 0, h, _ => by have e : m = 0 := by omega
                  subst e; rfl
  | n + 1, h, h0 => by
    rcases Nat.lt_or_ge n m with q | q
    · have e : m = n + 1 := by omega
      subst e; rfl
    · rw [zs_succ, zs_ext q (fun k h1 h2 => h0 k h1 (by omega)), h0 n q (by omega)]; omega
theorem zs_upd (f : Nat → Nat) (j v : Nat) : ∀ {n : Nat}, j < n → zs (fun k => if k = j then v else f k) n + f j = zs f n + v
  | 0, h => absurd h (Nat.not_lt_zero _)
  | n + 1, h => by
    rw [zs_succ, zs_succ]
    rcases Nat.lt_or_ge j n with q | q
    · have h1 := zs_upd f j v q
      have h2 : (if n = j then v else f n) = f n := if_neg (by omega)
      omega
    · have e : j = n := by omega
      subst e
      have h1 : zs (fun k => if k = j then v else f k) j = zs f j := zs_cong (fun k hk => if_neg (by omega))
      have h2 : (if j = j then v else f j) = v := if_pos rfl
      omega
theorem zs_mem {f : Nat → Nat} {k : Nat} : ∀ {n : Nat}, k < n → f k ≤ zs f n
  | 0, h => absurd h (Nat.not_lt_zero _)
  | n + 1, h => by
    rw [zs_succ]
    rcases Nat.lt_or_ge k n with q | q
    · have := zs_mem (f := f) q; omega
    · have e : k = n := by omega
      subst e; omega
theorem zs_pos {f : Nat → Nat} : ∀ {n : Nat}, 0 < zs f n → ∃ k, k < n ∧ 0 < f k
  | 0, h => absurd h (Nat.lt_irrefl 0)
  | n + 1, h => by
    rw [zs_succ] at h
    rcases Nat.eq_zero_or_pos (f n) with q | q
    · obtain ⟨k, h1, h2⟩ := zs_pos (f := f) (n := n) (by omega)
      exact ⟨k, by omega, h2⟩
    · exact ⟨n, by omega, q⟩
theorem zs_bound {f : Nat → Nat} {c : Nat} : ∀ {n : Nat}, (∀ k, k < n → f k ≤ c) → zs f n ≤ n * c
  | 0, _ => by rw [Nat.zero_mul]; exact Nat.le_refl 0
  | n + 1, h => by
    have h1 := zs_bound (n := n) (fun k hk => h k (by omega))
    have h2 := h n (by omega)
    rw [zs_succ, Nat.succ_mul]; omega
theorem zs_mono (f : Nat → Nat) {m : Nat} : ∀ {n : Nat}, m ≤ n → zs f m ≤ zs f n
  | 0, h => by have e : m = 0 := by omega
               subst e; exact Nat.le_refl _
  | n + 1, h => by
    rcases Nat.lt_or_ge n m with q | q
    · have e : m = n + 1 := by omega
      subst e; exact Nat.le_refl _
    · have := zs_mono f q
      rw [zs_succ]; omega
theorem zs_mul (f : Nat → Nat) (c : Nat) : ∀ n, zs (fun k => c * f k) n = c * zs f n
  | 0 => rfl
  | n + 1 => by rw [zs_succ, zs_succ, zs_mul f c n, Nat.mul_add]
/-- a set of eight as a mask -/
def zm (f : Nat → Nat) : Nat := f 0 + 2 * f 1 + 4 * f 2 + 8 * f 3 + 16 * f 4 + 32 * f 5 + 64 * f 6 + 128 * f 7
theorem z_8 {k : Nat} (h : k < 8) : k = 0 ∨ k = 1 ∨ k = 2 ∨ k = 3 ∨ k = 4 ∨ k = 5 ∨ k = 6 ∨ k = 7 := by omega
theorem zm_cong {f g : Nat → Nat} (h : ∀ k, k < 8 → f k = g k) : zm f = zm g := by
  unfold zm
  rw [h 0 (by decide), h 1 (by decide), h 2 (by decide), h 3 (by decide), h 4 (by decide), h 5 (by decide), h 6 (by decide), h 7 (by decide)]
theorem zm_lt {f : Nat → Nat} (h : ∀ k, k < 8 → f k ≤ 1) : zm f < 256 := by
  have h0 := h 0 (by decide)
  have h1 := h 1 (by decide)
  have h2 := h 2 (by decide)
  have h3 := h 3 (by decide)
  have h4 := h 4 (by decide)
  have h5 := h 5 (by decide)
  have h6 := h 6 (by decide)
  have h7 := h 7 (by decide)
  unfold zm; omega
theorem zm_bit {f : Nat → Nat} (h : ∀ k, k < 8 → f k ≤ 1) {k : Nat} (hk : k < 8) : zm f / 2 ^ k % 2 = f k := by
  have h0 := h 0 (by decide)
  have h1 := h 1 (by decide)
  have h2 := h 2 (by decide)
  have h3 := h 3 (by decide)
  have h4 := h 4 (by decide)
  have h5 := h 5 (by decide)
  have h6 := h 6 (by decide)
  have h7 := h 7 (by decide)
  rcases z_8 hk with rfl | rfl | rfl | rfl | rfl | rfl | rfl | rfl
  · show (f 0 + 2 * f 1 + 4 * f 2 + 8 * f 3 + 16 * f 4 + 32 * f 5 + 64 * f 6 + 128 * f 7) / 1 % 2 = f 0; omega
  · show (f 0 + 2 * f 1 + 4 * f 2 + 8 * f 3 + 16 * f 4 + 32 * f 5 + 64 * f 6 + 128 * f 7) / 2 % 2 = f 1; omega
  · show (f 0 + 2 * f 1 + 4 * f 2 + 8 * f 3 + 16 * f 4 + 32 * f 5 + 64 * f 6 + 128 * f 7) / 4 % 2 = f 2; omega
  · show (f 0 + 2 * f 1 + 4 * f 2 + 8 * f 3 + 16 * f 4 + 32 * f 5 + 64 * f 6 + 128 * f 7) / 8 % 2 = f 3; omega
  · show (f 0 + 2 * f 1 + 4 * f 2 + 8 * f 3 + 16 * f 4 + 32 * f 5 + 64 * f 6 + 128 * f 7) / 16 % 2 = f 4; omega
  · show (f 0 + 2 * f 1 + 4 * f 2 + 8 * f 3 + 16 * f 4 + 32 * f 5 + 64 * f 6 + 128 * f 7) / 32 % 2 = f 5; omega
  · show (f 0 + 2 * f 1 + 4 * f 2 + 8 * f 3 + 16 * f 4 + 32 * f 5 + 64 * f 6 + 128 * f 7) / 64 % 2 = f 6; omega
  · show (f 0 + 2 * f 1 + 4 * f 2 + 8 * f 3 + 16 * f 4 + 32 * f 5 + 64 * f 6 + 128 * f 7) / 128 % 2 = f 7; omega
theorem zm_set {f : Nat → Nat} {k : Nat} (hk : k < 8) (h : f k = 0) : zm (fun j => if j = k then 1 else f j) = zm f + 2 ^ k := by
  rcases z_8 hk with rfl | rfl | rfl | rfl | rfl | rfl | rfl | rfl
  · show (1 + 2 * f 1 + 4 * f 2 + 8 * f 3 + 16 * f 4 + 32 * f 5 + 64 * f 6 + 128 * f 7) = (f 0 + 2 * f 1 + 4 * f 2 + 8 * f 3 + 16 * f 4 + 32 * f 5 + 64 * f 6 + 128 * f 7) + 1; omega
  · show (f 0 + 2 * 1 + 4 * f 2 + 8 * f 3 + 16 * f 4 + 32 * f 5 + 64 * f 6 + 128 * f 7) = (f 0 + 2 * f 1 + 4 * f 2 + 8 * f 3 + 16 * f 4 + 32 * f 5 + 64 * f 6 + 128 * f 7) + 2; omega
  · show (f 0 + 2 * f 1 + 4 * 1 + 8 * f 3 + 16 * f 4 + 32 * f 5 + 64 * f 6 + 128 * f 7) = (f 0 + 2 * f 1 + 4 * f 2 + 8 * f 3 + 16 * f 4 + 32 * f 5 + 64 * f 6 + 128 * f 7) + 4; omega
  · show (f 0 + 2 * f 1 + 4 * f 2 + 8 * 1 + 16 * f 4 + 32 * f 5 + 64 * f 6 + 128 * f 7) = (f 0 + 2 * f 1 + 4 * f 2 + 8 * f 3 + 16 * f 4 + 32 * f 5 + 64 * f 6 + 128 * f 7) + 8; omega
  · show (f 0 + 2 * f 1 + 4 * f 2 + 8 * f 3 + 16 * 1 + 32 * f 5 + 64 * f 6 + 128 * f 7) = (f 0 + 2 * f 1 + 4 * f 2 + 8 * f 3 + 16 * f 4 + 32 * f 5 + 64 * f 6 + 128 * f 7) + 16; omega
  · show (f 0 + 2 * f 1 + 4 * f 2 + 8 * f 3 + 16 * f 4 + 32 * 1 + 64 * f 6 + 128 * f 7) = (f 0 + 2 * f 1 + 4 * f 2 + 8 * f 3 + 16 * f 4 + 32 * f 5 + 64 * f 6 + 128 * f 7) + 32; omega
  · show (f 0 + 2 * f 1 + 4 * f 2 + 8 * f 3 + 16 * f 4 + 32 * f 5 + 64 * 1 + 128 * f 7) = (f 0 + 2 * f 1 + 4 * f 2 + 8 * f 3 + 16 * f 4 + 32 * f 5 + 64 * f 6 + 128 * f 7) + 64; omega
  · show (f 0 + 2 * f 1 + 4 * f 2 + 8 * f 3 + 16 * f 4 + 32 * f 5 + 64 * f 6 + 128 * 1) = (f 0 + 2 * f 1 + 4 * f 2 + 8 * f 3 + 16 * f 4 + 32 * f 5 + 64 * f 6 + 128 * f 7) + 128; omega
theorem zm_zero : zm (fun _ => 0) = 0 := rfl
theorem zm_zs (f : Nat → Nat) : zm f = zs (fun k => 2 ^ k * f k) 8 := by
  show zm f = 0 + 1 * f 0 + 2 * f 1 + 4 * f 2 + 8 * f 3 + 16 * f 4 + 32 * f 5 + 64 * f 6 + 128 * f 7
  unfold zm; omega
theorem zs_8 (f : Nat → Nat) : zs f 8 = f 0 + f 1 + f 2 + f 3 + f 4 + f 5 + f 6 + f 7 := by
  show 0 + f 0 + f 1 + f 2 + f 3 + f 4 + f 5 + f 6 + f 7 = _
  omega
theorem zs_6 (f : Nat → Nat) : zs f 6 = f 0 + f 1 + f 2 + f 3 + f 4 + f 5 := by
  show 0 + f 0 + f 1 + f 2 + f 3 + f 4 + f 5 = _
  omega
/-! the Java operations -/
theorem zb_shr : ∀ m, m < 512 → ∀ k, k < 9 → ((nI m >>> (nI k &&& 31)) &&& 1) = nI (m / 2 ^ k % 2) := by decide +kernel
theorem zb_and : ∀ m, m < 512 → ∀ k, k < 9 → (nI m &&& ((1 : Int32) <<< (nI k &&& 31))) = nI (m / 2 ^ k % 2 * 2 ^ k) := by decide +kernel
theorem zb_or : ∀ m, m < 512 → ∀ k, k < 9 → m / 2 ^ k % 2 = 0 → (nI m ||| ((1 : Int32) <<< (nI k &&& 31))) = nI (m + 2 ^ k) := by decide +kernel
theorem zb_shl : ∀ k, k < 9 → ((1 : Int32) <<< (nI k &&& 31)) = nI (2 ^ k) := by decide +kernel
theorem zb_and0 {m k : Nat} (hm : m < 512) (hk : k < 9) : (nI m &&& ((1 : Int32) <<< (nI k &&& 31))) = 0 ↔ m / 2 ^ k % 2 = 0 := by
  rw [zb_and m hm k hk, ← nI_0]
  have h1 : m / 2 ^ k % 2 < 2 := Nat.mod_lt _ (by decide)
  have h2 : 2 ^ k ≤ 2 ^ 8 := Nat.pow_le_pow_right (by decide) (by omega)
  have h3 : 0 < 2 ^ k := Nat.two_pow_pos k
  have h4 : m / 2 ^ k % 2 = 0 ∨ m / 2 ^ k % 2 = 1 := by omega
  rcases h4 with h4 | h4
  · rw [h4, Nat.zero_mul]; exact ⟨fun _ => rfl, fun _ => rfl⟩
  · rw [h4, Nat.one_mul, nI_eq (by omega) (by decide)]
    omega
theorem zb_shr1 {m k : Nat} (hm : m < 512) (hk : k < 9) : ((nI m >>> (nI k &&& 31)) &&& 1) = 1 ↔ m / 2 ^ k % 2 = 1 := by
  rw [zb_shr m hm k hk, show (1 : Int32) = nI 1 from rfl, nI_eq (by omega) (by decide)]
/-! a number less one -/
def nP (n : Nat) : Int32 := nI n - 1
theorem nP_S (n : Nat) : nP (n + 1) = nI n := nI_pred n
theorem nP_of {n : Nat} (h : 0 < n) : nP n = nI (n - 1) := by
  obtain ⟨m, rfl⟩ : ∃ m, n = m + 1 := ⟨n - 1, by omega⟩
  exact nI_pred m
theorem nP_0 : nP 0 = -1 := by decide
theorem nP_toInt {n : Nat} (h : n < 2 ^ 31) : (nP n).toInt = (n : Int) - 1 := by
  rcases Nat.eq_zero_or_pos n with e | e
  · subst e; decide
  · rw [nP_of e, nI_toInt (by omega)]; omega
theorem zI_eq (a b : Int32) : a = b ↔ a.toInt = b.toInt := Int32.toInt_inj.symm
theorem nP_eq {a b : Nat} (ha : a < 2 ^ 31) (hb : b < 2 ^ 31) : nP a = nP b ↔ a = b := by
  rw [zI_eq, nP_toInt ha, nP_toInt hb]; omega
theorem nP_eqI {a b : Nat} (ha : a < 2 ^ 31) (hb : b < 2 ^ 31) : nP a = nI b ↔ a = b + 1 := by
  rw [zI_eq, nP_toInt ha, nI_toInt hb]; omega
theorem nP_le {a b : Nat} (ha : a < 2 ^ 31) (hb : b < 2 ^ 31) : nP a ≤ nP b ↔ a ≤ b := by
  rw [Int32.le_iff_toInt_le, nP_toInt ha, nP_toInt hb]; omega
theorem nP_ltI {a b : Nat} (ha : a < 2 ^ 31) (hb : b < 2 ^ 31) : nP a < nI b ↔ a < b + 1 := by
  rw [Int32.lt_iff_toInt_lt, nP_toInt ha, nI_toInt hb]; omega
theorem nP_n1 {a : Nat} (ha : a < 2 ^ 31) : nP a = -1 ↔ a = 0 := by
  rw [← nP_0, nP_eq ha (by decide)]
theorem nP_lt0 {a : Nat} (ha : a < 2 ^ 31) : nP a < 0 ↔ a = 0 := by
  rw [← nI_0, nP_ltI ha (by decide)]; omega
/-! branches -/
theorem br0 {A B : Prop} (h : A) : ((0 : Int32) = 0 → A) ∧ (¬ (0 : Int32) = 0 → B) := ⟨fun _ => h, fun z => absurd rfl z⟩
theorem br1 {A B : Prop} (h : B) : ((1 : Int32) = 0 → A) ∧ (¬ (1 : Int32) = 0 → B) := ⟨fun z => absurd z (by decide), fun _ => h⟩
theorem brt {c A B : Prop} (h : c) (k : A) : (c → A) ∧ (¬ c → B) := ⟨fun _ => k, fun z => absurd h z⟩
theorem brf {c A B : Prop} (h : ¬ c) (k : B) : (c → A) ∧ (¬ c → B) := ⟨fun z => absurd z h, fun _ => k⟩
theorem bri {c d A B : Prop} (h : c ↔ d) (k : d → A) (k2 : ¬ d → B) : (c → A) ∧ (¬ c → B) := ⟨fun z => k (h.mp z), fun z => k2 (fun y => z (h.mpr y))⟩
theorem vin {n N : Nat} (h : n < N) (hN : N < 2 ^ 31) : vp_in (nI n) N := vp_in_nI h hN
theorem cl {n : Nat} (h : n < 2 ^ 31) : (nI n).toNatClampNeg = n := nI_clamp h
theorem zI_neg {x : Int32} {k : Nat} (h : x < 0) (hk : k < 2 ^ 31) : x ≠ nI k := fun e => nI_pos hk (e ▸ h)
theorem zI_idx (x : Int32) (n : Nat) (hn : n < 2 ^ 31) : (∃ k, k < n ∧ x = nI k) ∨ ((x < 0 ∨ nI n ≤ x) ∧ ∀ k, k < n → x ≠ nI k) := by
  rcases pk_ix x hn with h | h | h
  · exact .inr ⟨.inl h, fun k hk => zI_neg h (by omega)⟩
  · refine .inr ⟨.inr h, fun k hk e => ?_⟩
    subst e
    exact nI_ge hk hn h
  · exact .inl h
/-- a choice by a proposition -/
noncomputable def zif {α : Type} (c : Prop) (x y : α) : α := @ite α c (Classical.propDecidable c) x y
theorem zif_t {α : Type} {c : Prop} (h : c) (x y : α) : zif c x y = x := by unfold zif; exact if_pos h
theorem zif_f {α : Type} {c : Prop} (h : ¬ c) (x y : α) : zif c x y = y := by unfold zif; exact if_neg h
