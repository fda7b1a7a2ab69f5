/-! Programs as texts: commands and their shapes. No machine. -/
abbrev zdg (c : Nat) : Prop := 48 ≤ c ∧ c ≤ 57
abbrev zft (w c : Nat) : Prop := (w = 70 ∧ 97 ≤ c ∧ c ≤ 102) ∨ ((w = 68 ∨ w = 78) ∧ 48 ≤ c ∧ c ≤ 57) ∨ (w ≠ 70 ∧ w ≠ 68 ∧ w ≠ 78 ∧ w = c)
def zcs (v : Nat) (r : Nat × Option (List Nat)) : Nat × Option (List Nat) := (r.1, r.2.map (fun l => v :: l))
/-- a shape held against the text: where it ends, its operands; or where it goes wrong -/
def zmt (t : Nat → Nat) (n : Nat) : List Nat → Nat → Nat × Option (List Nat)
  | [], p => (p, some [])
  | w :: l, p => if p < n ∧ zft w (t p) then
      (if w = 78 then (if p + 1 < n ∧ zdg (t (p + 1)) then zcs ((t p - 48) * 10 + (t (p + 1) - 48)) (zmt t n l (p + 2)) else zcs (t p - 48) (zmt t n l (p + 1)))
       else if w = 68 then zcs (t p - 48) (zmt t n l (p + 1)) else if w = 70 then zcs (t p) (zmt t n l (p + 1)) else zmt t n l (p + 1))
      else (p, none)
def zsb (i : Nat) : List Nat := match i with
  | 0 => [100, 111, 111, 114, 32, 70, 32, 68]
  | 1 => [101, 120, 97, 109, 105, 110, 101, 114, 32, 70, 32, 78, 32, 68, 32, 68]
  | 2 => [99, 111, 110, 102, 108, 105, 99, 116, 32, 68, 32, 68]
  | 3 => [97, 115, 115, 105, 103, 110, 32, 68, 32, 68]
  | 4 => [112, 108, 97, 110]
  | 5 => [103, 114, 97, 100, 101, 32, 68, 32, 68, 32, 78]
  | 6 => [116, 104, 114, 101, 115, 104, 111, 108, 100, 32, 78]
  | 7 => [97, 112, 112, 101, 97, 108, 32, 68]
  | 8 => [97, 119, 97, 114, 100, 32, 68]
  | 9 => [114, 101, 118, 111, 107, 101, 32, 68]
  | 10 => []
  | 11 => [32]
  | 12 => [58]
  | 13 => [61]
  | 14 => [42]
  | 15 => [112, 108, 97, 110, 59, 116, 104, 114, 101, 115, 104, 111, 108, 100, 32]
  | 16 => [59, 103, 114, 97, 100, 101, 32]
  | _ => [32, 57, 59, 97, 119, 97, 114, 100, 32]
theorem sb_eq : ∀ i, i < 18 → sw_sb i = (zsb i).map nI := by decide +kernel
theorem sb_len {i : Nat} (hi : i < 18) {Q : Int32 → Prop} (h : Q (nI (zsb i).length)) : wJ0_length_8abf5 i Q := by
  unfold wJ0_length_8abf5
  rw [sb_eq i hi, List.length_map]
  exact h
theorem zsb_16 : ∀ i, i < 18 → (zsb i).length ≤ 16 := by decide +kernel
theorem zsb_w : ∀ i, i < 18 → ∀ w ∈ zsb i, w < 200 := by decide +kernel
theorem sb_ch {i : Nat} (hi : i < 18) {pre l : List Nat} {w : Nat} (e : zsb i = pre ++ w :: l) {Q : Int32 → Prop} (h : Q (nI w)) : wJ0_charAt_5068e i (nI pre.length) Q := by
  have l16 := zsb_16 i hi
  rw [e] at l16
  simp only [List.length_append, List.length_cons] at l16
  unfold wJ0_charAt_5068e
  rw [sb_eq i hi, List.length_map, e, cl (by omega)]
  refine ⟨vin (by simp) (by simp; omega), ?_⟩
  have e2 : (List.map nI (pre ++ w :: l)).getD pre.length 0 = nI w := by simp [List.getD]
  rw [e2]; exact h
section MTX
variable {t : Nat → Nat} {n : Nat}
theorem zmt_ge : ∀ {l : List Nat} {p : Nat}, p ≤ (zmt t n l p).1
  | [], p => Nat.le_refl _
  | w :: l, p => by
    unfold zmt
    have h1 := zmt_ge (l := l) (p := p + 1)
    have h2 := zmt_ge (l := l) (p := p + 2)
    split
    · split
      · split
        · show p ≤ (zmt t n l (p + 2)).1; omega
        · show p ≤ (zmt t n l (p + 1)).1; omega
      · split
        · show p ≤ (zmt t n l (p + 1)).1; omega
        · split
          · show p ≤ (zmt t n l (p + 1)).1; omega
          · show p ≤ (zmt t n l (p + 1)).1; omega
    · exact Nat.le_refl _
theorem zmt_le : ∀ {l : List Nat} {p : Nat}, p ≤ n → (zmt t n l p).1 ≤ n
  | [], p, h => h
  | w :: l, p, h => by
    unfold zmt
    split
    · rename_i q
      have h1 := zmt_le (l := l) (p := p + 1) (by omega)
      split
      · split
        · exact zmt_le (l := l) (p := p + 2) (by omega)
        · exact h1
      · split
        · exact h1
        · split <;> exact h1
    · exact h
/-- operands of a shape -/
def zoc : List Nat → Nat
  | [] => 0
  | w :: l => (if w = 78 ∨ w = 68 ∨ w = 70 then 1 else 0) + zoc l
theorem zmt_ok : ∀ {l : List Nat} {p e : Nat} {ops : List Nat}, zmt t n l p = (e, some ops) → ops.length = zoc l ∧ p + l.length ≤ e
  | [], p, e, ops, h => by
    unfold zmt at h
    cases h
    exact ⟨rfl, Nat.le_refl _⟩
  | w :: l, p, e, ops, h => by
    have cs : ∀ (v q : Nat), zcs v (zmt t n l q) = (e, some ops) → q ≤ p + 2 → p + 1 ≤ q → ops.length = 1 + zoc l ∧ p + (w :: l).length ≤ e := fun v q hz h1 h2 => by
      rcases hm : zmt t n l q with ⟨e2, _ | ops2⟩
      · rw [hm] at hz; cases hz
      · rw [hm] at hz
        have r := zmt_ok hm
        cases hz
        simp only [List.length_cons]
        omega
    unfold zmt at h
    split at h
    · split at h
      · rename_i e78
        split at h
        · have r := cs _ _ h (by omega) (by omega)
          unfold zoc
          rw [if_pos (.inl e78)]
          exact r
        · have r := cs _ _ h (by omega) (by omega)
          unfold zoc
          rw [if_pos (.inl e78)]
          exact r
      · split at h
        · rename_i e68
          have r := cs _ _ h (by omega) (by omega)
          unfold zoc
          rw [if_pos (.inr (.inl e68))]
          exact r
        · split at h
          · rename_i e70
            have r := cs _ _ h (by omega) (by omega)
            unfold zoc
            rw [if_pos (.inr (.inr e70))]
            exact r
          · rename_i n78 n68 n70
            have r := zmt_ok h
            unfold zoc
            rw [if_neg (by omega)]
            simp only [List.length_cons]
            omega
    · cases h
theorem zmt_f {w p : Nat} {l : List Nat} (h1 : w ≠ 70) (h2 : w ≠ 68) (h3 : w ≠ 78) (h : ¬ (p < n ∧ t p = w)) : zmt t n (w :: l) p = (p, none) := by
  unfold zmt
  rw [if_neg]
  rintro ⟨q1, q2⟩
  rcases q2 with q | q | q
  · exact h1 q.1
  · omega
  · exact h ⟨q1, q.2.2.2.symm⟩
theorem zmt_g {w p : Nat} {l : List Nat} (h1 : w ≠ 70) (h2 : w ≠ 68) (h3 : w ≠ 78) (h : p < n ∧ t p = w) : zmt t n (w :: l) p = zmt t n l (p + 1) := by
  conv => lhs; unfold zmt
  rw [if_pos ⟨h.1, .inr (.inr ⟨h1, h2, h3, h.2.symm⟩)⟩, if_neg h3, if_neg h2, if_neg h1]
/-- the kind of the command that can stand here -/
def zkd (t : Nat → Nat) (n p : Nat) : Nat := if n ≤ p then 4 else if t p = 100 then 0 else if t p = 101 then 1 else if t p = 99 then 2 else if t p = 97 then (if p + 1 < n ∧ t (p + 1) = 112 then 7 else if p + 1 < n ∧ t (p + 1) = 119 then 8 else 3) else if t p = 103 then 5 else if t p = 116 then 6 else if t p = 114 then 9 else 4
theorem zkd_10 (t : Nat → Nat) (n p : Nat) : zkd t n p < 10 := by
  unfold zkd
  repeat' split
  all_goals omega
def zhd (k : Nat) : Nat := (zsb k).headD 0
theorem zsb_h : ∀ k, k < 10 → zsb k = zhd k :: (zsb k).tail ∧ zhd k ≠ 70 ∧ zhd k ≠ 68 ∧ zhd k ≠ 78 := by decide +kernel
theorem zmt_o {k p : Nat} (hk : k < 10) (h : ¬ (p < n ∧ t p = zhd k)) : zmt t n (zsb k) p = (p, none) := by
  obtain ⟨e, h1, h2, h3⟩ := zsb_h k hk
  rw [e]
  exact zmt_f h1 h2 h3 h
/-- the other shapes go wrong, and no later -/
theorem zmt_other {k p : Nat} (hk : k < 10) (hne : k ≠ zkd t n p) : (zmt t n (zsb k) p).2 = none ∧ (zmt t n (zsb k) p).1 ≤ (zmt t n (zsb (zkd t n p)) p).1 := by
  have ge := zmt_ge (t := t) (n := n) (l := zsb (zkd t n p)) (p := p)
  by_cases q : p < n ∧ t p = zhd k
  · have e97 : k = 3 ∨ k = 7 ∨ k = 8 := by
      have hz : zkd t n p ≠ k := fun e => hne e.symm
      unfold zkd at hz
      rw [if_neg (by omega)] at hz
      rcases (show k = 0 ∨ k = 1 ∨ k = 2 ∨ k = 3 ∨ k = 4 ∨ k = 5 ∨ k = 6 ∨ k = 7 ∨ k = 8 ∨ k = 9 by omega) with e | e | e | e | e | e | e | e | e | e <;> subst e
      · have e : t p = 100 := q.2
        rw [if_pos e] at hz; exact absurd rfl hz
      · have e : t p = 101 := q.2
        rw [if_neg (by omega), if_pos e] at hz; exact absurd rfl hz
      · have e : t p = 99 := q.2
        rw [if_neg (by omega), if_neg (by omega), if_pos e] at hz; exact absurd rfl hz
      · exact .inl rfl
      · have e : t p = 112 := q.2
        rw [if_neg (by omega), if_neg (by omega), if_neg (by omega), if_neg (by omega), if_neg (by omega), if_neg (by omega), if_neg (by omega)] at hz; exact absurd rfl hz
      · have e : t p = 103 := q.2
        rw [if_neg (by omega), if_neg (by omega), if_neg (by omega), if_neg (by omega), if_pos e] at hz; exact absurd rfl hz
      · have e : t p = 116 := q.2
        rw [if_neg (by omega), if_neg (by omega), if_neg (by omega), if_neg (by omega), if_neg (by omega), if_pos e] at hz; exact absurd rfl hz
      · exact .inr (.inl rfl)
      · exact .inr (.inr rfl)
      · have e : t p = 114 := q.2
        rw [if_neg (by omega), if_neg (by omega), if_neg (by omega), if_neg (by omega), if_neg (by omega), if_neg (by omega), if_pos e] at hz; exact absurd rfl hz
    have t97 : t p = 97 := by
      rcases e97 with e | e | e <;> subst e <;> exact q.2
    have hK : zkd t n p = (if p + 1 < n ∧ t (p + 1) = 112 then 7 else if p + 1 < n ∧ t (p + 1) = 119 then 8 else 3) := by
      unfold zkd
      rw [if_neg (by omega), if_neg (by omega), if_neg (by omega), if_neg (by omega), if_pos t97]
    have ge3 : ∀ l : List Nat, p + 1 ≤ (zmt t n (97 :: l) p).1 := fun l => by
      rw [zmt_g (by decide) (by decide) (by decide) ⟨q.1, t97⟩]
      exact zmt_ge
    have gK : p + 1 ≤ (zmt t n (zsb (zkd t n p)) p).1 := by
      rw [hK]
      by_cases c1 : p + 1 < n ∧ t (p + 1) = 112
      · rw [if_pos c1]; exact ge3 _
      · rw [if_neg c1]
        by_cases c2 : p + 1 < n ∧ t (p + 1) = 119
        · rw [if_pos c2]; exact ge3 _
        · rw [if_neg c2]; exact ge3 _
    have fin : ∀ (b : Nat) (l : List Nat), b ≠ 70 → b ≠ 68 → b ≠ 78 → ¬ (p + 1 < n ∧ t (p + 1) = b) → zmt t n (97 :: b :: l) p = (p + 1, none) := fun b l h1 h2 h3 h => by
      rw [zmt_g (by decide) (by decide) (by decide) ⟨q.1, t97⟩]
      exact zmt_f h1 h2 h3 h
    rw [hK] at hne
    have r : zmt t n (zsb k) p = (p + 1, none) := by
      rcases e97 with e | e | e <;> subst e
      · refine fin 115 _ (by decide) (by decide) (by decide) (fun w => ?_)
        rw [if_neg (by omega), if_neg (by omega)] at hne
        exact hne rfl
      · refine fin 112 _ (by decide) (by decide) (by decide) (fun w => ?_)
        rw [if_pos w] at hne
        exact hne rfl
      · refine fin 119 _ (by decide) (by decide) (by decide) (fun w => ?_)
        rw [if_neg (by omega), if_pos w] at hne
        exact hne rfl
    rw [r]
    exact ⟨rfl, gK⟩
  · rw [zmt_o hk q]
    exact ⟨rfl, ge⟩
/-- a text as a program: 0 and its commands; or one more than where it goes wrong -/
def zps (t : Nat → Nat) (n : Nat) : Nat → Nat → Nat × List (Nat × List Nat)
  | 0, p => (p + 1, [])
  | f + 1, p => match zmt t n (zsb (zkd t n p)) p with
    | (e, none) => (e + 1, [])
    | (e, some ops) => if n ≤ e then (0, [(zkd t n p, ops)]) else if t e = 59 then ((zps t n f (e + 1)).1, (zkd t n p, ops) :: (zps t n f (e + 1)).2) else (e + 1, [])
theorem zps_n {f p e : Nat} (h : zmt t n (zsb (zkd t n p)) p = (e, none)) : zps t n (f + 1) p = (e + 1, []) := by
  unfold zps; rw [h]
theorem zps_e {f p e : Nat} {ops : List Nat} (h : zmt t n (zsb (zkd t n p)) p = (e, some ops)) (hn : n ≤ e) : zps t n (f + 1) p = (0, [(zkd t n p, ops)]) := by
  unfold zps; rw [h]; exact if_pos hn
theorem zps_s {f p e : Nat} {ops : List Nat} (h : zmt t n (zsb (zkd t n p)) p = (e, some ops)) (hn : ¬ n ≤ e) (h59 : t e = 59) : zps t n (f + 1) p = ((zps t n f (e + 1)).1, (zkd t n p, ops) :: (zps t n f (e + 1)).2) := by
  conv => lhs; unfold zps
  rw [h]
  show (if n ≤ e then _ else _) = _
  rw [if_neg hn, if_pos h59]
theorem zps_x {f p e : Nat} {ops : List Nat} (h : zmt t n (zsb (zkd t n p)) p = (e, some ops)) (hn : ¬ n ≤ e) (h59 : ¬ t e = 59) : zps t n (f + 1) p = (e + 1, []) := by
  conv => lhs; unfold zps
  rw [h]
  show (if n ≤ e then _ else _) = _
  rw [if_neg hn, if_neg h59]
theorem zsb_ar : ∀ k, k < 10 → zoc (zsb k) ≤ 4 ∧ 4 ≤ (zsb k).length := by decide +kernel
end MTX
