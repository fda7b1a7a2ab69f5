/-! Greatest plans: tables of 0 and 1, a row an examiner, a column a door. No machine. -/
noncomputable def zbl (p : Prop) : Bool := @decide p (Classical.propDecidable p)
theorem zbl_t {p : Prop} (h : p) : zbl p = true := by unfold zbl; exact @decide_eq_true p (Classical.propDecidable p) h
theorem zbl_f {p : Prop} (h : ¬ p) : zbl p = false := by unfold zbl; exact @decide_eq_false p (Classical.propDecidable p) h
theorem zbl_i {p : Prop} (h : zbl p = true) : p := by
  rcases Classical.em p with q | q
  · exact q
  · rw [zbl_f q] at h; exact absurd h (by decide)
def zmr (m : Nat → Nat → Nat) (x : Nat) : Nat := zs (fun k => m x k) 8
def zmc (m : Nat → Nat → Nat) (k : Nat) : Nat := zs (fun x => m x k) 6
def zmn (m : Nat → Nat → Nat) : Nat := zs (fun k => zmc m k) 8
def zMt (G : Nat → Nat → Prop) (c : Nat → Nat) (f d : Nat) (m : Nat → Nat → Nat) : Prop :=
  (∀ x k, x < 6 → k < 8 → 0 < m x k → G x k ∧ f ≤ k ∧ k < d) ∧ (∀ k, k < 8 → zmc m k ≤ 1) ∧ ∀ x, x < 6 → zmr m x ≤ c x
def zOpt (G : Nat → Nat → Prop) (c : Nat → Nat) (f d v : Nat) : Prop := (∃ m, zMt G c f d m ∧ zmn m = v) ∧ ∀ m, zMt G c f d m → zmn m ≤ v
noncomputable def zmx (G : Nat → Nat → Prop) (c : Nat → Nat) (f d : Nat) : Nat := @Classical.epsilon Nat ⟨0⟩ (zOpt G c f d)
/-- what shows that no table gives more -/
def zCt (G : Nat → Nat → Prop) (c : Nat → Nat) (f d : Nat) (m : Nat → Nat → Nat) : Prop :=
  ∃ p y : Nat → Bool, (∀ k, k < 8 → p k = true → f ≤ k ∧ k < d ∧ ∀ x, x < 6 → G x k → y x = true) ∧ (∀ k, k < 8 → f ≤ k → k < d → p k = false → zmc m k = 1) ∧ ∀ x, x < 6 → y x = true → zs (fun k => if p k = true then m x k else 0) 8 = c x
theorem zs_eq_of_le {f g : Nat → Nat} {n : Nat} (h : ∀ k, k < n → f k ≤ g k) (hs : zs g n ≤ zs f n) {k : Nat} (hk : k < n) : f k = g k := by
  rcases Nat.lt_or_ge (f k) (g k) with q | q
  · have := zs_lt (f := f) (g := g) (j := k) h hk q; omega
  · have := h k hk; omega
section MT
variable {G : Nat → Nat → Prop} {c : Nat → Nat} {f d : Nat} {m : Nat → Nat → Nat}
theorem zOpt_u {v w : Nat} (h : zOpt G c f d v) (h2 : zOpt G c f d w) : v = w := by
  obtain ⟨⟨m1, a1, b1⟩, c1⟩ := h
  obtain ⟨⟨m2, a2, b2⟩, c2⟩ := h2
  have := c1 m2 a2
  have := c2 m1 a1
  omega
theorem zmx_of {v : Nat} (h : zOpt G c f d v) : zmx G c f d = v := zOpt_u (Classical.epsilon_spec ⟨v, h⟩) h
theorem z_max {P : Nat → Prop} : ∀ n, (∃ v, P v) → (∀ v, P v → v ≤ n) → ∃ v, P v ∧ ∀ w, P w → w ≤ v
  | 0, ⟨v, hv⟩, hb => ⟨v, hv, fun w hw => by have := hb w hw; omega⟩
  | n + 1, h, hb => by
    rcases Classical.em (P (n + 1)) with q | q
    · exact ⟨n + 1, q, hb⟩
    · refine z_max n h (fun v hv => ?_)
      have := hb v hv
      rcases Nat.lt_or_ge n v with r | r
      · have e : v = n + 1 := by omega
        subst e; exact absurd hv q
      · exact r
theorem zMt_0 : zMt G c f d (fun _ _ => 0) := by
  refine ⟨fun x k _ _ h => absurd h (Nat.lt_irrefl 0), fun k _ => ?_, fun x _ => ?_⟩
  · have : zmc (fun _ _ => 0) k = 0 := zs_zero (fun _ _ => rfl)
    omega
  · have : zmr (fun _ _ => 0) x = 0 := zs_zero (fun _ _ => rfl)
    omega
theorem zMt_8 (h : zMt G c f d m) : zmn m ≤ 8 := by
  have := zs_bound (f := fun k => zmc m k) (n := 8) (c := 1) h.2.1
  unfold zmn; omega
theorem zmx_opt : zOpt G c f d (zmx G c f d) := by
  obtain ⟨v, ⟨m, hm, rfl⟩, hb⟩ := z_max (P := fun v => ∃ m, zMt G c f d m ∧ zmn m = v) 8 ⟨_, _, zMt_0, rfl⟩ (fun v ⟨m, hm, e⟩ => by rw [← e]; exact zMt_8 hm)
  have h : zOpt G c f d (zmn m) := ⟨⟨m, hm, rfl⟩, fun m2 h2 => hb _ ⟨m2, h2, rfl⟩⟩
  rw [zmx_of h]; exact h
theorem zs_p (p : Nat → Bool) (g : Nat → Nat) (n : Nat) : zs g n = zs (fun k => if p k = true then g k else 0) n + zs (fun k => if p k = true then 0 else g k) n := by
  rw [← zs_add]
  refine zs_cong (fun k _ => ?_)
  show g k = _
  split <;> omega
theorem zs_pc (p : Nat → Bool) (m : Nat → Nat → Nat) : zs (fun k => if p k = true then zmc m k else 0) 8 = zs (fun x => zs (fun k => if p k = true then m x k else 0) 8) 6 := by
  rw [zs_swap (fun x k => if p k = true then m x k else 0) 8 6]
  refine zs_cong (fun k _ => ?_)
  show (if p k = true then zmc m k else 0) = zs (fun x => if p k = true then m x k else 0) 6
  rcases hp : p k with _ | _
  · rw [if_neg (by decide)]
    exact (zs_zero (fun x _ => if_neg (by decide))).symm
  · rw [if_pos rfl]
    exact zs_cong (fun x _ => (if_pos rfl).symm)
theorem zs_pr (p : Nat → Bool) (m : Nat → Nat → Nat) (x : Nat) : zs (fun k => if p k = true then m x k else 0) 8 ≤ zmr m x :=
  zs_le (fun k _ => by show (if p k = true then m x k else 0) ≤ m x k; split <;> omega)
theorem zs_pn (hm : zMt G c f d m) {p y : Nat → Bool} (h1 : ∀ k, k < 8 → p k = true → f ≤ k ∧ ∀ x, x < 6 → G x k → y x = true) {x : Nat} (hx : x < 6) (hy : ¬ y x = true) : zs (fun k => if p k = true then m x k else 0) 8 = 0 := by
  refine zs_zero (fun k hk => ?_)
  show (if p k = true then m x k else 0) = 0
  split
  · rename_i hp
    rcases Nat.eq_zero_or_pos (m x k) with q | q
    · exact q
    · exact absurd ((h1 k hk hp).2 x hx (hm.1 x k hx hk q).1) hy
  · rfl
theorem zCt_opt (hm : zMt G c f d m) (hc : zCt G c f d m) : zOpt G c f d (zmn m) := by
  obtain ⟨p, y, h1, h2, h3⟩ := hc
  refine ⟨⟨m, hm, rfl⟩, fun m2 hm2 => ?_⟩
  unfold zmn
  rw [zs_p p (fun k => zmc m2 k), zs_p p (fun k => zmc m k)]
  have a1 : zs (fun k => if p k = true then zmc m2 k else 0) 8 ≤ zs (fun k => if p k = true then zmc m k else 0) 8 := by
    rw [zs_pc, zs_pc]
    refine zs_le (fun x hx => ?_)
    show zs (fun k => if p k = true then m2 x k else 0) 8 ≤ zs (fun k => if p k = true then m x k else 0) 8
    rcases hy : y x with _ | _
    · rw [zs_pn hm2 (fun k hk hp => ⟨(h1 k hk hp).1, (h1 k hk hp).2.2⟩) hx (by rw [hy]; decide)]
      exact Nat.zero_le _
    · rw [h3 x hx hy]
      exact Nat.le_trans (zs_pr p m2 x) (hm2.2.2 x hx)
  have a2 : zs (fun k => if p k = true then 0 else zmc m2 k) 8 ≤ zs (fun k => if p k = true then 0 else zmc m k) 8 := by
    refine zs_le (fun k hk => ?_)
    show (if p k = true then 0 else zmc m2 k) ≤ (if p k = true then 0 else zmc m k)
    split
    · exact Nat.le_refl _
    · rename_i hp
      rcases Classical.em (f ≤ k ∧ k < d) with q | q
      · rw [h2 k hk q.1 q.2 (by simpa using hp)]; exact hm2.2.1 k hk
      · have : zmc m2 k = 0 := zs_zero (fun x hx => by
          rcases Nat.eq_zero_or_pos (m2 x k) with r | r
          · exact r
          · exact absurd (hm2.1 x k hx hk r).2 q)
        omega
  omega
theorem zCt_0 : zCt G c f f (fun _ _ => 0) := ⟨fun _ => false, fun _ => false, fun k _ h => absurd h Bool.false_ne_true, fun k _ h1 h2 => by omega, fun x _ h => absurd h Bool.false_ne_true⟩
/-- one more door is given: what was shown stays shown -/
theorem zCt_yes {m2 : Nat → Nat → Nat} (hm : zMt G c f d m) (hc : zCt G c f d m) (hm2 : zMt G c f (d + 1) m2) (hk : ∀ k, k < 8 → zmc m2 k = zmc m k + if k = d then 1 else 0) : zCt G c f (d + 1) m2 := by
  obtain ⟨p, y, h1, h2, h3⟩ := hc
  refine ⟨p, y, fun k hk8 hp => ⟨(h1 k hk8 hp).1, Nat.lt_succ_of_lt (h1 k hk8 hp).2.1, (h1 k hk8 hp).2.2⟩, fun k hk8 hf hd hp => ?_, fun x hx hy => ?_⟩
  · have := hm2.2.1 k hk8
    have e := hk k hk8
    rcases Nat.lt_or_ge k d with q | q
    · have := h2 k hk8 hf q hp; omega
    · have e2 : k = d := by omega
      rw [if_pos e2] at e; omega
  · rw [← h3 x hx hy]
    refine zs_eq_of_le (f := fun x => zs (fun k => if p k = true then m2 x k else 0) 8) (g := fun x => zs (fun k => if p k = true then m x k else 0) 8) (n := 6) (fun z hz => ?_) ?_ hx
    · show zs (fun k => if p k = true then m2 z k else 0) 8 ≤ zs (fun k => if p k = true then m z k else 0) 8
      rcases hy2 : y z with _ | _
      · rw [zs_pn hm2 (fun k hk hp => ⟨(h1 k hk hp).1, (h1 k hk hp).2.2⟩) hz (by rw [hy2]; decide)]
        exact Nat.zero_le _
      · rw [h3 z hz hy2]
        exact Nat.le_trans (zs_pr p m2 z) (hm2.2.2 z hz)
    · rw [← zs_pc, ← zs_pc]
      refine zs_le (fun k hk8 => ?_)
      show (if p k = true then zmc m k else 0) ≤ (if p k = true then zmc m2 k else 0)
      split
      · rw [hk k hk8]; omega
      · exact Nat.le_refl _
theorem zMt_w (hm : zMt G c f d m) : zMt G c f (d + 1) m := ⟨fun x k hx hk h => ⟨(hm.1 x k hx hk h).1, (hm.1 x k hx hk h).2.1, Nat.lt_succ_of_lt (hm.1 x k hx hk h).2.2⟩, hm.2⟩
/-- the door can't be given: the examiners that were reached are full -/
theorem zCt_no (hm : zMt G c f d m) (hc : zCt G c f d m) (hfd : f ≤ d) {R : Nat → Prop} (r1 : ∀ x, x < 6 → G x d → R x) (r2 : ∀ x, x < 6 → R x → zmr m x = c x) (r3 : ∀ x, x < 6 → R x → ∀ k, k < 8 → 0 < m x k → ∀ z, z < 6 → G z k → R z) : zCt G c f (d + 1) m := by
  obtain ⟨p, y, h1, h2, h3⟩ := hc
  refine ⟨fun k => zbl (p k = true ∨ k = d ∨ ∃ x, x < 6 ∧ R x ∧ 0 < m x k), fun x => zbl (y x = true ∨ R x), fun k hk8 hp => ?_, fun k hk8 hf hd hp => ?_, fun x hx hy => ?_⟩
  · rcases zbl_i hp with q | q | ⟨x, hx, hR, q⟩
    · exact ⟨(h1 k hk8 q).1, Nat.lt_succ_of_lt (h1 k hk8 q).2.1, fun x hx hG => zbl_t (.inl ((h1 k hk8 q).2.2 x hx hG))⟩
    · subst q; exact ⟨hfd, Nat.lt_succ_self _, fun x hx hG => zbl_t (.inr (r1 x hx hG))⟩
    · have w := hm.1 x k hx hk8 q
      exact ⟨w.2.1, Nat.lt_succ_of_lt w.2.2, fun z hz hG => zbl_t (.inr (r3 x hx hR k hk8 q z hz hG))⟩
  · have hn : ¬ (p k = true ∨ k = d ∨ ∃ x, x < 6 ∧ R x ∧ 0 < m x k) := fun z => by have hp : zbl (p k = true ∨ k = d ∨ ∃ x, x < 6 ∧ R x ∧ 0 < m x k) = false := hp; rw [zbl_t z] at hp; exact absurd hp (by decide)
    have hkd : k ≠ d := fun e => hn (.inr (.inl e))
    refine h2 k hk8 hf (by omega) ?_
    rcases hq : p k with _ | _
    · rfl
    · exact absurd (.inl hq) hn
  · rcases zbl_i hy with q | q
    · refine Nat.le_antisymm (Nat.le_trans (zs_pr _ m x) (hm.2.2 x hx)) ?_
      rw [← h3 x hx q]
      refine zs_le (fun k _ => ?_)
      show (if p k = true then m x k else 0) ≤ (if zbl (p k = true ∨ k = d ∨ ∃ x, x < 6 ∧ R x ∧ 0 < m x k) = true then m x k else 0)
      split
      · rename_i hp
        rw [if_pos (zbl_t (.inl hp))]; exact Nat.le_refl _
      · exact Nat.zero_le _
    · rw [← r2 x hx q]
      refine zs_cong (fun k hk8 => ?_)
      show (if zbl (p k = true ∨ k = d ∨ ∃ x, x < 6 ∧ R x ∧ 0 < m x k) = true then m x k else 0) = m x k
      rcases Nat.eq_zero_or_pos (m x k) with w | w
      · rw [w]; split <;> rfl
      · exact if_pos (zbl_t (.inr (.inr ⟨x, hx, q, w⟩)))
/-! the best plan, door by door -/
def zsub (c : Nat → Nat) (x : Nat) : Nat → Nat := fun y => if y = x then c y - 1 else c y
theorem zmc_0 (hm : zMt G c f d m) {k : Nat} (hk : k < 8) (h : ¬ (f ≤ k ∧ k < d)) : zmc m k = 0 := zs_zero (fun x hx => by
  rcases Nat.eq_zero_or_pos (m x k) with r | r
  · exact r
  · exact absurd (hm.1 x k hx hk r).2 h)
theorem zmx_end : zmx G c d d = 0 := by
  refine zmx_of ⟨⟨_, zMt_0, ?_⟩, fun m hm => ?_⟩
  · exact zs_zero (fun k _ => zs_zero (fun _ _ => rfl))
  · have : zmn m = 0 := zs_zero (fun k hk => zmc_0 hm hk (by omega))
    omega
theorem zmc_1 (hm : zMt G c f d m) {x k : Nat} (hx : x < 6) (hk : k < 8) (h : 0 < m x k) : m x k = 1 ∧ ∀ z, z < 6 → z ≠ x → m z k = 0 := by
  have h1 := hm.2.1 k hk
  have h2 : m x k ≤ zmc m k := zs_mem (f := fun x => m x k) hx
  refine ⟨by omega, fun z hz hne => ?_⟩
  have h3 := zs_upd (fun x => m x k) x 0 hx
  have h4 : (if z = x then 0 else m z k) ≤ zs (fun q => if q = x then 0 else m q k) 6 := zs_mem (f := fun q => if q = x then 0 else m q k) hz
  rw [if_neg hne] at h4
  unfold zmc at h1
  omega
/-- the table with another entry -/
def zmu (m : Nat → Nat → Nat) (x k v : Nat) : Nat → Nat → Nat := fun z j => if z = x ∧ j = k then v else m z j
theorem zmu_c {x k v j : Nat} (hx : x < 6) : zmc (zmu m x k v) j + (if j = k then m x k else 0) = zmc m j + (if j = k then v else 0) := by
  by_cases e : j = k
  · subst e
    rw [if_pos rfl, if_pos rfl]
    have := zs_upd (fun z => m z j) x v hx
    have e2 : zmc (zmu m x j v) j = zs (fun z => if z = x then v else m z j) 6 := zs_cong (fun z _ => by
      show (if z = x ∧ j = j then v else m z j) = if z = x then v else m z j
      by_cases q : z = x
      · rw [if_pos ⟨q, rfl⟩, if_pos q]
      · rw [if_neg (fun w => q w.1), if_neg q])
    rw [e2]; exact this
  · rw [if_neg e, if_neg e]
    have : zmc (zmu m x k v) j = zmc m j := zs_cong (fun z _ => if_neg (fun w => e w.2))
    omega
theorem zmu_r {x k v z : Nat} (hk : k < 8) : zmr (zmu m x k v) z + (if z = x then m x k else 0) = zmr m z + (if z = x then v else 0) := by
  by_cases e : z = x
  · subst e
    rw [if_pos rfl, if_pos rfl]
    have := zs_upd (fun j => m z j) k v hk
    have e2 : zmr (zmu m z k v) z = zs (fun j => if j = k then v else m z j) 8 := zs_cong (fun j _ => by
      show (if z = z ∧ j = k then v else m z j) = if j = k then v else m z j
      by_cases q : j = k
      · rw [if_pos ⟨rfl, q⟩, if_pos q]
      · rw [if_neg (fun w => q w.2), if_neg q])
    rw [e2]; exact this
  · rw [if_neg e, if_neg e]
    have : zmr (zmu m x k v) z = zmr m z := zs_cong (fun j _ => if_neg (fun w => e w.1))
    omega
theorem zmu_n {x k v : Nat} (hx : x < 6) (hk : k < 8) : zmn (zmu m x k v) + m x k = zmn m + v := by
  have h1 := zs_upd (fun j => zmc m j) k (zmc (zmu m x k v) k) hk
  have h2 : zmn (zmu m x k v) = zs (fun j => if j = k then zmc (zmu m x k v) k else zmc m j) 8 := zs_cong (fun j _ => by
    show zmc (zmu m x k v) j = if j = k then zmc (zmu m x k v) k else zmc m j
    by_cases e : j = k
    · rw [if_pos e, e]
    · rw [if_neg e]
      have := zmu_c (m := m) (v := v) (k := k) (j := j) hx
      rw [if_neg e, if_neg e] at this; omega)
  have h3 := zmu_c (m := m) (v := v) (k := k) (j := k) hx
  rw [if_pos rfl, if_pos rfl] at h3
  unfold zmn at *
  omega
theorem zMt_n (hm : zMt G c (f + 1) d m) : zMt G c f d m := ⟨fun x k hx hk h => ⟨(hm.1 x k hx hk h).1, by have := (hm.1 x k hx hk h).2.1; omega, (hm.1 x k hx hk h).2.2⟩, hm.2⟩
/-- a table for the doors behind and one door more -/
theorem zMt_add {x : Nat} (hx : x < 6) (hf : f < d) (hd : d ≤ 8) (hG : G x f) (hcx : 0 < c x) (hm : zMt G (zsub c x) (f + 1) d m) : zMt G c f d (zmu m x f 1) ∧ zmn (zmu m x f 1) = zmn m + 1 := by
  have hf8 : f < 8 := by omega
  have z0 := zmc_0 hm hf8 (by omega)
  have z1 : m x f = 0 := by have : m x f ≤ zmc m f := zs_mem (f := fun x => m x f) hx; omega
  refine ⟨⟨fun z k hz hk h => ?_, fun k hk => ?_, fun z hz => ?_⟩, ?_⟩
  · unfold zmu at h
    by_cases e : z = x ∧ k = f
    · obtain ⟨rfl, rfl⟩ := e
      exact ⟨hG, Nat.le_refl _, hf⟩
    · rw [if_neg e] at h
      have w := hm.1 z k hz hk h
      exact ⟨w.1, by omega, w.2.2⟩
  · have e := zmu_c (m := m) (v := 1) (k := f) (j := k) hx
    have w := hm.2.1 k hk
    by_cases q : k = f
    · subst q; rw [if_pos rfl, if_pos rfl] at e; omega
    · rw [if_neg q, if_neg q] at e; omega
  · have e := zmu_r (m := m) (v := 1) (x := x) (z := z) hf8
    have w := hm.2.2 z hz
    unfold zsub at w
    by_cases q : z = x
    · subst q; rw [if_pos rfl, if_pos rfl] at e; rw [if_pos rfl] at w; omega
    · rw [if_neg q, if_neg q] at e; rw [if_neg q] at w; omega
  · have := zmu_n (m := m) (v := 1) hx hf8; omega
theorem zmx_none (hf : f < d) (hd : d ≤ 8) (h : ∀ x, x < 6 → ¬ (G x f ∧ 0 < c x ∧ 1 + zmx G (zsub c x) (f + 1) d = zmx G c f d)) : zmx G c (f + 1) d = zmx G c f d := by
  have hf8 : f < 8 := by omega
  obtain ⟨⟨m, hm, e⟩, hb⟩ := zmx_opt (G := G) (c := c) (f := f) (d := d)
  rcases Nat.eq_zero_or_pos (zmc m f) with q | q
  · have h0 : ∀ x, x < 6 → m x f = 0 := fun x hx => by have : m x f ≤ zmc m f := zs_mem (f := fun x => m x f) hx; omega
    refine zmx_of ⟨⟨m, ⟨fun x k hx hk hp => ?_, hm.2⟩, e⟩, fun m2 hm2 => hb m2 (zMt_n hm2)⟩
    have w := hm.1 x k hx hk hp
    refine ⟨w.1, ?_, w.2.2⟩
    rcases Nat.lt_or_ge f k with r | r
    · exact r
    · have e2 : k = f := by omega
      subst e2; have := h0 x hx; omega
  · obtain ⟨x, hx, hp⟩ := zs_pos q
    obtain ⟨v1, v0⟩ := zmc_1 hm hx hf8 hp
    have hG := (hm.1 x f hx hf8 hp).1
    have hr : 0 < c x := by
      have w1 := hm.2.2 x hx
      have w2 : m x f ≤ zmr m x := zs_mem (f := fun k => m x k) hf8
      omega
    have hn := zmu_n (m := m) (v := 0) hx hf8
    refine absurd ⟨hG, hr, ?_⟩ (h x hx)
    have hv : zmx G (zsub c x) (f + 1) d = zmx G c f d - 1 := by
      refine zmx_of ⟨⟨zmu m x f 0, ⟨fun z k hz hk hp2 => ?_, fun k hk => ?_, fun z hz => ?_⟩, by omega⟩, fun m2 hm2 => ?_⟩
      · unfold zmu at hp2
        by_cases e2 : z = x ∧ k = f
        · rw [if_pos e2] at hp2; omega
        · rw [if_neg e2] at hp2
          have w := hm.1 z k hz hk hp2
          refine ⟨w.1, ?_, w.2.2⟩
          rcases Nat.lt_or_ge f k with r | r
          · exact r
          · have e3 : k = f := by omega
            subst e3
            have := v0 z hz (fun e4 => e2 ⟨e4, rfl⟩)
            omega
      · have e2 := zmu_c (m := m) (v := 0) (k := f) (j := k) hx
        have w := hm.2.1 k hk
        by_cases q2 : k = f
        · subst q2; rw [if_pos rfl, if_pos rfl] at e2; omega
        · rw [if_neg q2, if_neg q2] at e2; omega
      · have e2 := zmu_r (m := m) (v := 0) (x := x) (z := z) hf8
        have w := hm.2.2 z hz
        unfold zsub
        by_cases q2 : z = x
        · subst q2; rw [if_pos rfl, if_pos rfl] at e2; rw [if_pos rfl]; omega
        · rw [if_neg q2, if_neg q2] at e2; rw [if_neg q2]; omega
      · have w := zMt_add hx hf hd hG hr hm2
        have := hb _ w.1
        omega
    omega
end MT
/-- the first one below n, and one more; 0 if there is none -/
noncomputable def zfst (p : Nat → Prop) : Nat → Nat
  | 0 => 0
  | n + 1 => zif (zfst p n = 0) (zif (p n) (n + 1) 0) (zfst p n)
theorem zfst_0 {p : Nat → Prop} : ∀ {n : Nat}, (∀ x, x < n → ¬ p x) → zfst p n = 0
  | 0, _ => rfl
  | n + 1, h => by
    unfold zfst
    rw [zif_t (zfst_0 (fun x hx => h x (by omega))), zif_f (h n (by omega))]
theorem zfst_p {p : Nat → Prop} {x : Nat} (hp : p x) (h : ∀ z, z < x → ¬ p z) : ∀ {n : Nat}, x < n → zfst p n = x + 1
  | 0, hx => absurd hx (Nat.not_lt_zero _)
  | n + 1, hx => by
    unfold zfst
    rcases Nat.lt_or_ge x n with q | q
    · rw [zfst_p hp h q, zif_f (by omega)]
    · have e : x = n := by omega
      subst e
      rw [zif_t (zfst_0 h), zif_t hp]
theorem zfst_s (p : Nat → Prop) : ∀ n, (zfst p n = 0 ∧ ∀ x, x < n → ¬ p x) ∨ ∃ x, x < n ∧ p x ∧ (∀ z, z < x → ¬ p z) ∧ zfst p n = x + 1
  | 0 => .inl ⟨rfl, fun x hx => absurd hx (Nat.not_lt_zero _)⟩
  | n + 1 => by
    rcases zfst_s p n with ⟨h1, h2⟩ | ⟨x, h1, h2, h3, h4⟩
    · rcases Classical.em (p n) with q | q
      · exact .inr ⟨n, by omega, q, h2, zfst_p q h2 (by omega)⟩
      · have h3 : ∀ x, x < n + 1 → ¬ p x := fun x hx => by
          rcases Nat.lt_or_ge x n with r | r
          · exact h2 x r
          · have e : x = n := by omega
            subst e; exact q
        exact .inl ⟨zfst_0 h3, h3⟩
    · exact .inr ⟨x, by omega, h2, h3, zfst_p h2 h3 (by omega)⟩
abbrev zcp (G : Nat → Nat → Prop) (d k : Nat) (s : (Nat → Nat) × Nat) : Nat → Prop := fun x => G x k ∧ 0 < s.1 x ∧ 1 + zmx G (zsub s.1 x) (k + 1) d = s.2
/-- rooms and what is left, ahead of door k -/
noncomputable def zpl (G : Nat → Nat → Prop) (c : Nat → Nat) (d : Nat) : Nat → (Nat → Nat) × Nat
  | 0 => (c, zmx G c 0 d)
  | k + 1 => zif (zfst (zcp G d k (zpl G c d k)) 6 = 0) (zpl G c d k) (zsub (zpl G c d k).1 (zfst (zcp G d k (zpl G c d k)) 6 - 1), (zpl G c d k).2 - 1)
/-- the best plan's examiner of a door, and one more -/
noncomputable def zbp (G : Nat → Nat → Prop) (c : Nat → Nat) (d k : Nat) : Nat := zfst (zcp G d k (zpl G c d k)) 6
section BP
variable {G : Nat → Nat → Prop} {c : Nat → Nat} {d : Nat}
theorem zpl_0 {k : Nat} (h : zbp G c d k = 0) : zpl G c d (k + 1) = zpl G c d k := zif_t h _ _
theorem zpl_s {k : Nat} (h : zbp G c d k ≠ 0) : zpl G c d (k + 1) = (zsub (zpl G c d k).1 (zbp G c d k - 1), (zpl G c d k).2 - 1) := zif_f h _ _
theorem zbp_s {k : Nat} (h : zbp G c d k ≠ 0) : ∃ x, x < 6 ∧ zbp G c d k = x + 1 ∧ zcp G d k (zpl G c d k) x := by
  rcases zfst_s (zcp G d k (zpl G c d k)) 6 with ⟨h1, -⟩ | ⟨x, h1, h2, -, h4⟩
  · exact absurd h1 h
  · exact ⟨x, h1, h4, h2⟩
theorem zbp_n {k : Nat} (h : zbp G c d k = 0) : ∀ x, x < 6 → ¬ zcp G d k (zpl G c d k) x := by
  rcases zfst_s (zcp G d k (zpl G c d k)) 6 with ⟨-, h1⟩ | ⟨x, h1, h2, -, h4⟩
  · exact h1
  · unfold zbp at h; omega
theorem zpl_mx (hd : d ≤ 8) : ∀ {k : Nat}, k ≤ d → (zpl G c d k).2 = zmx G (zpl G c d k).1 k d
  | 0, _ => rfl
  | k + 1, hk => by
    have ih := zpl_mx hd (k := k) (by omega)
    rcases Nat.eq_zero_or_pos (zbp G c d k) with q | q
    · rw [zpl_0 q, ih]
      refine (zmx_none (by omega) hd (fun x hx w => ?_)).symm
      exact zbp_n q x hx ⟨w.1, w.2.1, by rw [ih]; exact w.2.2⟩
    · have q2 : zbp G c d k ≠ 0 := by omega
      obtain ⟨x, hx, e, w⟩ := zbp_s q2
      rw [zpl_s q2, e, Nat.add_sub_cancel]
      have := w.2.2
      show (zpl G c d k).2 - 1 = zmx G (zsub (zpl G c d k).1 x) (k + 1) d
      omega
theorem zpl_cnt (hd : d ≤ 8) : ∀ {k : Nat}, k ≤ d → zs (fun j => if zbp G c d j = 0 then 0 else 1) k + (zpl G c d k).2 = zmx G c 0 d
  | 0, _ => by rw [zpl_mx hd (Nat.zero_le _)]; exact Nat.zero_add _
  | k + 1, hk => by
    have ih := zpl_cnt hd (k := k) (by omega)
    rw [zs_succ]
    rcases Nat.eq_zero_or_pos (zbp G c d k) with q | q
    · rw [zpl_0 q, if_pos q]; omega
    · have q2 : zbp G c d k ≠ 0 := by omega
      obtain ⟨x, hx, e, w⟩ := zbp_s q2
      have := w.2.2
      rw [zpl_s q2, if_neg q2]
      show _ + 1 + ((zpl G c d k).2 - 1) = _
      omega
theorem zpl_all (hd : d ≤ 8) : zs (fun j => if zbp G c d j = 0 then 0 else 1) d = zmx G c 0 d := by
  have h1 := zpl_cnt (G := G) (c := c) hd (Nat.le_refl d)
  have h2 := zpl_mx (G := G) (c := c) hd (Nat.le_refl d)
  rw [zmx_end] at h2
  omega
end BP
