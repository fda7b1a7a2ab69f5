/-! The static world: every object of the class has a fixed number (below 33, or 46..232), its ints are a function of number and place; references never change. -/
abbrev sM : Type := Nat → Nat → Int32
def sw_ms (M : sM) (k j : Nat) (v : Int32) : sM := fun a => if a = k then upd (M a) j v else M a
theorem sw_ms_k (M : sM) (k j : Nat) (v : Int32) : sw_ms M k j v k = upd (M k) j v := if_pos rfl
theorem sw_ms_n (M : sM) {k a : Nat} (j : Nat) (v : Int32) (h : a ≠ k) : sw_ms M k j v a = M a := if_neg h
/-- the number of the i-th State: 0 present, 1 saved, 2.. the history's slots -/
def sw_st (i : Nat) : Nat := 46 + 17 * i
abbrev sw_L : Type := (Nat × List (Option Nat)) ⊕ (Nat × Nat × Option (Nat × Nat))
def sw_layS (b r : Nat) : sw_L := match r with
  | 0 => .inl (5, [none, none, none, none, some (b + 1), some (b + 2), none, some (b + 3), some (b + 4), some (b + 5), some (b + 6), some (b + 7), some (b + 8), some (b + 10), none, none, some (b + 9)])
  | 1 => .inr (0, 8, none)
  | 2 => .inr (1, 8, none)
  | 3 => .inr (0, 6, none)
  | 4 => .inr (1, 6, none)
  | 5 => .inr (1, 6, none)
  | 6 => .inr (1, 6, none)
  | 7 => .inr (1, 6, none)
  | 8 => .inr (1, 6, none)
  | 9 => .inr (1, 8, none)
  | 10 => .inr (4, 6, some (b + 11, 1))
  | _ => .inr (1, 8, none)
def sw_layC (k : Nat) : sw_L := match k with
  | 0 => .inl (6, [some 46, some 63, none, some 1, some 3, some 12, some 14, some 31, none, none])
  | 1 => .inl (0, [some 2, none, none])
  | 2 => .inr (3, 9, some (80, 17))
  | 3 => .inl (3, [none, some 4, some 5, some 6, some 7, some 8, some 9, some 10, some 11])
  | 4 => .inr (1, 8, none)
  | 5 => .inr (1, 6, none)
  | 6 => .inr (1, 8, none)
  | 7 => .inr (1, 8, none)
  | 8 => .inr (1, 6, none)
  | 9 => .inr (1, 6, none)
  | 10 => .inr (1, 8, none)
  | 11 => .inr (2, 256, none)
  | 12 => .inl (2, [some 13])
  | 13 => .inr (1, 6, none)
  | 14 => .inl (4, [some 15, none, none, some 16, some 17])
  | 15 => .inr (0, 60, none)
  | 16 => .inr (1, 13, none)
  | 17 => .inr (4, 13, some (18, 1))
  | 31 => .inl (1, [some 32, none])
  | 32 => .inr (0, 32, none)
  | _ => .inr (1, 4, none)
def sw_lay (k : Nat) : sw_L := if k < 46 then sw_layC k else sw_layS (46 + 17 * ((k - 46) / 17)) ((k - 46) % 17)
theorem sw_lay_c {k : Nat} (h : k < 46) : sw_lay k = sw_layC k := if_pos h
theorem sw_lay_s (i r : Nat) (hr : r < 17) : sw_lay (sw_st i + r) = sw_layS (sw_st i) r := by
  unfold sw_lay sw_st
  rw [if_neg (by omega)]
  have h1 : (46 + 17 * i + r - 46) / 17 = i := by omega
  have h2 : (46 + 17 * i + r - 46) % 17 = r := by omega
  rw [h1, h2]
theorem sw_lay_so (i : Nat) : sw_lay (sw_st i) = sw_layS (sw_st i) 0 := sw_lay_s i 0 (by decide)
/-- the numbers that name objects -/
def sw_vk (k : Nat) : Prop := k < 33 ∨ (46 ≤ k ∧ k < 233)
/-- the place of a number in the list of cells -/
def sw_pl (k : Nat) : Nat := if k < 33 then k else k - 13
/-- the number at a place -/
def sw_un (i : Nat) : Nat := if i < 33 then i else i + 13
theorem sw_un_pl {k : Nat} (h : sw_vk k) : sw_un (sw_pl k) = k := by
  unfold sw_un sw_pl
  rcases h with h | h
  · rw [if_pos h, if_pos h]
  · rw [if_neg (show ¬ k < 33 by omega), if_neg (show ¬ k - 13 < 33 by omega)]; omega
theorem sw_pl_un {i : Nat} : sw_pl (sw_un i) = i := by
  unfold sw_un sw_pl
  by_cases h : i < 33
  · rw [if_pos h, if_pos h]
  · rw [if_neg h, if_neg (show ¬ i + 13 < 33 by omega)]; omega
theorem sw_pl_lt {k : Nat} (h : sw_vk k) : sw_pl k < 220 := by
  unfold sw_pl
  rcases h with h | h
  · rw [if_pos h]; omega
  · rw [if_neg (by omega)]; omega
theorem sw_vk_un {i : Nat} (h : i < 220) : sw_vk (sw_un i) := by
  unfold sw_un
  by_cases h2 : i < 33
  · rw [if_pos h2]; exact Or.inl h2
  · rw [if_neg h2]; exact Or.inr (by omega)
theorem sw_pl_inj {i j : Nat} (hi : sw_vk i) (hj : sw_vk j) (h : sw_pl i = sw_pl j) : i = j := by rw [← sw_un_pl hi, ← sw_un_pl hj, h]
theorem sw_st_lt {i : Nat} (hi : i < 11) {r : Nat} (hr : r < 17) : sw_vk (sw_st i + r) := Or.inr (by unfold sw_st; omega)
theorem sw_st_lt0 {i : Nat} (hi : i < 11) : sw_vk (sw_st i) := Or.inr (by unfold sw_st; omega)
/-- a cell's fields -/
def sw_fv (ad : Nat → Nat) (f : Nat → Int32) : Nat → List (Option Nat) → List Value
  | _, [] => []
  | j, none :: l => .int (f j) :: sw_fv ad f (j + 1) l
  | j, some r :: l => .ref (ad r) :: sw_fv ad f (j + 1) l
theorem sw_fv_int {ad : Nat → Nat} {f : Nat → Int32} : ∀ {l : List (Option Nat)} {j0 j : Nat}, l[j]? = some none → (sw_fv ad f j0 l)[j]? = some (.int (f (j0 + j)))
  | [], j0, j, h => by simp at h
  | none :: l, j0, 0, h => by simp [sw_fv]
  | some r :: l, j0, 0, h => by simp at h
  | none :: l, j0, j + 1, h => by
    have := sw_fv_int (ad := ad) (f := f) (l := l) (j0 := j0 + 1) (j := j) (by simpa using h)
    simp only [sw_fv, List.getElem?_cons_succ]
    rw [this, show j0 + 1 + j = j0 + (j + 1) by omega]
  | some r :: l, j0, j + 1, h => by
    have := sw_fv_int (ad := ad) (f := f) (l := l) (j0 := j0 + 1) (j := j) (by simpa using h)
    simp only [sw_fv, List.getElem?_cons_succ]
    rw [this, show j0 + 1 + j = j0 + (j + 1) by omega]
theorem sw_fv_ref {ad : Nat → Nat} {f : Nat → Int32} {r : Nat} : ∀ {l : List (Option Nat)} {j0 j : Nat}, l[j]? = some (some r) → (sw_fv ad f j0 l)[j]? = some (.ref (ad r))
  | [], j0, j, h => by simp at h
  | none :: l, j0, 0, h => by simp at h
  | some r' :: l, j0, 0, h => by simp at h; simp [sw_fv, h]
  | none :: l, j0, j + 1, h => by
    simp only [sw_fv, List.getElem?_cons_succ]
    exact sw_fv_ref (l := l) (by simpa using h)
  | some r' :: l, j0, j + 1, h => by
    simp only [sw_fv, List.getElem?_cons_succ]
    exact sw_fv_ref (l := l) (by simpa using h)
theorem sw_fv_len {ad : Nat → Nat} {f : Nat → Int32} : ∀ {l : List (Option Nat)} {j0 : Nat}, (sw_fv ad f j0 l).length = l.length
  | [], _ => rfl
  | none :: l, j0 => by simp [sw_fv, sw_fv_len (l := l)]
  | some r :: l, j0 => by simp [sw_fv, sw_fv_len (l := l)]
theorem sw_fv_cong {ad : Nat → Nat} {f g : Nat → Int32} : ∀ {l : List (Option Nat)} {j0 : Nat}, (∀ j, j0 ≤ j → f j = g j) → sw_fv ad f j0 l = sw_fv ad g j0 l
  | [], _, _ => rfl
  | none :: l, j0, h => by
    simp only [sw_fv]
    rw [h j0 (Nat.le_refl _), sw_fv_cong (l := l) (fun j hj => h j (by omega))]
  | some r :: l, j0, h => by
    simp only [sw_fv]
    rw [sw_fv_cong (l := l) (fun j hj => h j (by omega))]
theorem sw_fv_set {ad : Nat → Nat} {f : Nat → Int32} {v : Int32} : ∀ {l : List (Option Nat)} {j0 j : Nat}, l[j]? = some none → (sw_fv ad f j0 l).set j (.int v) = sw_fv ad (upd f (j0 + j) v) j0 l
  | [], j0, j, h => by simp at h
  | none :: l, j0, 0, h => by
    simp only [sw_fv, List.set_cons_zero, Nat.add_zero]
    congr 1
    · simp [upd]
    · exact sw_fv_cong (fun j hj => by simp [upd, show ¬ j = j0 by omega])
  | some r :: l, j0, 0, h => by simp at h
  | none :: l, j0, j + 1, h => by
    have := sw_fv_set (ad := ad) (f := f) (v := v) (l := l) (j0 := j0 + 1) (j := j) (by simpa using h)
    simp only [sw_fv, List.set_cons_succ]
    rw [this, show j0 + 1 + j = j0 + (j + 1) by omega]
    simp [upd, show ¬ j0 = j0 + (j + 1) by omega]
  | some r :: l, j0, j + 1, h => by
    have := sw_fv_set (ad := ad) (f := f) (v := v) (l := l) (j0 := j0 + 1) (j := j) (by simpa using h)
    simp only [sw_fv, List.set_cons_succ]
    rw [this, show j0 + 1 + j = j0 + (j + 1) by omega]
/-- base, addresses, array classes, classes and slots, the strings' addresses and their bytes' -/
abbrev sG : Type := Nat × (Nat → Nat) × (Nat → ClassId) × va_G × (Nat → Nat) × (Nat → Nat)
abbrev sw_ad (g : sG) : Nat → Nat := g.2.1
abbrev sw_ac (g : sG) : Nat → ClassId := g.2.2.1
abbrev sw_D (g : sG) : va_G := g.2.2.2.1
abbrev sw_sk (g : sG) : Nat → Nat := g.2.2.2.2.1
abbrev sw_sv (g : sG) : Nat → Nat := g.2.2.2.2.2
/-- an object of the class -/
def sw_fx (g : sG) (q : Nat) : Prop := ∃ k, sw_vk k ∧ q = sw_ad g k
/-- what may be written: the class's objects, and all that comes from the base on -/
def sw_A (g : sG) : Nat → Prop := fun q => g.1 ≤ q ∨ sw_fx g q
theorem sw_A_b {g : sG} {q : Nat} (h : g.1 ≤ q) : sw_A g q := Or.inl h
abbrev sw_cl : List vw_C := [(RX0, TX0, 3), (RX1, TX1, 2), (RX2, TX2, 1), (RX3, TX3, 9), (RX4, TX4, 5), (RX5, TX5, 17), (RX6, TX6, 10), (RJ0, TJ0, 4), (RJ4, TJ4, 4)]
abbrev sw_ty (g : sG) : List (ClassId × FieldType) := [(sw_ac g 0, .char), (sw_ac g 1, .int), (sw_ac g 2, .boolean), (sw_ac g 3, .object RX5), (sw_ac g 4, .array .int), (sw_ac g 5, .long), (sw_ac g 6, .byte)]
def sw_mk (g : sG) (f : Nat → Int32) : sw_L → va_E
  | .inl (ci, fs) => .inr (ci, sw_fv (sw_ad g) f 0 fs)
  | .inr (t, n, none) => .inl (sw_ac g t, n, .inl f)
  | .inr (t, n, some (b, d)) => .inl (sw_ac g t, n, .inr (.inr (.inr (.inr (fun j => some (sw_ad g (b + d * j)))))))
def sw_e (g : sG) (M : sM) (k : Nat) : va_E := sw_mk g (M k) (sw_lay k)
def sw_W (g : sG) (M : sM) : va_W := (List.range 220).map (fun i => (sw_ad g (sw_un i), sw_e g M (sw_un i)))
theorem sw_W_len (g : sG) (M : sM) : (sw_W g M).length = 220 := by simp [sw_W]
theorem sw_W_i (g : sG) (M : sM) {i : Nat} (hi : i < 220) : (sw_W g M)[i]? = some (sw_ad g (sw_un i), sw_e g M (sw_un i)) := by
  unfold sw_W
  rw [List.getElem?_map, List.getElem?_range hi]
  rfl
theorem sw_W_get (g : sG) (M : sM) {k : Nat} (hk : sw_vk k) : (sw_W g M)[sw_pl k]? = some (sw_ad g k, sw_e g M k) := by
  rw [sw_W_i g M (sw_pl_lt hk), sw_un_pl hk]
theorem sw_W_set (g : sG) (M : sM) {k : Nat} (hk : sw_vk k) (j : Nat) (v : Int32) : (sw_W g M).set (sw_pl k) (sw_ad g k, sw_mk g (upd (M k) j v) (sw_lay k)) = sw_W g (sw_ms M k j v) := by
  apply List.ext_getElem?
  intro i
  by_cases hi : i = sw_pl k
  · subst hi
    rw [List.getElem?_set_self (by rw [sw_W_len]; exact sw_pl_lt hk), sw_W_get _ _ hk, sw_e, sw_ms_k]
  · rw [List.getElem?_set_ne (Ne.symm hi)]
    by_cases h : i < 220
    · have hne : sw_un i ≠ k := fun z => hi (by rw [← z, sw_pl_un])
      rw [sw_W_i _ _ h, sw_W_i _ _ h, sw_e, sw_e, sw_ms_n _ _ _ hne]
    · rw [List.getElem?_eq_none (by rw [sw_W_len]; omega), List.getElem?_eq_none (by rw [sw_W_len]; omega)]
/-- the addresses are apart -/
def sw_in (g : sG) : Prop := ∀ i j : Nat, sw_vk i → sw_vk j → sw_ad g i = sw_ad g j → i = j
theorem sw_W_at (g : sG) (M : sM) {i : Nat} {q : Nat × va_E} (h : (sw_W g M)[i]? = some q) : i < 220 ∧ q.1 = sw_ad g (sw_un i) := by
  have hk : i < 220 := by
    have := (List.getElem?_eq_some_iff.mp h).1
    rwa [sw_W_len] at this
  refine ⟨hk, ?_⟩
  rw [sw_W_i _ _ hk] at h; cases h; rfl
theorem sw_W_D {g : sG} (hg : sw_in g) (M : sM) : va_D (sw_A g) (sw_W g M) := by
  refine ⟨fun i j p q hp hq e => ?_, fun k q hq => ?_⟩
  · obtain ⟨h1, h2⟩ := sw_W_at g M hp
    obtain ⟨h3, h4⟩ := sw_W_at g M hq
    have h5 := hg _ _ (sw_vk_un h1) (sw_vk_un h3) (by rw [← h2, ← h4]; exact e)
    rw [← sw_pl_un (i := i), ← sw_pl_un (i := j), h5]
  · obtain ⟨h1, h2⟩ := sw_W_at g M hq
    exact Or.inr ⟨sw_un k, sw_vk_un h1, h2⟩
