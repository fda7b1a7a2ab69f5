/-! The class's second way to the size of a greatest plan: sets of doors, examiner by examiner. -/
def zRe (G : Nat → Nat → Prop) (c : Nat → Nat) (d S : Nat) : Prop := ∃ m, zMt G c 0 d m ∧ zm (fun k => zmc m k) = S
theorem zMt_c {G : Nat → Nat → Prop} {c c2 : Nat → Nat} {f d : Nat} {m : Nat → Nat → Nat} (h : zMt G c f d m) (hc : ∀ x, x < 6 → c x ≤ c2 x) : zMt G c2 f d m := ⟨h.1, h.2.1, fun x hx => Nat.le_trans (h.2.2 x hx) (hc x hx)⟩
theorem zRe_c {G : Nat → Nat → Prop} {c c2 : Nat → Nat} {d S : Nat} (h : zRe G c d S) (hc : ∀ x, x < 6 → c x ≤ c2 x) : zRe G c2 d S := by
  obtain ⟨m, hm, e⟩ := h
  exact ⟨m, zMt_c hm hc, e⟩
theorem zRe_lt {G : Nat → Nat → Prop} {c : Nat → Nat} {d S : Nat} (h : zRe G c d S) : S < 256 := by
  obtain ⟨m, hm, e⟩ := h
  rw [← e]; exact zm_lt hm.2.1
theorem zRe_0 {G : Nat → Nat → Prop} {d S : Nat} : zRe G (fun _ => 0) d S ↔ S = 0 := by
  constructor
  · rintro ⟨m, hm, e⟩
    rw [← e]
    have h0 : ∀ x k, x < 6 → k < 8 → m x k = 0 := fun x k hx hk => by
      have h1 : zmr m x ≤ 0 := hm.2.2 x hx
      have h2 : m x k ≤ zmr m x := zs_mem (f := fun k => m x k) hk
      omega
    exact zm_cong (g := fun _ => 0) (fun k hk => zs_zero (fun x hx => h0 x k hx hk))
  · intro e
    subst e
    refine ⟨_, zMt_0, ?_⟩
    exact zm_cong (g := fun _ => 0) (fun k hk => zs_zero (fun x hx => rfl))
theorem zRe_up {G : Nat → Nat → Prop} {c : Nat → Nat} {d x S : Nat} (hd : d ≤ 8) (hx : x < 6) : zRe G (zgu c x (c x + 1)) d S ↔ zRe G c d S ∨ ∃ n j, n < 256 ∧ j < d ∧ n / 2 ^ j % 2 = 0 ∧ G x j ∧ zRe G c d n ∧ S = n + 2 ^ j := by
  constructor
  · rintro ⟨m, hm, e⟩
    have hmx := hm.2.2 x hx
    have ex : zgu c x (c x + 1) x = c x + 1 := if_pos rfl
    rw [ex] at hmx
    by_cases q : zmr m x ≤ c x
    · refine .inl ⟨m, ⟨hm.1, hm.2.1, fun y hy => ?_⟩, e⟩
      by_cases r : y = x
      · subst r; exact q
      · have := hm.2.2 y hy
        unfold zgu at this
        rw [if_neg r] at this; exact this
    · obtain ⟨j, hj, hp⟩ := zs_pos (f := fun k => m x k) (n := 8) (show 0 < zmr m x by omega)
      have hG := hm.1 x j hx hj hp
      obtain ⟨v1, v0⟩ := zmc_1 hm hx hj hp
      have cj := zmu_c (m := m) (v := 0) (k := j) (j := j) hx
      rw [if_pos rfl, if_pos rfl, v1] at cj
      have cj1 := hm.2.1 j hj
      have hm2 : zMt G c 0 d (zmu m x j 0) := by
        refine ⟨fun z k hz hk hp2 => ?_, fun k hk => ?_, fun z hz => ?_⟩
        · unfold zmu at hp2
          by_cases e2 : z = x ∧ k = j
          · rw [if_pos e2] at hp2; omega
          · rw [if_neg e2] at hp2; exact hm.1 z k hz hk hp2
        · have e2 := zmu_c (m := m) (v := 0) (k := j) (j := k) hx
          have w := hm.2.1 k hk
          by_cases q2 : k = j
          · subst q2; rw [if_pos rfl, if_pos rfl] at e2; omega
          · rw [if_neg q2, if_neg q2] at e2; omega
        · have e2 := zmu_r (m := m) (v := 0) (x := x) (z := z) hj
          have w := hm.2.2 z hz
          unfold zgu at w
          by_cases q2 : z = x
          · subst q2; rw [if_pos rfl, if_pos rfl] at e2; rw [if_pos rfl] at w; omega
          · rw [if_neg q2, if_neg q2] at e2; rw [if_neg q2] at w; omega
      have b0 : zmc (zmu m x j 0) j = 0 := by omega
      refine .inr ⟨zm (fun k => zmc (zmu m x j 0) k), j, zm_lt hm2.2.1, hG.2.2, ?_, hG.1, ⟨_, hm2, rfl⟩, ?_⟩
      · rw [zm_bit (f := fun k => zmc (zmu m x j 0) k) hm2.2.1 hj]; exact b0
      · rw [← e, ← zm_set (f := fun k => zmc (zmu m x j 0) k) hj b0]
        refine zm_cong (fun k hk => ?_)
        show zmc m k = if k = j then 1 else zmc (zmu m x j 0) k
        have e2 := zmu_c (m := m) (v := 0) (k := j) (j := k) hx
        by_cases q2 : k = j
        · subst q2; rw [if_pos rfl]; omega
        · rw [if_neg q2, if_neg q2] at e2; rw [if_neg q2]; omega
  · rintro (h | ⟨n, j, hn, hj, hb, hG, ⟨m, hm, e⟩, es⟩)
    · refine zRe_c h (fun y _ => ?_)
      unfold zgu
      split
      · rename_i r; subst r; omega
      · exact Nat.le_refl _
    · have hj8 : j < 8 := by omega
      have b0 : zmc m j = 0 := by rw [← e, zm_bit (f := fun k => zmc m k) hm.2.1 hj8] at hb; exact hb
      have z1 : m x j = 0 := by have : m x j ≤ zmc m j := zs_mem (f := fun x => m x j) hx; omega
      refine ⟨zmu m x j 1, ⟨fun z k hz hk hp => ?_, fun k hk => ?_, fun z hz => ?_⟩, ?_⟩
      · unfold zmu at hp
        by_cases e2 : z = x ∧ k = j
        · obtain ⟨rfl, rfl⟩ := e2
          exact ⟨hG, Nat.zero_le _, hj⟩
        · rw [if_neg e2] at hp; exact hm.1 z k hz hk hp
      · have e2 := zmu_c (m := m) (v := 1) (k := j) (j := k) hx
        have w := hm.2.1 k hk
        by_cases q2 : k = j
        · subst q2; rw [if_pos rfl, if_pos rfl] at e2; omega
        · rw [if_neg q2, if_neg q2] at e2; omega
      · have e2 := zmu_r (m := m) (v := 1) (x := x) (z := z) hj8
        have w := hm.2.2 z hz
        unfold zgu
        by_cases q2 : z = x
        · subst q2; rw [if_pos rfl, if_pos rfl] at e2; rw [if_pos rfl]; omega
        · rw [if_neg q2, if_neg q2] at e2; rw [if_neg q2]; omega
      · rw [es, ← e, ← zm_set (f := fun k => zmc m k) hj8 b0]
        refine zm_cong (fun k hk => ?_)
        show zmc (zmu m x j 1) k = if k = j then 1 else zmc m k
        have e2 := zmu_c (m := m) (v := 1) (k := j) (j := k) hx
        by_cases q2 : k = j
        · subst q2; rw [if_pos rfl, if_pos rfl] at e2; rw [if_pos rfl]; omega
        · rw [if_neg q2, if_neg q2] at e2; rw [if_neg q2]; omega
/-- the row of the sets -/
def pR (M : sM) (P : Nat → Prop) : Prop := ∀ S, S < 256 → (P S → M 11 S = 1) ∧ (¬ P S → M 11 S = 0)
theorem pR_cong {M : sM} {P P2 : Nat → Prop} (h : pR M P) (e : ∀ S, S < 256 → (P2 S ↔ P S)) : pR M P2 := fun S hS => ⟨fun z => (h S hS).1 ((e S hS).mp z), fun z => (h S hS).2 (fun w => z ((e S hS).mpr w))⟩
theorem pR_set {M : sM} {P : Nat → Prop} (h : pR M P) (S0 : Nat) : pR (sw_ms M 11 S0 1) (fun S => P S ∨ S = S0) := fun S hS => by
  rw [ms_a]
  by_cases e : S = S0
  · rw [if_pos ⟨rfl, e⟩]; exact ⟨fun _ => rfl, fun z => absurd (.inr e) z⟩
  · rw [if_neg (fun z => e z.2)]
    refine ⟨fun z => (h S hS).1 ?_, fun z => (h S hS).2 (fun w => z (.inl w))⟩
    rcases z with z | z
    · exact z
    · exact absurd z e
theorem pk_pow {n j : Nat} (hn : n < 256) (hj : j < 8) (h : n / 2 ^ j % 2 = 0) : n + 2 ^ j < 256 := by
  have : ∀ n, n < 256 → ∀ j, j < 8 → n / 2 ^ j % 2 = 0 → n + 2 ^ j < 256 := by decide +kernel
  exact this n hn j hj h
section EXT
variable {G : Nat → Nat → Prop} {d : Nat}
theorem u3_extendSets {M : sM} {c : Nat → Nat} {x : Nat} (hd : d ≤ 8) (hx : x < 6) (h3 : M 3 0 = nI d) (h4 : ∀ k, k < d → M 4 k = nI (zm (zgb G k))) (hR : pR M (zRe G c d)) {Q : sM → Prop} (h : ∀ M', fr 11 12 M M' → pR M' (zRe G (zgu c x (c x + 1)) d) → Q M') : wX3_extendSets (nI x) M Q := by
  have key : ∀ n, n ≤ 256 → ∀ M2, fr 11 12 M M2 → pR M2 (fun S => zRe G c d S ∨ ∃ m j, n ≤ m ∧ m < 256 ∧ j < d ∧ m / 2 ^ j % 2 = 0 ∧ G x j ∧ zRe G c d m ∧ S = m + 2 ^ j) → lX3_extendSets_4 (nI x) (fun M_4k => Q M_4k) (n + 1) (nP n) M2 := by
    intro n
    induction n with
    | zero =>
      intro _ M2 f2 R2
      unfold lX3_extendSets_4
      refine brt (by rw [nP_0]; decide) (h M2 f2 (pR_cong R2 (fun S hS => ?_)))
      rw [zRe_up hd hx]
      constructor
      · rintro (z | ⟨m, j, z1, z2, z3, z4, z5, z6⟩)
        · exact .inl z
        · exact .inr ⟨m, j, Nat.zero_le _, z1, z2, z3, z4, z5, z6⟩
      · rintro (z | ⟨m, j, -, z1, z2, z3, z4, z5, z6⟩)
        · exact .inl z
        · exact .inr ⟨m, j, z1, z2, z3, z4, z5, z6⟩
    | succ n ih =>
      intro hn M2 f2 R2
      have hn8 : n < 256 := by omega
      unfold lX3_extendSets_4
      rw [nP_S]
      refine brf (nI_pos (by omega)) ⟨vin hn8 (by decide), ?_⟩
      rw [cl (by omega)]
      have at_n : (zRe G c d n ∨ ∃ m j, n + 1 ≤ m ∧ m < 256 ∧ j < d ∧ m / 2 ^ j % 2 = 0 ∧ G x j ∧ zRe G c d m ∧ n = m + 2 ^ j) ↔ zRe G c d n := ⟨fun z => by
        rcases z with z | ⟨m, j, z1, -, -, -, -, -, z6⟩
        · exact z
        · have := Nat.two_pow_pos j
          omega, .inl⟩
      have dn : ∀ v : Int32, v = nI n + (-1 : Int32) → v = nP n := fun v e => by rw [e]; unfold nP; rw [Int32.sub_eq_add_neg]
      rcases Classical.em (zRe G c d n) with hz | hz
      · rw [(R2 n hn8).1 (at_n.mpr hz)]
        refine br1 ?_
        have key2 : ∀ m j, j + m = d → ∀ M3, fr 11 12 M M3 → pR M3 (fun S => (zRe G c d S ∨ ∃ m j, n + 1 ≤ m ∧ m < 256 ∧ j < d ∧ m / 2 ^ j % 2 = 0 ∧ G x j ∧ zRe G c d m ∧ S = m + 2 ^ j) ∨ ∃ j2, j2 < j ∧ n / 2 ^ j2 % 2 = 0 ∧ G x j2 ∧ S = n + 2 ^ j2) →
            lX3_extendSets_19 (nI x) (nI n) (fun M_19k => ∀ v5 : Int32, v5 = nI n + (-1 : Int32) → ((fun x2_4 M_4 => lX3_extendSets_4 (nI x) (fun M_4k => Q M_4k) (n + 1) x2_4 M_4) v5 M_19k)) (m + 1) (nI j) M3 := by
          intro m
          induction m with
          | zero =>
            intro j hj M3 f3 R3
            unfold lX3_extendSets_19
            have e : j = d := by omega
            rw [f3 3 (by decide), h3]
            refine brt (by rw [e]; exact nI_le (Nat.le_refl _) (by omega)) ?_
            intro v5 e5
            rw [dn v5 e5]
            refine ih (by omega) M3 f3 (pR_cong R3 (fun S hS => ?_))
            constructor
            · rintro (z | ⟨m, j2, z0, z1, z2, z3, z4, z5, z6⟩)
              · exact .inl (.inl z)
              · rcases Nat.lt_or_ge n m with r | r
                · exact .inl (.inr ⟨m, j2, r, z1, z2, z3, z4, z5, z6⟩)
                · have e2 : m = n := by omega
                  subst e2; exact .inr ⟨j2, by omega, z3, z4, z6⟩
            · rintro ((z | ⟨m, j2, z0, z1, z2, z3, z4, z5, z6⟩) | ⟨j2, z1, z2, z3, z4⟩)
              · exact .inl z
              · exact .inr ⟨m, j2, by omega, z1, z2, z3, z4, z5, z6⟩
              · exact .inr ⟨n, j2, Nat.le_refl _, hn8, by omega, z2, z3, hz, z4⟩
          | succ m ih2 =>
            intro j hj M3 f3 R3
            have hj8 : j < 8 := by omega
            unfold lX3_extendSets_19
            rw [f3 3 (by decide), h3]
            refine brf (nI_ge (by omega) (by omega)) ?_
            have skip : ¬ (n / 2 ^ j % 2 = 0 ∧ G x j) → ∀ v : Int32, v = nI j + 1 → lX3_extendSets_19 (nI x) (nI n) (fun M_19k => ∀ v5 : Int32, v5 = nI n + (-1 : Int32) → ((fun x2_4 M_4 => lX3_extendSets_4 (nI x) (fun M_4k => Q M_4k) (n + 1) x2_4 M_4) v5 M_19k)) (m + 1) v M3 := fun hno v ev => by
              subst ev
              have r := ih2 (j + 1) (by omega) M3 f3 (pR_cong R3 (fun S hS => ?_))
              · rw [nI_succ] at r; exact r
              · constructor
                · rintro (z | ⟨j2, z1, z2, z3, z4⟩)
                  · exact .inl z
                  · rcases Nat.lt_or_ge j2 j with r | r
                    · exact .inr ⟨j2, r, z2, z3, z4⟩
                    · have e2 : j2 = j := by omega
                      subst e2; exact absurd ⟨z2, z3⟩ hno
                · rintro (z | ⟨j2, z1, z2, z3, z4⟩)
                  · exact .inl z
                  · exact .inr ⟨j2, by omega, z2, z3, z4⟩
            refine u6_contains (by omega) (by omega) (fun z => br1 (skip (fun w => by omega))) (fun z => br0 ⟨vin hj8 (by decide), ?_⟩)
            have z0 : n / 2 ^ j % 2 = 0 := by have := Nat.mod_lt (n / 2 ^ j) (by decide : 0 < 2); omega
            rw [cl (by omega), f3 4 (by decide), h4 j (by omega)]
            have b64 := zgb_64 G j
            refine u6_contains (by omega) (by omega) (fun y => br1 ?_) (fun y => br0 (skip (fun w => y (by rw [zm_bit (zgb_1 G j) (by omega)]; exact zif_t ⟨hx, w.2⟩ _ _))))
            have hG : G x j := by
              rw [zm_bit (zgb_1 G j) (by omega)] at y
              unfold zgb at y
              rcases Classical.em (x < 6 ∧ G x j) with r | r
              · exact r.2
              · rw [zif_f r] at y; omega
            rw [zb_or n (by omega) j (by omega) z0]
            have hlt := pk_pow hn8 hj8 z0
            refine ⟨vin hlt (by decide), ?_⟩
            intro M16 e16 v17 e17
            subst e17
            rw [cl (by omega)] at e16
            have e16 : M16 = sw_ms M3 11 (n + 2 ^ j) 1 := e16
            have r := ih2 (j + 1) (by omega) M16 (fr_t f3 (by rw [e16]; exact fr_s M3 _ _ (by decide))) (pR_cong (by rw [e16]; exact pR_set R3 _) (fun S hS => ?_))
            · rw [nI_succ] at r; exact r
            · constructor
              · rintro (z | ⟨j2, z1, z2, z3, z4⟩)
                · exact .inl (.inl z)
                · rcases Nat.lt_or_ge j2 j with r | r
                  · exact .inl (.inr ⟨j2, r, z2, z3, z4⟩)
                  · have e2 : j2 = j := by omega
                    subst e2; exact .inr z4
              · rintro ((z | ⟨j2, z1, z2, z3, z4⟩) | z)
                · exact .inl z
                · exact .inr ⟨j2, by omega, z2, z3, z4⟩
                · exact .inr ⟨j, by omega, z0, hG, z⟩
        refine ⟨d + 1, key2 d 0 (by omega) M2 f2 (pR_cong R2 (fun S hS => ⟨fun z => ?_, fun z => .inl z⟩))⟩
        rcases z with z | ⟨j2, z1, -⟩
        · exact z
        · exact absurd z1 (Nat.not_lt_zero _)
      · rw [(R2 n hn8).2 (fun w => hz (at_n.mp w))]
        refine br0 ?_
        intro v4 e4
        rw [dn v4 e4]
        refine ih (by omega) M2 f2 (pR_cong R2 (fun S hS => ?_))
        constructor
        · rintro (z | ⟨m, j2, z0, z1, z2, z3, z4, z5, z6⟩)
          · exact .inl z
          · rcases Nat.lt_or_ge n m with r | r
            · exact .inr ⟨m, j2, r, z1, z2, z3, z4, z5, z6⟩
            · have e2 : m = n := by omega
              subst e2; exact absurd z5 hz
        · rintro (z | ⟨m, j2, z0, z1, z2, z3, z4, z5, z6⟩)
          · exact .inl z
          · exact .inr ⟨m, j2, by omega, z1, z2, z3, z4, z5, z6⟩
  unfold wX3_extendSets
  refine ⟨257, key 256 (Nat.le_refl _) M (fr_r _ _ _) (pR_cong hR (fun S hS => ⟨fun z => ?_, .inl⟩))⟩
  rcases z with z | ⟨m, j2, z0, z1, -⟩
  · exact z
  · omega
end EXT
/-- rooms of the examiners up to one, and some of that one's -/
def zup (c : Nat → Nat) (x t : Nat) : Nat → Nat := fun y => if y < x then c y else if y = x then t else 0
theorem zRe_e {G : Nat → Nat → Prop} {c c2 : Nat → Nat} {d S : Nat} (e : ∀ x, x < 6 → c x = c2 x) : zRe G c d S ↔ zRe G c2 d S := ⟨fun h => zRe_c h (fun x hx => by rw [e x hx]; exact Nat.le_refl _), fun h => zRe_c h (fun x hx => by rw [e x hx]; exact Nat.le_refl _)⟩
def zpop (S : Nat) : Nat := zs (fun k => S / 2 ^ k % 2) 8
theorem zRe_n {G : Nat → Nat → Prop} {c : Nat → Nat} {d S : Nat} (h : zRe G c d S) : zpop S ≤ zmx G c 0 d := by
  obtain ⟨m, hm, e⟩ := h
  have h1 := (zmx_opt (G := G) (c := c) (f := 0) (d := d)).2 m hm
  have h2 : zpop S = zmn m := zs_cong (fun k hk => by rw [← e]; exact zm_bit (f := fun k => zmc m k) hm.2.1 hk)
  omega
theorem zRe_x {G : Nat → Nat → Prop} {c : Nat → Nat} {d : Nat} : ∃ S, S < 256 ∧ zRe G c d S ∧ zpop S = zmx G c 0 d := by
  obtain ⟨m, hm, e⟩ := (zmx_opt (G := G) (c := c) (f := 0) (d := d)).1
  refine ⟨zm (fun k => zmc m k), zm_lt hm.2.1, ⟨m, hm, rfl⟩, ?_⟩
  rw [← e]
  exact zs_cong (fun k hk => zm_bit (f := fun k => zmc m k) hm.2.1 hk)
theorem zpop_8 (S : Nat) : zpop S ≤ 8 := by
  have := zs_bound (f := fun k => S / 2 ^ k % 2) (n := 8) (c := 1) (fun k _ => by have := Nat.mod_lt (S / 2 ^ k) (by decide : 0 < 2); omega)
  unfold zpop; omega
theorem u3_sizeBySets {M : sM} {i : Nat} {a : Nat → Nat} (hS : rS M i a) (hb : rB a) {Q : Int32 → sM → Prop} (h : ∀ M', fr 3 12 M M' → Q (nI (zmx (zG0 a) (zC0 a) 0 (a 0))) M') : wX3_sizeBySets i M Q := by
  have hD := rB_D hb
  unfold wX3_sizeBySets
  refine u3_survey hS hb (fun M1 f1 hP => ?_)
  have key3 : ∀ M2, fr 3 12 M M2 → pR M2 (zRe (zG0 a) (zC0 a) (a 0)) → ∀ m S, S + m = 256 → ∀ v, v ≤ zmx (zG0 a) (zC0 a) 0 (a 0) → (∀ S2, S2 < S → zRe (zG0 a) (zC0 a) (a 0) S2 → zpop S2 ≤ v) → lX3_sizeBySets_76 M2 (fun x2_76k => Q x2_76k M2) (m + 1) (nI v) (nI S) := by
    intro M2 f2 R2 m
    have mx := zmx_8 (G := zG0 a) (c := zC0 a) (f := 0) (d := a 0)
    induction m with
    | zero =>
      intro S hSm v hv hb2
      unfold lX3_sizeBySets_76
      have e : S = 256 := by omega
      subst e
      refine brt (nI_le (b := 256) (Nat.le_refl _) (by omega)) ?_
      obtain ⟨S, hS, hz, e⟩ := zRe_x (G := zG0 a) (c := zC0 a) (d := a 0)
      have := hb2 S hS hz
      have e2 : v = zmx (zG0 a) (zC0 a) 0 (a 0) := by omega
      rw [e2]
      exact h M2 f2
    | succ m ih =>
      intro S hSm v hv hb2
      unfold lX3_sizeBySets_76
      refine brf (nI_ge (b := 256) (by omega) (by omega)) ⟨vin (by omega) (by decide), ?_⟩
      rw [cl (by omega)]
      rcases Classical.em (zRe (zG0 a) (zC0 a) (a 0) S) with hz | hz
      · rw [(R2 S (by omega)).1 hz]
        refine br1 (u_bitCount (by omega) ?_)
        rw [← zs_8 (fun k => S / 2 ^ k % 2)]
        intro v7 e7 v8 e8
        subst e8
        have p8 := zpop_8 S
        have pm := zRe_n hz
        have e7 : v7 = nI (if v < zpop S then zpop S else v) := by
          rw [e7]
          show (if nI v < nI (zpop S) then nI (zpop S) else nI v) = _
          by_cases e : v < zpop S
          · rw [if_pos e, if_pos (nI_lt e (by omega))]
          · rw [if_neg e, if_neg (nI_nlt (by omega) (by omega))]
        subst e7
        have r := ih (S + 1) (by omega) (if v < zpop S then zpop S else v) (by split <;> omega) (fun S2 h2 hz2 => by
          rcases Nat.lt_or_ge S2 S with q | q
          · have := hb2 S2 q hz2
            split <;> omega
          · have e : S2 = S := by omega
            subst e
            split <;> omega)
        rw [nI_succ] at r
        exact r
      · rw [(R2 S (by omega)).2 hz]
        refine br0 ?_
        intro v5 e5
        subst e5
        have r := ih (S + 1) (by omega) v hv (fun S2 h2 hz2 => by
          rcases Nat.lt_or_ge S2 S with q | q
          · exact hb2 S2 q hz2
          · have e : S2 = S := by omega
            subst e; exact absurd hz2 hz)
        rw [nI_succ] at r
        exact r
  have key2 : ∀ m x, x + m = 6 → ∀ M2, fr 6 12 M1 M2 → pR M2 (zRe (zG0 a) (zup (zC0 a) x 0) (a 0)) → lX3_sizeBySets_37 (fun M_37k => ∃ n76, lX3_sizeBySets_76 M_37k (fun x2_76k => Q x2_76k M_37k) n76 (0 : Int32) (0 : Int32)) (m + 1) (nI x) M2 := by
    intro m
    induction m with
    | zero =>
      intro x hx M2 f2 R2
      unfold lX3_sizeBySets_37
      have e : x = 6 := by omega
      subst e
      refine brt (nI_le (b := 6) (Nat.le_refl _) (by omega)) ?_
      exact ⟨257, key3 M2 (fr_t (fr_w f1 (by decide) (by decide)) (fr_w f2 (by decide) (by decide))) (pR_cong R2 (fun S _ => zRe_e (fun y hy => by unfold zup; rw [if_pos hy]))) 256 0 rfl 0 (Nat.zero_le _) (fun S2 h2 => absurd h2 (Nat.not_lt_zero _))⟩
    | succ m ih =>
      intro x hx M2 f2 R2
      have hx6 : x < 6 := by omega
      have c4 := zC0_4 hb x hx6
      unfold lX3_sizeBySets_37
      refine brf (nI_ge (b := 6) (by omega) (by omega)) ?_
      have key4 : ∀ m2 t, t + m2 = zC0 a x → ∀ M3, fr 6 12 M1 M3 → pR M3 (zRe (zG0 a) (zup (zC0 a) x t) (a 0)) → lX3_sizeBySets_45 (nI x) (fun M_45k => ∀ v19 : Int32, v19 = nI x + (1 : Int32) → ((fun x2_37 M_37 => lX3_sizeBySets_37 (fun M_37k => ∃ n76, lX3_sizeBySets_76 M_37k (fun x2_76k => Q x2_76k M_37k) n76 (0 : Int32) (0 : Int32)) (m + 1) x2_37 M_37) v19 M_45k)) (m2 + 1) (nI t) M3 := by
        intro m2
        induction m2 with
        | zero =>
          intro t ht M3 f3 R3
          unfold lX3_sizeBySets_45
          refine ⟨vin hx6 (by decide), ?_⟩
          rw [cl (by omega), f3 5 (by decide), hP.2.2 x hx6]
          have e : t = zC0 a x := by omega
          refine brt (by rw [e]; exact nI_le (Nat.le_refl _) (by omega)) ?_
          intro v19 e19
          subst e19
          have r := ih (x + 1) (by omega) M3 f3 (pR_cong R3 (fun S _ => zRe_e (fun y hy => by
            unfold zup
            by_cases q : y < x
            · rw [if_pos q, if_pos (by omega)]
            · rw [if_neg q]
              by_cases q2 : y = x
              · subst q2; rw [if_pos rfl, if_pos (by omega)]; exact e.symm
              · rw [if_neg q2, if_neg (by omega)]; split <;> rfl)))
          rw [nI_succ] at r
          exact r
        | succ m2 ih2 =>
          intro t ht M3 f3 R3
          unfold lX3_sizeBySets_45
          refine ⟨vin hx6 (by decide), ?_⟩
          rw [cl (by omega), f3 5 (by decide), hP.2.2 x hx6]
          refine brf (nI_ge (by omega) (by omega)) ?_
          refine u3_extendSets (G := zG0 a) (c := zup (zC0 a) x t) hD hx6 (by rw [f3 3 (by decide)]; exact hP.1) (fun k hk => by rw [f3 4 (by decide)]; exact hP.2.1 k hk) R3 (fun M4 f4 R4 => ?_)
          intro v24 e24
          subst e24
          have r := ih2 (t + 1) (by omega) M4 (fr_t f3 (fr_w f4 (by decide) (by decide))) (pR_cong R4 (fun S _ => zRe_e (fun y hy => by
            unfold zup zgu
            by_cases q2 : y = x
            · subst q2; rw [if_neg (Nat.lt_irrefl _), if_pos rfl, if_pos rfl, if_neg (Nat.lt_irrefl _), if_pos rfl]
            · rw [if_neg q2, if_neg q2]
              show _ = if y < x then zC0 a y else if y = x then t else 0
              rw [if_neg q2])))
          rw [nI_succ] at r
          exact r
      exact ⟨_, key4 (zC0 a x) 0 (by omega) M2 f2 R2⟩
  have key1 : ∀ m S, S + m = 256 → ∀ M2, fr 6 12 M1 M2 → (∀ S2, S2 < S → M2 11 S2 = if S2 = 0 then 1 else 0) → lX3_sizeBySets_7 (fun M_7k => ∃ n37, lX3_sizeBySets_37 (fun M_37k => ∃ n76, lX3_sizeBySets_76 M_37k (fun x2_76k => Q x2_76k M_37k) n76 (0 : Int32) (0 : Int32)) n37 (0 : Int32) M_7k) (m + 1) (nI S) M2 := by
    intro m
    induction m with
    | zero =>
      intro S hSm M2 f2 h2
      unfold lX3_sizeBySets_7
      have e : S = 256 := by omega
      subst e
      refine brt (nI_le (b := 256) (Nat.le_refl _) (by omega)) ?_
      have R : pR M2 (fun S => S = 0) := fun S hS => ⟨fun z => by rw [h2 S hS, if_pos z], fun z => by rw [h2 S hS, if_neg z]⟩
      refine ⟨7, key2 6 0 rfl M2 f2 (pR_cong R (fun S _ => Iff.trans (zRe_e (fun y hy => ?_)) zRe_0))⟩
      unfold zup
      rw [if_neg (Nat.not_lt_zero _)]
      split <;> rfl
    | succ m ih =>
      intro S hSm M2 f2 h2
      unfold lX3_sizeBySets_7
      refine brf (nI_ge (b := 256) (by omega) (by omega)) ?_
      have go : ∀ b : Nat, (b = if S = 0 then 1 else 0) → ∀ M54 : sM, M54 = sw_ms M2 11 S (nI b) → lX3_sizeBySets_7 (fun M_7k => ∃ n37, lX3_sizeBySets_37 (fun M_37k => ∃ n76, lX3_sizeBySets_76 M_37k (fun x2_76k => Q x2_76k M_37k) n76 (0 : Int32) (0 : Int32)) n37 (0 : Int32) M_7k) (m + 1) (nI S + 1) M54 := fun b eb M54 e54 => by
        have r := ih (S + 1) (by omega) M54 (fr_t f2 (by rw [e54]; exact fr_s M2 _ _ (by decide))) (fun S2 hS2 => by
          rw [e54, ms_a]
          by_cases e : S2 = S
          · subst e
            rw [if_pos ⟨rfl, rfl⟩, eb]
            split <;> rfl
          · rw [if_neg (fun z => e z.2)]; exact h2 S2 (by omega))
        rw [nI_succ] at r
        exact r
      refine bri (nI_eq (b := 0) (by omega) (by decide)) (fun z => ⟨vin (by omega) (by decide), ?_⟩) (fun z => ⟨vin (by omega) (by decide), ?_⟩)
      · intro M54 e54 v e
        subst e
        rw [cl (by omega)] at e54
        exact go 1 (by rw [if_pos z]) M54 e54
      · intro M54 e54 v e
        subst e
        rw [cl (by omega)] at e54
        exact go 0 (by rw [if_neg z]) M54 e54
  exact ⟨257, key1 256 0 rfl M1 (fr_r _ _ _) (fun S2 h2 => absurd h2 (Nat.not_lt_zero _))⟩
