/-! The pure part: lines. -/
def zLt (l : Nat × (Nat → Nat)) (t : List Nat) : Prop := t.length = l.1 ∧ zlat t ∧ ∀ j, j < l.1 → t.getD j 0 = l.2 j
theorem zLt_ap {l : Nat × (Nat → Nat)} {t : List Nat} {c : Nat} (h : zLt l t) (hc : c < 128) : zLt (zap l c) (t ++ [c]) := by
  obtain ⟨h1, h2, h3⟩ := h
  refine ⟨by rw [List.length_append, h1]; rfl, h2.snoc hc, fun j hj => ?_⟩
  have hj : j < l.1 + 1 := hj
  show (t ++ [c]).getD j 0 = if j = l.1 then c else l.2 j
  rw [zget_app]
  by_cases e : j = l.1
  · rw [if_pos e, if_neg (by omega), show j - t.length = 0 by omega]; rfl
  · rw [if_neg e, if_pos (by omega)]; exact h3 j (by omega)
theorem zLt_an {l : Nat × (Nat → Nat)} {t : List Nat} {v : Nat} (h : zLt l t) (hv : v < 100) : zLt (zan l v) (t ++ zdec v) := by
  unfold zan zdec
  split
  · exact zLt_ap h (by omega)
  · rw [show t ++ [48 + v / 10, 48 + v % 10] = (t ++ [48 + v / 10]) ++ [48 + v % 10] by simp]
    exact zLt_ap (zLt_ap h (by omega)) (by omega)
theorem zLt_mn {l : Nat × (Nat → Nat)} {t : List Nat} {c v : Nat} (h : zLt l t) (hc : c < 128) (hv : v < 100) : zLt (zan (zap l c) v) (t ++ ([c] ++ zdec v)) := by
  rw [← List.append_assoc]
  exact zLt_an (zLt_ap h hc) hv
theorem zLt_nil {l : Nat × (Nat → Nat)} {t : List Nat} (h : zLt l t) : zLt l (t ++ []) := by rw [List.append_nil]; exact h
theorem zLt_x {l : Nat × (Nat → Nat)} {t : List Nat} (h : zLt l t) (hl : l.1 ≤ 64) : ztx t := ⟨by rw [h.1]; exact hl, h.2.1⟩
theorem zan_2 (l : Nat × (Nat → Nat)) (v : Nat) : (zan l v).1 ≤ l.1 + 2 := by
  unfold zan
  split
  · show l.1 + 1 ≤ _; omega
  · show l.1 + 1 + 1 ≤ _; omega
theorem zit_3 (l : Nat × (Nat → Nat)) (m v : Nat) : (zit l m v).1 ≤ l.1 + 3 := by
  unfold zit
  split
  · omega
  · have := zan_2 (zap l m) (v - 1)
    have e : (zap l m).1 = l.1 + 1 := rfl
    omega
theorem zx_md {c v : Nat} (hc : c < 128) (hv : v < 100) : ztx ([c] ++ zdec v) := by
  have h := zdec_len v
  refine ⟨?_, (zlat.snoc (t := []) zlat_nil hc).app (zdec_lat hv)⟩
  rw [List.length_append]
  show 1 + _ ≤ 64
  omega
theorem zx_0 : ztx [] := ⟨by decide, zlat_nil⟩
theorem zx_1 {c : Nat} (hc : c < 128) : ztx [c] := ⟨by show 1 ≤ 64; decide, zlat.snoc (t := []) zlat_nil hc⟩
theorem pL_ln45 {z : zG} (hG : GI z) {k : Nat} (hk : k < z.1 0) {K : List Nat → Prop} (hK : ∀ t, zLt (zwf z.1 k (z.1 1)) t → K t) : ∀ (n x fuel : Nat) (t : List Nat), n < fuel → x + n = z.1 1 → zLt (zwf z.1 k x) t → lL_lines_45 (nI k) z K fuel t (nI x) := by
  have hb := hG.1
  have h8 := rB_D hb
  have h6 := rB_E hb
  intro n
  induction n with
  | zero =>
    intro x fuel t hf hx ht
    obtain ⟨f, rfl⟩ : ∃ f, fuel = f + 1 := ⟨fuel - 1, by omega⟩
    rw [lL_lines_45.eq_2]
    have e : x = z.1 1 := by omega
    rw [e] at ht ⊢
    exact ⟨fun _ => hK t ht, fun w => absurd (nI_le (Nat.le_refl _) (by omega)) w⟩
  | succ n ih =>
    intro x fuel t hf hx ht
    obtain ⟨f, rfl⟩ : ∃ f, fuel = f + 1 := ⟨fuel - 1, by omega⟩
    have hx1 : x < z.1 1 := by omega
    have r := hb.2.2.2.1 x k (by omega) (by omega)
    have h21 := (zwf_21 hb (k := k) (by omega) (n := x) (by omega)).1
    have hz := zLt_x ht (by omega)
    have next : ∀ t' : List Nat, zLt (zws z.1 k x (zwf z.1 k x)) t' → ∀ v : Int32, v = nI x + (1 : Int32) → lL_lines_45 (nI k) z K f t' v := fun t' ht' v hv => by
      rw [hv, nI_1]
      exact ih (x + 1) f t' (by omega) (by omega) ht'
    rw [lL_lines_45.eq_2]
    refine ⟨fun w => absurd w (nI_ge (by omega) (by omega)), fun _ v119 h119 => ?_⟩
    rw [v_gradeBy hx1 hk h6 h8] at h119
    rw [e_isAssigned hx1 hk h6 h8]
    by_cases ca : zp z.1 x k 1 = 1
    · have b1 : zLt (zan (zap (zwf z.1 k x) 32) x) (t ++ ([32] ++ zdec x)) := zLt_mn ht (by decide) (by omega)
      have l1 : (zan (zap (zwf z.1 k x) 32) x).1 ≤ 24 := by
        have := zan_2 (zap (zwf z.1 k x) 32) x
        have e : (zap (zwf z.1 k x) 32).1 = (zwf z.1 k x).1 + 1 := rfl
        omega
      have x1 := zLt_x b1 (by omega)
      have d1 : ztx ([32] ++ zdec x) := zx_md (by decide) (by omega)
      unfold zws at next
      rw [if_pos ca] at next
      refine ⟨hz, rfl, fun w => absurd w (by show ¬ nI (if zp z.1 x k 1 = 1 then 1 else 0) = 0; rw [if_pos ca]; decide), fun _ => ⟨zx_1 (by decide), x, ⟨by omega, rfl, d1⟩, d1, x1, fun w => ?_, fun w => ?_⟩⟩
      · have e0 : zp z.1 x k 2 = 0 := by
          rcases Nat.eq_zero_or_pos (zp z.1 x k 2) with e | e
          · exact e
          · rw [if_neg (by omega)] at h119
            rw [h119] at w
            exact absurd w (nI_pos (by omega))
        have b2 : zLt (zit (zan (zap (zwf z.1 k x) 32) x) 58 (zp z.1 x k 2)) ((t ++ ([32] ++ zdec x)) ++ []) := by
          unfold zit
          rw [if_pos e0]
          exact zLt_nil b1
        have x2 : ztx ((t ++ ([32] ++ zdec x)) ++ []) := zLt_x (zLt_nil b1) (by omega)
        exact ⟨x2, x2, fun v hv => next _ b2 v hv⟩
      · have e0 : zp z.1 x k 2 ≠ 0 := fun e => by
          rw [if_pos e] at h119
          rw [h119] at w
          exact w (by decide)
        rw [if_neg e0] at h119
        have b2 : zLt (zan (zap (zan (zap (zwf z.1 k x) 32) x) 58) (zp z.1 x k 2 - 1)) ((t ++ ([32] ++ zdec x)) ++ ([58] ++ zdec (zp z.1 x k 2 - 1))) := zLt_mn b1 (by decide) (by omega)
        have l2 := zan_2 (zap (zan (zap (zwf z.1 k x) 32) x) 58) (zp z.1 x k 2 - 1)
        have e2 : (zap (zan (zap (zwf z.1 k x) 32) x) 58).1 = (zan (zap (zwf z.1 k x) 32) x).1 + 1 := rfl
        have x2 := zLt_x b2 (by omega)
        have d2 : ztx ([58] ++ zdec (zp z.1 x k 2 - 1)) := zx_md (by decide) (by omega)
        unfold zit at next
        rw [if_neg e0] at next
        exact ⟨zx_1 (by decide), zp z.1 x k 2 - 1, ⟨by omega, h119, d2⟩, d2, x2, x2, fun v hv => next _ b2 v hv⟩
    · have e0 : zp z.1 x k 2 = 0 := r.2.2.2.1 (by omega)
      rw [if_pos e0] at h119
      unfold zws at next
      rw [if_neg ca] at next
      have b1 := zLt_nil ht
      have b2 := zLt_nil b1
      refine ⟨hz, rfl, fun _ => ⟨zLt_x b1 (by omega), fun _ => ⟨zLt_x b2 (by omega), zLt_x b2 (by omega), fun v hv => next _ b2 v hv⟩, fun w => absurd (by rw [h119]; decide) w⟩, fun w => absurd (by show nI (if zp z.1 x k 1 = 1 then 1 else 0) = 0; rw [if_neg ca]; rfl) w⟩
/-- the line before entry e -/
def zwe (a : Nat → Nat) (k e : Nat) : Nat × (Nat → Nat) := if 0 < zd a k 4 ∧ zd a k 4 < e ∧ ze a (zd a k 4 - 1) 1 = 0 then zap (zwr1 a k) 42 else zwr1 a k
theorem zwr1_24 {a : Nat → Nat} (hb : rB a) {k : Nat} (hk : k < 8) : (zwr1 a k).1 ≤ 24 := by
  have h1 := (zwf_21 hb hk (rB_E hb)).1
  have h2 := zit_3 (zwf a k (a 1)) 61 (zres a k)
  show (zit (zwf a k (a 1)) 61 (zres a k)).1 ≤ 24
  omega
theorem zwe_25 {a : Nat → Nat} (hb : rB a) {k : Nat} (hk : k < 8) (e : Nat) : (zwe a k e).1 ≤ 25 := by
  have h1 := zwr1_24 hb hk
  unfold zwe
  split
  · show (zwr1 a k).1 + 1 ≤ 25; omega
  · omega
theorem zwe_d {a : Nat → Nat} (hb : rB a) {k : Nat} (hk : k < 8) : zwe a k (a 3 + 1) = zwd a k := by
  have r := hb.2.1 k hk
  unfold zwe zwd
  by_cases c : zhld a k
  · rw [if_pos c, if_pos ⟨c.1, by omega, c.2⟩]
  · rw [if_neg c, if_neg (fun t => c ⟨t.1, t.2.2⟩)]
theorem pL_ln213 {z : zG} (hG : GI z) {k : Nat} (hk : k < z.1 0) {K : List Nat → Prop} (hK : ∀ t, zLt (zwd z.1 k) t → K t) : ∀ (n e fuel : Nat) (t : List Nat), n < fuel → e + n = z.1 3 + 1 → 1 ≤ e → zLt (zwe z.1 k e) t → lL_lines_213 (nI k) z K fuel t (nI e) := by
  have hb := hG.1
  have h8 := rB_D hb
  have hn := rB_N hb
  have rk := hb.2.1 k (by omega)
  intro n
  induction n with
  | zero =>
    intro e fuel t hf he h1 ht
    obtain ⟨f, rfl⟩ : ∃ f, fuel = f + 1 := ⟨fuel - 1, by omega⟩
    rw [lL_lines_213.eq_2]
    have e9 : e = z.1 3 + 1 := by omega
    rw [e9, zwe_d hb (by omega)] at ht
    exact ⟨fun _ => hK t ht, fun w => absurd (nI_lt (by omega) (by omega)) w⟩
  | succ n ih =>
    intro e fuel t hf he h1 ht
    obtain ⟨f, rfl⟩ : ∃ f, fuel = f + 1 := ⟨fuel - 1, by omega⟩
    have re := hb.2.2.2.2.1 (e - 1) (by omega)
    have re2 := re.2.2.2 (by omega)
    have l25 := zwe_25 hb (k := k) (by omega) e
    have l25' := zwe_25 hb (k := k) (by omega) (e + 1)
    have next : ∀ t' : List Nat, zLt (zwe z.1 k (e + 1)) t' → ztx t' ∧ ztx t' ∧ ∀ v : Int32, v = nI e + (1 : Int32) → lL_lines_213 (nI k) z K f t' v := fun t' ht' => ⟨zLt_x ht' (by omega), zLt_x ht' (by omega), fun v hv => by
      rw [hv, nI_1]
      exact ih (e + 1) f t' (by omega) (by omega) (by omega) ht'⟩
    rw [lL_lines_213.eq_2]
    refine ⟨fun w => absurd w (nI_nlt (by omega) (by omega)), fun _ => ?_⟩
    rw [e_doorOf h1 (by omega) hn, e_isRevoked h1 (by omega) hn]
    refine ⟨zLt_x ht (by omega), rfl, fun w => ⟨rfl, fun w2 => ?_, fun w2 => ?_⟩, fun w => ?_⟩
    · have w : nI (ze z.1 (e - 1) 0) = nI k := w
      rw [nI_eq (by omega) (by omega)] at w
      rw [w] at re2
      have c : ze z.1 (e - 1) 1 = 0 := by
        by_cases c : ze z.1 (e - 1) 1 = 1
        · have w2 : nI (if ze z.1 (e - 1) 1 = 1 then 1 else 0) = 0 := w2
          rw [if_pos c] at w2; exact absurd w2 (by decide)
        · omega
      refine next (t ++ [42]) ?_
      have ee : zd z.1 k 4 = e := by omega
      unfold zwe at ht ⊢
      rw [ee] at ht ⊢
      rw [if_neg (by omega)] at ht
      rw [if_pos ⟨by omega, by omega, c⟩]
      exact zLt_ap ht (by decide)
    · have w : nI (ze z.1 (e - 1) 0) = nI k := w
      rw [nI_eq (by omega) (by omega)] at w
      rw [w] at re2
      have c : ze z.1 (e - 1) 1 = 1 := Classical.byContradiction fun c => by
        have w2 : ¬ nI (if ze z.1 (e - 1) 1 = 1 then 1 else 0) = 0 := w2
        rw [if_neg c] at w2; exact w2 rfl
      refine next (t ++ []) (zLt_nil ?_)
      have ee : zd z.1 k 4 = e := by omega
      unfold zwe at ht ⊢
      rw [ee] at ht ⊢
      rw [if_neg (by omega)] at ht
      rw [if_neg (by omega)]
      exact ht
    · have w : ¬ nI (ze z.1 (e - 1) 0) = nI k := w
      rw [nI_eq (by omega) (by omega)] at w
      refine next (t ++ []) (zLt_nil ?_)
      have ee : zd z.1 k 4 ≠ e := fun q => by
        have h := rk.2.2.2.2.2.2.2 (by omega)
        rw [q] at h
        exact w h
      have e9 : zwe z.1 k (e + 1) = zwe z.1 k e := by
        unfold zwe
        by_cases c : 0 < zd z.1 k 4 ∧ zd z.1 k 4 < e ∧ ze z.1 (zd z.1 k 4 - 1) 1 = 0
        · rw [if_pos c, if_pos ⟨c.1, by omega, c.2.2⟩]
        · rw [if_neg c, if_neg (fun q => c ⟨q.1, by omega, q.2.2⟩)]
      rw [e9]
      exact ht
theorem e_outputAt {z : zG} {l : Nat × (Nat → Nat)} {j : Nat} (h : j < l.1) (hl : l.1 ≤ 64) : zv (s_outputAt (zline z l) (nI j)) [(-11)] = nI (l.2 j) := by
  have e : s_outputAt (zline z l) (nI j) = (0, l.2 j, zline z l) := by
    unfold s_outputAt
    rw [if_pos (show zok (nI j) (zline z l).2.2.2.2.2.1 from zok_n (n := l.1) h (by omega)), nI_clamp (by omega)]
    rfl
  rw [e]; rfl
theorem pL_sp17 {z : zG} {l : Nat × (Nat → Nat)} {t : List Nat} (h : zLt l t) (hl : l.1 ≤ 64) {K : Int32 → Prop} (hK : K 1) : ∀ n j fuel : Nat, n < fuel → j + n = t.length → lL_spells_17 t (zline z l) K fuel 1 (nI j) := by
  have h1 := h.1
  intro n
  induction n with
  | zero =>
    intro j fuel hf hj
    obtain ⟨f, rfl⟩ : ∃ f, fuel = f + 1 := ⟨fuel - 1, by omega⟩
    rw [lL_spells_17.eq_2]
    exact ⟨fun _ => hK, fun w => absurd (nI_le (by omega) (by omega)) w⟩
  | succ n ih =>
    intro j fuel hf hj
    obtain ⟨f, rfl⟩ : ∃ f, fuel = f + 1 := ⟨fuel - 1, by omega⟩
    rw [lL_spells_17.eq_2]
    refine ⟨fun w => absurd w (nI_ge (by omega) (by omega)), fun _ => ⟨fun w => absurd w (by decide), fun _ => ⟨j, ⟨by omega, rfl⟩, fun _ v hv => ?_, fun w => absurd ?_ w⟩⟩⟩
    · subst hv
      show lL_spells_17 t (zline z l) K f 1 (nI j + 1)
      rw [nI_1]
      exact ih (j + 1) f (by omega) (by omega)
    · rw [e_outputAt (by omega) hl, h.2.2 j (by omega)]
theorem pL_spells {z : zG} {l : Nat × (Nat → Nat)} {t : List Nat} (h : zLt l t) (hl : l.1 ≤ 32) {Q : Int32 → Prop} (hQ : Q 1) : wL_spells (nI l.1) t (zline z l) Q := by
  have h1 := h.1
  refine ⟨fun _ => pL_sp17 h (by omega) ?_ t.length 0 65 (by omega) (by omega), fun w => absurd (by rw [h1]) w⟩
  refine ⟨fun w => absurd w (by decide), fun _ => ⟨fun _ => hQ, fun w => absurd ?_ w⟩⟩
  have e : s_outputAt (zline z l) (nI l.1) = (1, 0, zline z l) := by
    unfold s_outputAt
    rw [if_neg (show ¬ zok (nI l.1) (zline z l).2.2.2.2.2.1 from zok_b (n := l.1) (by omega))]
  rw [e]; rfl
theorem pL_ln2 {a : Nat → Nat} {Q : Int32 → zG → Prop} {K : zG → Prop} (hK : ∀ z, GI z → z.1 = a → z.2.2.2.1.1 = 0 → K z) : ∀ (n k fuel : Nat) (z : zG), n < fuel → k + n = a 0 → GI z → z.1 = a → z.2.2.2.1.1 = 0 → lL_lines_2 Q K fuel (nI k) z := by
  intro n
  induction n with
  | zero =>
    intro k fuel z hf hk hG ha ht
    obtain ⟨f, rfl⟩ : ∃ f, fuel = f + 1 := ⟨fuel - 1, by omega⟩
    rw [lL_lines_2.eq_2]
    have h8 := rB_D hG.1
    rw [← ha] at hk
    exact ⟨fun _ => hK z hG ha ht, fun w => absurd (nI_le (by omega) (by omega)) w⟩
  | succ n ih =>
    intro k fuel z hf hk hG ha ht
    obtain ⟨f, rfl⟩ : ∃ f, fuel = f + 1 := ⟨fuel - 1, by omega⟩
    have hb := hG.1
    have h8 := rB_D hb
    have h6 := rB_E hb
    have hn := rB_N hb
    have hk9 := hk
    rw [← ha] at hk
    have hk0 : k < z.1 0 := by omega
    have rk := hb.2.1 k (by omega)
    have rr := zres_le hb (k := k) (by omega)
    have ew : s_writeDoor z (nI k) = (0, (zwd z.1 k).1, zline z (zwd z.1 k)) := by
      unfold s_writeDoor; rw [if_pos (zok_n hk0 (by omega)), nI_clamp (by omega)]
    have hGw : GI (zline z (zwd z.1 k)) := by
      have h := s_writeDoor_G hG (nI k)
      rw [ew] at h
      exact h
    have lw := (zwd_k hb (show k < 8 by omega)).1
    have hN := ih (k + 1) f (zline z (zwd z.1 k)) (by omega) (by omega) hGw ha ht
    have j211 : ∀ t : List Nat, zLt (zwr1 z.1 k) t → jL_lines_211 (nI k) z Q (fun x1_2 z_2 => lL_lines_2 Q K f x1_2 z_2) t := fun t ht => by
      refine pL_ln213 hG hk0 (fun t' ht' zp51 h51 => ?_) (z.1 3) 1 9 t (by omega) (by omega) (Nat.le_refl _) ?_
      · rw [ew] at h51
        subst h51
        rw [ew]
        refine ⟨zLt_x ht' (by omega), pL_spells ht' (by omega) ⟨fun w => absurd w (by decide), fun _ v54 h54 => ?_⟩⟩
        subst h54
        show lL_lines_2 Q K f (nI k + 1) _
        rw [nI_1]
        exact hN
      · unfold zwe
        rw [if_neg (by omega)]
        exact ht
    rw [lL_lines_2.eq_2]
    refine ⟨fun w => absurd w (nI_ge (by omega) (by omega)), fun _ => ?_⟩
    rw [e_frameOfDoor hk0 h8, e_topic hk0 h8]
    have c0 : zLt (zap (0, fun _ => 0) (zd z.1 k 0)) ([] ++ [zd z.1 k 0]) := zLt_ap (l := (0, fun _ => 0)) ⟨rfl, zlat_nil, fun j hj => absurd hj (Nat.not_lt_zero _)⟩ (by omega)
    have c1 : zLt (zw0 z.1 k) (([] ++ [zd z.1 k 0]) ++ zdec (zd z.1 k 1)) := zLt_an c0 (by omega)
    have l1 := (zw0_k hb (show k < 8 by omega)).1
    have x1 := zLt_x c1 (by omega)
    refine ⟨zx_0, rfl, zd z.1 k 0, ⟨by omega, rfl, zx_1 (by omega)⟩, rfl, zd z.1 k 1, ⟨by omega, rfl, x1⟩, x1, ?_⟩
    refine pL_ln45 hG hk0 (fun t ht => ?_) (z.1 1) 0 7 _ (by omega) (by omega) c1
    have lf := (zwf_21 hb (show k < 8 by omega) h6).1
    refine ⟨zLt_x ht (by omega), pL_median hG hk0 ?_⟩
    by_cases c : zres z.1 k = 0
    · rw [if_pos c]
      have b1 : zLt (zwr1 z.1 k) (t ++ []) := by
        show zLt (zit (zwf z.1 k (z.1 1)) 61 (zres z.1 k)) (t ++ [])
        unfold zit
        rw [if_pos c]
        exact zLt_nil ht
      have x2 : ztx (t ++ []) := zLt_x (zLt_nil ht) (by omega)
      exact ⟨fun _ => ⟨x2, x2, j211 _ b1⟩, fun w => absurd (by decide) w⟩
    · rw [if_neg c]
      have b1 : zLt (zwr1 z.1 k) (t ++ ([61] ++ zdec (zres z.1 k - 1))) := by
        show zLt (zit (zwf z.1 k (z.1 1)) 61 (zres z.1 k)) (t ++ ([61] ++ zdec (zres z.1 k - 1)))
        unfold zit
        rw [if_neg c]
        exact zLt_mn ht (by decide) (by omega)
      have l2 := zwr1_24 hb (show k < 8 by omega)
      have x2 := zLt_x b1 (by omega)
      have d2 : ztx ([61] ++ zdec (zres z.1 k - 1)) := zx_md (by decide) (by omega)
      refine ⟨fun w => absurd w (nI_pos (by omega)), fun _ => ⟨zx_1 (by decide), pL_median hG hk0 ?_⟩⟩
      rw [if_neg c]
      exact ⟨zres z.1 k - 1, ⟨by omega, rfl, d2⟩, d2, x2, x2, j211 _ b1⟩
theorem pL_lines {z : zG} (hG : GI z) (ht : z.2.2.2.1.1 = 0) {Q : Int32 → zG → Prop} (h : ∀ z', GI z' → z'.2.2.2.1.1 = 0 → Q 1 z') : wL_lines z Q := by
  have h8 := rB_D hG.1
  refine pL_ln2 (a := z.1) (fun z2 hG2 ha2 ht2 zp3 h3 => ?_) (z.1 0) 0 9 z (by omega) (by omega) hG rfl ht
  have d8 := rB_D hG2.1
  have d6 := rB_E hG2.1
  have w1 : s_writeDoor z2 (nI (z2.1 0)) = (1, 0, z2) := by unfold s_writeDoor; rw [if_neg (zok_b (by omega))]
  have w2 : s_writeDoor z2 (-1 : Int32) = (1, 0, z2) := by unfold s_writeDoor; rw [if_neg (zok_m _)]
  have w3 : s_writeExaminer z2 (nI (z2.1 1)) = (1, 0, z2) := by unfold s_writeExaminer; rw [if_neg (zok_b (by omega))]
  rw [w1] at h3 ⊢
  have h3 : zp3 = z2 := h3
  subst h3
  refine ⟨fun _ zp5 h5 => ?_, fun w => absurd rfl w⟩
  rw [w2] at h5 ⊢
  have h5 : zp5 = zp3 := h5
  subst h5
  refine ⟨fun _ zp7 h7 => ?_, fun w => absurd rfl w⟩
  rw [w3] at h7 ⊢
  have h7 : zp7 = zp5 := h7
  subst h7
  exact ⟨fun _ => h _ hG2 ht2, fun w => absurd rfl w⟩
