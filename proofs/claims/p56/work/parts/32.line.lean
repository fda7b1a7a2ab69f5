/-! The output line. -/
def zap (l : Nat × (Nat → Nat)) (c : Nat) : Nat × (Nat → Nat) := (l.1 + 1, fun j => if j = l.1 then c else l.2 j)
def zan (l : Nat × (Nat → Nat)) (v : Nat) : Nat × (Nat → Nat) := if v < 10 then zap l (48 + v) else zap (zap l (48 + v / 10)) (48 + v % 10)
def zlk (b : Nat) (l : Nat × (Nat → Nat)) : Prop := l.1 ≤ b ∧ ∀ j, j < l.1 → l.2 j < 65536
theorem zlk_ap {b : Nat} {l : Nat × (Nat → Nat)} (h : zlk b l) {c : Nat} (hc : c < 65536) : zlk (b + 1) (zap l c) := by
  refine ⟨Nat.succ_le_succ h.1, fun j hj => ?_⟩
  show (if j = l.1 then c else l.2 j) < 65536
  have hj : j < l.1 + 1 := hj
  split
  · exact hc
  · exact h.2 j (by omega)
theorem zlk_w {b b2 : Nat} {l : Nat × (Nat → Nat)} (h : zlk b l) (h2 : b ≤ b2) : zlk b2 l := ⟨Nat.le_trans h.1 h2, h.2⟩
theorem zlk_an {b : Nat} {l : Nat × (Nat → Nat)} (h : zlk b l) {v : Nat} (hv : v < 100) : zlk (b + 2) (zan l v) := by
  unfold zan
  split
  · exact zlk_w (zlk_ap h (by omega)) (by omega)
  · exact zlk_ap (zlk_ap h (by omega)) (by omega)
def cL (M : sM) (l : Nat × (Nat → Nat)) : Prop := M 31 1 = nI l.1 ∧ ∀ j, j < l.1 → M 32 j = nI (l.2 j)
def mL (M : sM) (l : Nat × (Nat → Nat)) : Prop := M 33 21 = nI l.1 ∧ ∀ j, j < l.1 → M 45 j = nI (l.2 j)
theorem u1_put {M : sM} {l : Nat × (Nat → Nat)} (hl : cL M l) {b : Nat} (hb : zlk b l) (h32 : b < 32) {c : Nat} (hc : c < 65536) {Q : sM → Prop} (h : ∀ M', fr 31 33 M M' → cL M' (zap l c) → zlk (b + 1) (zap l c) → Q M') : wX1_put (nI c) M Q := by
  have h1 := hb.1
  unfold wX1_put
  rw [hl.1, cl (by omega), nar_c hc]
  refine brf (nI_ge (b := 32) (by omega) (by decide)) ⟨vin (by omega) (by decide), ?_⟩
  intro M3 e3 M4 e4
  have q : M3 31 1 = nI l.1 := by rw [e3, sw_ms_n _ _ _ (by decide)]; exact hl.1
  rw [q, ia1] at e4
  refine h M4 (fr_t (e3 ▸ fr_s M _ _ (by decide)) (e4 ▸ fr_s M3 _ _ (by decide))) ⟨?_, fun j hj => ?_⟩ (zlk_ap hb hc)
  · rw [e4, ms_e]; rfl
  · rw [e4, sw_ms_n _ _ _ (by decide), e3]
    show sw_ms M 32 l.1 (nI c) 32 j = nI (if j = l.1 then c else l.2 j)
    have hj : j < l.1 + 1 := hj
    by_cases w : j = l.1
    · subst w; rw [ms_e, if_pos rfl]
    · rw [ms_j _ _ _ w, if_neg w]; exact hl.2 j (by omega)
theorem dig (v : Nat) (hv : v < 100) : (((48 : Int32) + (nI v - nI v / (10 : Int32) * (10 : Int32))).toUInt32 % 65536).toInt32 = nI (48 + v % 10) := by
  rw [show nI v - nI v / (10 : Int32) * (10 : Int32) = nI (v % 10) from pk_rem (d := 10) (by omega) (by decide) (by decide), show (48 : Int32) = nI 48 from rfl, nI_add, chr_w (by omega)]
theorem dig2 (v : Nat) (hv : v < 100) : (((48 : Int32) + (nI v / (10 : Int32))).toUInt32 % 65536).toInt32 = nI (48 + v / 10) := by
  rw [show nI v / (10 : Int32) = nI (v / 10) from pk_div (d := 10) (by omega) (by decide) (by decide), show (48 : Int32) = nI 48 from rfl, nI_add, chr_w (by omega)]
theorem u1_putNumber {M : sM} {l : Nat × (Nat → Nat)} (hl : cL M l) {b : Nat} (hb : zlk b l) (h32 : b + 1 < 32) {v : Nat} (hv : v < 100) {Q : sM → Prop} (h : ∀ M', fr 31 33 M M' → cL M' (zan l v) → zlk (b + 2) (zan l v) → Q M') : wX1_putNumber (nI v) M Q := by
  have z2 := zlk_an hb hv
  unfold wX1_putNumber
  unfold zan at h z2
  refine bri (nI_ltI (b := 10) (by omega) (by decide)) (fun z => ?_) (fun z => ?_)
  · rw [if_pos z] at h z2
    unfold jX1_putNumber_18
    intro v1 e1
    rw [dig v hv, Nat.mod_eq_of_lt z] at e1
    subst e1
    exact u1_put hl hb (by omega) (by omega) (fun M' f c _ => h M' f c z2)
  · rw [if_neg z] at h z2
    intro v4 e4
    rw [dig2 v hv] at e4
    subst e4
    refine u1_put hl hb (by omega) (by omega) (fun M' f c w => ?_)
    unfold jX1_putNumber_18
    intro v1 e1
    rw [dig v hv] at e1
    subst e1
    exact u1_put c w (by omega) (by omega) (fun M2 f2 c2 _ => h M2 (fr_t f f2) c2 z2)
/-- a mark and a number, if there is one -/
def zit (l : Nat × (Nat → Nat)) (m v : Nat) : Nat × (Nat → Nat) := if v = 0 then l else zan (zap l m) (v - 1)
theorem zlk_it {b : Nat} {l : Nat × (Nat → Nat)} (h : zlk b l) {m v : Nat} (hm : m < 65536) (hv : v < 100) : zlk (b + 3) (zit l m v) := by
  unfold zit
  split
  · exact zlk_w h (by omega)
  · exact zlk_an (zlk_ap h hm) (by omega)
theorem u1_putIfThere {M : sM} {l : Nat × (Nat → Nat)} (hl : cL M l) {b : Nat} (hb : zlk b l) (h32 : b + 2 < 32) {m v : Nat} (hm : m < 65536) (hv : v < 100) {Q : sM → Prop} (h : ∀ M', fr 31 33 M M' → cL M' (zit l m v) → zlk (b + 3) (zit l m v) → Q M') : wX1_putIfThere (nI m) (nP v) M Q := by
  have z3 := zlk_it hb hm hv
  unfold wX1_putIfThere
  unfold zit at h z3
  refine bri (nP_n1 (by omega)) (fun z => ?_) (fun z => ?_)
  · rw [if_pos z] at h z3
    exact h M (fr_r _ _ _) hl z3
  · rw [if_neg z] at h z3
    rw [nP_of (by omega)]
    exact u1_put hl hb (by omega) hm (fun M' f c w => u1_putNumber c w (by omega) (by omega) (fun M2 f2 c2 _ => h M2 (fr_t f f2) c2 z3))
/-- nothing of the reference but its line is touched -/
def fL (M M' : sM) : Prop := (∀ k, k ≠ 33 → k ≠ 45 → M' k = M k) ∧ ∀ j, j ≠ 21 → M' 33 j = M 33 j
theorem fL_r (M : sM) : fL M M := ⟨fun _ _ _ => rfl, fun _ _ => rfl⟩
theorem fL_t {M M1 M2 : sM} (h : fL M M1) (h2 : fL M1 M2) : fL M M2 := ⟨fun k a b => (h2.1 k a b).trans (h.1 k a b), fun j hj => (h2.2 j hj).trans (h.2 j hj)⟩
theorem dg7 (v : Nat) (hv : v < 100) : (48 : Int32) + (nI v - nI v / (10 : Int32) * (10 : Int32)) = nI (48 + v % 10) := by
  rw [show nI v - nI v / (10 : Int32) * (10 : Int32) = nI (v % 10) from pk_rem (d := 10) (by omega) (by decide) (by decide), show (48 : Int32) = nI 48 from rfl, nI_add]
/-! what is written of a door, of an examiner -/
def zw0 (a : Nat → Nat) (k : Nat) : Nat × (Nat → Nat) := zan (zap (0, fun _ => 0) (zd a k 0)) (zd a k 1)
def zws (a : Nat → Nat) (k x : Nat) (l : Nat × (Nat → Nat)) : Nat × (Nat → Nat) := if zp a x k 1 = 1 then zit (zan (zap l 32) x) 58 (zp a x k 2) else l
def zwf (a : Nat → Nat) (k : Nat) : Nat → Nat × (Nat → Nat)
  | 0 => zw0 a k
  | n + 1 => zws a k n (zwf a k n)
def zwr1 (a : Nat → Nat) (k : Nat) : Nat × (Nat → Nat) := zit (zwf a k (a 1)) 61 (zres a k)
def zwd (a : Nat → Nat) (k : Nat) : Nat × (Nat → Nat) := if zhld a k then zap (zwr1 a k) 42 else zwr1 a k
section ZW
variable {a : Nat → Nat}
theorem zw0_k (hb : rB a) {k : Nat} (hk : k < 8) : zlk 3 (zw0 a k) := by
  have b := hb.2.1 k hk
  exact zlk_an (zlk_ap ⟨Nat.zero_le _, fun j hj => absurd hj (Nat.not_lt_zero j)⟩ (by omega)) (by omega)
theorem zws_k (hb : rB a) {x k : Nat} (hx : x < 6) (hk : k < 8) {b : Nat} {l : Nat × (Nat → Nat)} (h : zlk b l) : zlk (b + 6 * zp a x k 1) (zws a k x l) := by
  have q := hb.2.2.2.1 x k hx hk
  unfold zws
  split
  · rename_i z
    rw [z]
    exact zlk_it (zlk_an (zlk_ap h (by decide)) (by omega)) (by decide) (by omega)
  · exact zlk_w h (by omega)
theorem zwf_k (hb : rB a) {k : Nat} (hk : k < 8) : ∀ n, n ≤ 6 → zlk (3 + 6 * zs (fun x => zp a x k 1) n) (zwf a k n)
  | 0, _ => zw0_k hb hk
  | n + 1, h => by
    have ih := zws_k hb (x := n) (by omega) hk (zwf_k hb hk n (by omega))
    rw [zs_succ]
    exact zlk_w ih (by omega)
theorem zwf_21 (hb : rB a) {k : Nat} (hk : k < 8) {n : Nat} (hn : n ≤ 6) : zlk 21 (zwf a k n) := by
  have h1 := zwf_k hb hk n hn
  have h2 := zs_mono (fun x => zp a x k 1) hn
  have h3 := zcnt_le hb hk
  unfold zcnt at h3
  exact zlk_w h1 (by omega)
theorem zwd_k (hb : rB a) {k : Nat} (hk : k < 8) : zlk 25 (zwd a k) := by
  have h1 := zlk_it (zwf_21 hb hk hb.1.2.1) (m := 61) (v := zres a k) (by decide) (by have := zres_le hb hk; omega)
  unfold zwd
  split
  · exact zlk_ap h1 (by decide)
  · exact zlk_w h1 (by decide)
theorem rS_31 {M M' : sM} {i : Nat} (h : rS M i a) (f : fr 31 33 M M') : rS M' i a := rS_fr h (fun b _ => f _ (by unfold sw_st; omega))
theorem u1_showDoor {M : sM} {i : Nat} (hS : rS M i a) (hb : rB a) {k : Nat} (hk : k < 8) {Q : sM → Prop} (h : ∀ M', fr 31 33 M M' → cL M' (zwd a k) → Q M') : wX1_showDoor i (nI k) M Q := by
  have hE := rB_E hb
  have bk := hb.2.1 k hk
  unfold wX1_showDoor
  intro M1 e1
  have f1 : fr 31 33 M M1 := e1 ▸ fr_s M _ _ (by decide)
  have c1 : cL M1 (0, fun _ => 0) := ⟨by rw [e1, ms_e]; rfl, fun j hj => absurd hj (Nat.not_lt_zero j)⟩
  have l1 : zlk 0 ((0, fun _ => 0) : Nat × (Nat → Nat)) := ⟨Nat.le_refl _, fun j hj => absurd hj (Nat.not_lt_zero j)⟩
  refine ⟨vin hk (by decide), ?_⟩
  rw [cl (by omega), rS_df (rS_31 hS f1) hk]
  refine u1_put c1 l1 (by decide) (by omega) (fun M2 f2 c2 l2 => ?_)
  refine ⟨vin hk (by decide), ?_⟩
  have f12 := fr_t f1 f2
  rw [rS_dt (rS_31 hS f12) hk]
  refine u1_putNumber c2 l2 (by decide) (by omega) (fun M3 f3 c3 _ => ?_)
  have f13 := fr_t f12 f3
  have key : ∀ (K : sM → Prop), (∀ M', fr 31 33 M M' → cL M' (zwf a k (a 1)) → K M') → ∀ (m x : Nat) (M' : sM), x + m = a 1 → fr 31 33 M M' → cL M' (zwf a k x) → lX1_showDoor_27 i (nI k) K (m + 1) (nI x) M' := by
    intro K hK m
    induction m with
    | zero =>
      intro x M' hx f c
      unfold lX1_showDoor_27
      rw [rS_E (rS_31 hS f)]
      have e : x = a 1 := by omega
      subst e
      exact brt (nI_le (Nat.le_refl _) (by omega)) (hK M' f c)
    | succ m ih =>
      intro x M' hx f c
      unfold lX1_showDoor_27
      rw [rS_E (rS_31 hS f)]
      have hx6 : x < 6 := by omega
      have q := hb.2.2.2.1 x k hx6 hk
      have lx := zwf_21 hb hk (n := x) (by omega)
      have ly := zwf_k hb hk x (by omega)
      have h2 := zs_mono (fun x => zp a x k 1) (m := x + 1) (n := 6) (by omega)
      have h3 := zcnt_le hb hk
      unfold zcnt at h3
      rw [zs_succ] at h2
      refine brf (nI_ge (by omega) (by omega)) (u5_assigned (rS_31 hS f) hb hx6 hk (fun z => br1 ?_) (fun z => br0 ?_))
      · have lz : zlk 15 (zwf a k x) := zlk_w ly (by omega)
        refine u1_put (c := 32) c lz (by decide) (by decide) (fun A1 g1 d1 m1 => u1_putNumber d1 m1 (by decide) (by omega) (fun A2 g2 d2 m2 => ⟨vin hx6 (by decide), vin hk (by decide), ?_⟩))
        have ff := fr_t f (fr_t g1 g2)
        rw [cl (n := x) (by omega), cl (n := k) (by omega), rS_g (rS_31 hS ff) hx6 hk]
        refine u1_putIfThere (m := 58) d2 m2 (by decide) (by decide) (by omega) (fun A3 g3 d3 _ => ?_)
        intro v ev
        rw [ia1] at ev
        subst ev
        refine ih (x + 1) A3 (by omega) (fr_t ff g3) ?_
        show cL A3 (zws a k x (zwf a k x))
        unfold zws
        rw [if_pos z]
        exact d3
      · intro v ev
        rw [ia1] at ev
        subst ev
        refine ih (x + 1) M' (by omega) f ?_
        show cL M' (zws a k x (zwf a k x))
        unfold zws
        rw [if_neg (by omega)]
        exact c
  refine ⟨a 1 + 1, key _ (fun M4 f4 c4 => ?_) (a 1) 0 M3 (by omega) f13 c3⟩
  have br := zres_le hb hk
  refine u5_median (rS_31 hS f4) hb hk (u1_putIfThere (m := 61) c4 (zwf_21 hb hk hE) (by decide) (by decide) (by omega) (fun M5 f5 c5 l5 => ?_))
  have ff := fr_t f4 f5
  unfold zwd at h
  refine u5_holdsDegree (rS_31 hS ff) hb hk (fun z => br1 ?_) (fun z => br0 ?_)
  · rw [if_pos z] at h
    exact u1_put (c := 42) c5 l5 (by decide) (by decide) (fun M6 f6 c6 _ => h M6 (fr_t ff f6) c6)
  · rw [if_neg z] at h
    exact h M5 ff c5
def zx0 (a : Nat → Nat) (x : Nat) : Nat × (Nat → Nat) := zap (zan (zap (zan (zap (0, fun _ => 0) (zx a x 0)) (zload a x)) 47) (zx a x 2)) 35
def zxf (a : Nat → Nat) (x : Nat) : Nat → Nat × (Nat → Nat)
  | 0 => zx0 a x
  | n + 1 => if zx a x 1 / 2 ^ n % 2 = 1 then zan (zxf a x n) n else zxf a x n
def zwx (a : Nat → Nat) (x : Nat) : Nat × (Nat → Nat) := zan (zap (zxf a x 6) 43) (zx a x 3)
theorem zx0_k (hb : rB a) {x : Nat} (hx : x < 6) : zlk 7 (zx0 a x) := by
  have b := hb.2.2.1 x hx
  have b2 := zload_le hb hx
  exact zlk_ap (zlk_an (zlk_ap (zlk_an (zlk_ap ⟨Nat.le_refl 0, fun j hj => absurd hj (Nat.not_lt_zero j)⟩ (by omega)) (by omega)) (by decide)) (by omega)) (by decide)
theorem zxf_k (hb : rB a) {x : Nat} (hx : x < 6) : ∀ n, n ≤ 6 → zlk (7 + 2 * n) (zxf a x n)
  | 0, _ => zx0_k hb hx
  | n + 1, h => by
    have ih := zxf_k hb hx n (by omega)
    unfold zxf
    split
    · exact zlk_an ih (by omega)
    · exact zlk_w ih (by omega)
theorem zwx_k (hb : rB a) {x : Nat} (hx : x < 6) : zlk 22 (zwx a x) := by
  have b := hb.2.2.1 x hx
  exact zlk_an (zlk_ap (zxf_k hb hx 6 (Nat.le_refl _)) (by decide)) (by omega)
theorem u1_showExaminer {M : sM} {i : Nat} (hS : rS M i a) (hb : rB a) {x : Nat} (hx : x < 6) {Q : sM → Prop} (h : ∀ M', fr 31 33 M M' → cL M' (zwx a x) → Q M') : wX1_showExaminer i (nI x) M Q := by
  have b := hb.2.2.1 x hx
  have b2 := zload_le hb hx
  unfold wX1_showExaminer
  intro M1 e1
  have f1 : fr 31 33 M M1 := e1 ▸ fr_s M _ _ (by decide)
  have c1 : cL M1 (0, fun _ => 0) := ⟨by rw [e1, ms_e]; rfl, fun j hj => absurd hj (Nat.not_lt_zero j)⟩
  have l1 : zlk 0 ((0, fun _ => 0) : Nat × (Nat → Nat)) := ⟨Nat.le_refl _, fun j hj => absurd hj (Nat.not_lt_zero j)⟩
  refine ⟨vin hx (by decide), ?_⟩
  rw [cl (by omega), rS_xf (rS_31 hS f1) hx]
  refine u1_put c1 l1 (by decide) (by omega) (fun M2 f2 c2 l2 => ?_)
  have g2 := fr_t f1 f2
  refine u5_loadOf (rS_31 hS g2) hb hx (u1_putNumber c2 l2 (by decide) (by omega) (fun M3 f3 c3 l3 => u1_put (c := 47) c3 l3 (by decide) (by decide) (fun M4 f4 c4 l4 => ⟨vin hx (by decide), ?_⟩)))
  have g4 := fr_t g2 (fr_t f3 f4)
  rw [rS_xc (rS_31 hS g4) hx]
  refine u1_putNumber c4 l4 (by decide) (by omega) (fun M5 f5 c5 l5 => u1_put (c := 35) c5 l5 (by decide) (by decide) (fun M6 f6 c6 _ => ?_))
  have g6 := fr_t g4 (fr_t f5 f6)
  have key : ∀ (K : sM → Prop), (∀ M', fr 31 33 M M' → cL M' (zxf a x 6) → K M') → ∀ (m t : Nat) (M' : sM), t + m = 6 → fr 31 33 M M' → cL M' (zxf a x t) → lX1_showExaminer_48 i (nI x) K (m + 1) (nI t) M' := by
    intro K hK m
    induction m with
    | zero =>
      intro t M' ht f c
      unfold lX1_showExaminer_48
      have e : t = 6 := by omega
      subst e
      exact brt (nI_le (Nat.le_refl _) (by omega)) (hK M' f c)
    | succ m ih =>
      intro t M' ht f c
      unfold lX1_showExaminer_48
      have lt := zxf_k hb hx t (by omega)
      refine brf (nI_ge (b := 6) (by omega) (by omega)) ⟨vin hx (by decide), ?_⟩
      rw [cl (by omega), rS_xs (rS_31 hS f) hx]
      refine u6_contains (by omega) (by omega) (fun z => br1 ?_) (fun z => br0 ?_)
      · refine u1_putNumber c lt (by omega) (by omega) (fun A1 g1 d1 _ => ?_)
        intro v ev
        rw [ia1] at ev
        subst ev
        refine ih (t + 1) A1 (by omega) (fr_t f g1) ?_
        unfold zxf
        rw [if_pos z]
        exact d1
      · intro v ev
        rw [ia1] at ev
        subst ev
        refine ih (t + 1) M' (by omega) f ?_
        unfold zxf
        rw [if_neg z]
        exact c
  refine ⟨7, key _ (fun M7 f7 c7 => ?_) 6 0 M6 (by omega) g6 c6⟩
  refine u1_put (c := 43) c7 (zxf_k hb hx 6 (Nat.le_refl _)) (by decide) (by decide) (fun M8 f8 c8 l8 => ⟨vin hx (by decide), ?_⟩)
  have g8 := fr_t f7 f8
  rw [rS_xl (rS_31 hS g8) hx]
  exact u1_putNumber c8 l8 (by decide) (by omega) (fun M9 f9 c9 _ => h M9 (fr_t g8 f9) c9)
end ZW
/-- the line is written anew -/
def zline (g : zG) (l : Nat × (Nat → Nat)) : zG := (g.1, g.2.1, g.2.2.1, g.2.2.2.1, g.2.2.2.2.1, l)
theorem GI_line {g : zG} (h : GI g) {b : Nat} {l : Nat × (Nat → Nat)} (hl : zlk b l) (hb : b ≤ 32) : GI (zline g l) := ⟨h.1, h.2.1, h.2.2.1, h.2.2.2.1, h.2.2.2.2.1, Nat.le_trans hl.1 hb, hl.2⟩
theorem CI_line {M M' : sM} {g : zG} (h : CI M g) (f : fr 31 33 M M') {l : Nat × (Nat → Nat)} (hl : cL M' l) : CI M' (zline g l) := by
  obtain ⟨h1, ⟨h2, s, h3, h4, h5⟩, h6, h7, h8, h9⟩ := h
  refine ⟨rS_31 h1 f, ⟨?_, s, h3, ?_, fun j hj => rS_31 (h5 j hj) f⟩, ⟨?_, fun z => rS_31 (h6.2 z) f⟩, ?_, ?_, hl⟩
  · rw [f 1 (by decide)]; exact h2
  · rw [f 1 (by decide)]; exact h4
  · rw [f 0 (by decide)]; exact h6.1
  · rw [f 14 (by decide), f 15 (by decide)]; exact h7
  · rw [f 0 (by decide)]; exact h8
theorem fr_C {M M' : sM} (f : fr 31 33 M M') : fC M M' := fun k a b => f k (by omega)
theorem kC_w2 {M M' : sM} {v : Nat} {g' : zG} {Q : Int32 → sM → Prop} {X : Nat → sM → Prop} (h : kC M (0, v, g') Q X) (_ : v < 2 ^ 31) (f : fC M M') (hC : CI M' g') : Q (nI v) M' := (h M' f hC).1 rfl
theorem kC_w {M M' : sM} {s : Nat × Nat × zG} {Q : Int32 → sM → Prop} {X : Nat → sM → Prop} (h : kC M s Q X) (hs : s.1 = 0) (_ : s.2.1 < 2 ^ 31) (f : fC M M') (hC : CI M' s.2.2) : Q (nI s.2.1) M' := (h M' f hC).1 hs
def s_writeDoor (g : zG) (x : Int32) : Nat × Nat × zG := if zok x (g.1 0) then (0, (zwd g.1 x.toNatClampNeg).1, zline g (zwd g.1 x.toNatClampNeg)) else (1, 0, g)
theorem s_writeDoor_G {g : zG} (h : GI g) (x : Int32) : GI (s_writeDoor g x).2.2 := by
  have hD := rB_D h.1
  have hE := rB_E h.1
  unfold s_writeDoor
  split
  · rename_i z
    obtain ⟨k, hk, rfl⟩ := zok_t z (by omega)
    rw [cl (by omega)]
    exact GI_line h (zwd_k h.1 (by omega)) (by decide)
  · exact h
theorem L_writeDoor {M : sM} {g : zG} (hC : CI M g) (hG : GI g) (x : Int32) {Q : Int32 → sM → Prop} {X : Nat → sM → Prop} (h : kC M (s_writeDoor g x) Q X) : wL_writeDoor x M Q X := by
  have hD := rB_D hG.1
  have hE := rB_E hG.1
  unfold wL_writeDoor wX6_writeDoor wX6_requireDoor
  by_cases hv : zok x (g.1 0)
  · obtain ⟨k, hk, rfl⟩ := zok_t hv (by omega)
    rw [show s_writeDoor g (nI k) = (0, (zwd g.1 k).1, zline g (zwd g.1 k)) by unfold s_writeDoor; rw [if_pos hv, cl (by omega)]] at h
    refine u5_hasDoor_t hC.1 hG.1 hk (br1 (u1_showDoor hC.1 hG.1 (by omega) (fun M' f c => ?_)))
    have c1 := c.1
    rw [c1]
    have lk := (zwd_k hG.1 (show k < 8 by omega)).1
    generalize zwd g.1 k = l at h c lk ⊢
    exact kC_w2 h (show l.1 < _ by omega) (fr_C f) (CI_line hC f c)
  · rw [show s_writeDoor g x = (1, 0, g) from if_neg hv] at h
    exact u5_hasDoor_f hC.1 hG.1 (zok_f hv (by omega)) (br0 (brt rfl (kC_no h (by decide) hC)))
def s_writeExaminer (g : zG) (x : Int32) : Nat × Nat × zG := if zok x (g.1 1) then (0, (zwx g.1 x.toNatClampNeg).1, zline g (zwx g.1 x.toNatClampNeg)) else (1, 0, g)
theorem s_writeExaminer_G {g : zG} (h : GI g) (x : Int32) : GI (s_writeExaminer g x).2.2 := by
  have hD := rB_D h.1
  have hE := rB_E h.1
  unfold s_writeExaminer
  split
  · rename_i z
    obtain ⟨k, hk, rfl⟩ := zok_t z (by omega)
    rw [cl (by omega)]
    exact GI_line h (zwx_k h.1 (by omega)) (by decide)
  · exact h
theorem L_writeExaminer {M : sM} {g : zG} (hC : CI M g) (hG : GI g) (x : Int32) {Q : Int32 → sM → Prop} {X : Nat → sM → Prop} (h : kC M (s_writeExaminer g x) Q X) : wL_writeExaminer x M Q X := by
  have hD := rB_D hG.1
  have hE := rB_E hG.1
  unfold wL_writeExaminer wX6_writeExaminer wX6_requireExaminer
  by_cases hv : zok x (g.1 1)
  · obtain ⟨k, hk, rfl⟩ := zok_t hv (by omega)
    rw [show s_writeExaminer g (nI k) = (0, (zwx g.1 k).1, zline g (zwx g.1 k)) by unfold s_writeExaminer; rw [if_pos hv, cl (by omega)]] at h
    refine u5_hasExaminer_t hC.1 hG.1 hk (br1 (u1_showExaminer hC.1 hG.1 (by omega) (fun M' f c => ?_)))
    have c1 := c.1
    rw [c1]
    have lk := (zwx_k hG.1 (show k < 6 by omega)).1
    generalize zwx g.1 k = l at h c lk ⊢
    exact kC_w2 h (show l.1 < _ by omega) (fr_C f) (CI_line hC f c)
  · rw [show s_writeExaminer g x = (1, 0, g) from if_neg hv] at h
    exact u5_hasExaminer_f hC.1 hG.1 (zok_f hv (by omega)) (br0 (brt rfl (kC_no h (by decide) hC)))
