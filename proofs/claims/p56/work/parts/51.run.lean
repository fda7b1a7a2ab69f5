/-! run at the face. -/
def zerr (g : zG) (e f : Int32) : zG := (g.1, g.2.1, g.2.2.1, (0, g.2.2.2.1.2), (e, f), g.2.2.2.2.2)
noncomputable def zP (g : zG) : Nat × List (Nat × List Nat) := zps g.2.2.2.1.2 g.2.2.2.1.1 13 0
noncomputable def zE (g : zG) : Nat × (Nat → Nat) := zex g.1 (zP g).2 0
noncomputable def s_run (g : zG) : Nat × Nat × zG :=
  if (zP g).1 ≠ 0 then (1, 0, zerr g (nI ((zP g).1 - 1)) g.2.2.2.2.1.2)
  else if (zE g).1 ≠ 0 then (2, 0, zerr g g.2.2.2.2.1.1 (nI ((zE g).1 - 1)))
  else (0, (zP g).2.length, zpush (zerr g g.2.2.2.2.1.1 g.2.2.2.2.1.2) (zE g).2)
theorem GI_err {g : zG} (h : GI g) {e f : Int32} (he : -1 ≤ e.toInt) (hf : -1 ≤ f.toInt) : GI (zerr g e f) := ⟨h.1, h.2.1, h.2.2.1, ⟨Nat.zero_le _, fun j hj => absurd hj (Nat.not_lt_zero _)⟩, ⟨he, hf⟩, h.2.2.2.2.2⟩
theorem zps_60 {t : Nat → Nat} {n : Nat} : ∀ (f p : Nat), (zps t n f p).1 ≤ Nat.max n p + f + 1
  | 0, p => by
    show p + 1 ≤ Nat.max n p + 0 + 1
    have : p ≤ Nat.max n p := Nat.le_max_right n p
    omega
  | f + 1, p => by
    have hp : p ≤ Nat.max n p := Nat.le_max_right n p
    have hn : n ≤ Nat.max n p := Nat.le_max_left n p
    rcases hm : zmt t n (zsb (zkd t n p)) p with ⟨e, _ | ops⟩
    · rw [zps_n hm]
      show e + 1 ≤ _
      rcases Nat.lt_or_ge n p with q | q
      · have k10 := zkd_10 t n p
        have : zmt t n (zsb (zkd t n p)) p = (p, none) := zmt_o k10 (fun z => by omega)
        rw [hm] at this
        have e1 : e = p := congrArg (fun z : Nat × Option (List Nat) => z.1) this
        omega
      · have := zmt_le (t := t) (n := n) (l := zsb (zkd t n p)) q
        rw [hm] at this
        have this : e ≤ n := this
        omega
    · by_cases q : n ≤ e
      · rw [zps_e hm q]; exact Nat.zero_le _
      · by_cases q2 : t e = 59
        · rw [zps_s hm q q2]
          have r := zps_60 (t := t) (n := n) f (e + 1)
          have : Nat.max n (e + 1) = n := Nat.max_eq_left (by omega)
          rw [this] at r
          show (zps t n f (e + 1)).1 ≤ _
          omega
        · rw [zps_x hm q q2]
          show e + 1 ≤ _
          omega
theorem zP_lt {g : zG} (h : GI g) : (zP g).1 < 1000 := by
  have n60 := h.2.2.2.1.1
  have r := zps_60 (t := g.2.2.2.1.2) (n := g.2.2.2.1.1) 13 0
  have : Nat.max g.2.2.2.1.1 0 = g.2.2.2.1.1 := Nat.max_eq_left (Nat.zero_le _)
  rw [this] at r
  unfold zP; omega
theorem zps_len {t : Nat → Nat} {n : Nat} : ∀ (f p : Nat), (zps t n f p).2.length ≤ f
  | 0, p => Nat.le_refl _
  | f + 1, p => by
    rcases hm : zmt t n (zsb (zkd t n p)) p with ⟨e, _ | ops⟩
    · rw [zps_n hm]; exact Nat.zero_le _
    · by_cases q : n ≤ e
      · rw [zps_e hm q]
        show 1 ≤ f + 1
        omega
      · by_cases q2 : t e = 59
        · rw [zps_s hm q q2]
          have r := zps_len (t := t) (n := n) f (e + 1)
          show (zps t n f (e + 1)).2.length + 1 ≤ f + 1
          omega
        · rw [zps_x hm q q2]; exact Nat.zero_le _
theorem nI_m1 {n : Nat} (h : n < 2 ^ 31) : -1 ≤ (nI n).toInt := by rw [nI_toInt h]; omega
theorem s_run_G {g : zG} (h : GI g) : GI (s_run g).2.2 := by
  have l1 := zP_lt h
  have l2 := zps_len (t := g.2.2.2.1.2) (n := g.2.2.2.1.1) 13 0
  have l3 := zex_i (zP g).2 g.1 0
  unfold s_run
  split
  · exact GI_err h (nI_m1 (by omega)) h.2.2.2.2.1.2
  · split
    · refine GI_err h h.2.2.2.2.1.1 (nI_m1 ?_)
      have l2 : (zP g).2.length ≤ 13 := l2
      unfold zE
      omega
    · exact GI_push (GI_err h h.2.2.2.2.1.1 h.2.2.2.2.1.2) (zex_B _ _ _ h.1)
theorem getD_mem {α : Type} {d : α} : ∀ {l : List α} {i : Nat}, i < l.length → l.getD i d ∈ l
  | [], i, h => absurd h (Nat.not_lt_zero _)
  | x :: l, 0, _ => List.mem_cons_self
  | x :: l, i + 1, h => List.mem_cons_of_mem _ (getD_mem (l := l) (i := i) (by simpa using h))
theorem drop_c {α : Type} {d : α} : ∀ {l : List α} {i : Nat}, i < l.length → l.drop i = l.getD i d :: l.drop (i + 1)
  | [], i, h => absurd h (Nat.not_lt_zero _)
  | x :: l, 0, _ => rfl
  | x :: l, i + 1, h => drop_c (l := l) (i := i) (by simpa using h)
section RUN
variable {M : sM} {g : zG}
theorem CI_err {M' : sM} (hC : CI M g) {e f : Int32} (h0 : ∀ k, (k = 1 ∨ k = 31 ∨ k = 32 ∨ 46 ≤ k) → M' k = M k) (h2 : M' 0 2 = M 0 2) (h8 : M' 0 8 = e) (h9 : M' 0 9 = f) (h14 : M' 14 1 = 0) : CI M' (zerr g e f) := by
  obtain ⟨c1, ⟨c2, s, c3, c4, c5⟩, c6, c7, c8, c9⟩ := hC
  refine ⟨rS_fr c1 (fun b hb => h0 _ (by unfold sw_st; omega)), ⟨?_, s, c3, ?_, fun j hj => rS_fr (c5 j hj) (fun b hb => h0 _ (by unfold sw_st; omega))⟩, ⟨?_, fun z => rS_fr (c6.2 z) (fun b hb => h0 _ (by unfold sw_st; omega))⟩, ⟨h14, fun j hj => absurd hj (Nat.not_lt_zero _)⟩, ⟨h8, h9⟩, ?_⟩
  · rw [h0 1 (by decide)]; exact c2
  · rw [h0 1 (by decide)]; exact c4
  · rw [h2]; exact c6.1
  · rw [h0 31 (by decide), h0 32 (by decide)]; exact c9
theorem L_run (hC : CI M g) (hG : GI g) {Q : Int32 → sM → Prop} {X : Nat → sM → Prop} (h : kC M (s_run g) Q X) : wL_run M Q X := by
  have n60 := hG.2.2.2.1.1
  have lt := zP_lt hG
  unfold wL_run wX6_run
  refine u4_parse (t := g.2.2.2.1.2) (n := g.2.2.2.1.1) n60 hC.2.2.2.1.1 hC.2.2.2.1.2 hG.2.2.2.1.2 (fun M2 f2 h2 => ?_)
  unfold wX4_empty
  intro M3 e3
  have n3 : ∀ k, k ≠ 14 → k ≠ 16 → (k < 18 ∨ 31 ≤ k) → M3 k = M k := fun k a b c => by rw [e3, sw_ms_n _ _ _ a]; exact f2.1 k a b (by omega)
  have F3 : fC M M3 := fun k a b => n3 k (by omega) (by omega) (by omega)
  have hP1 : (zps g.2.2.2.1.2 g.2.2.2.1.1 13 0) = zP g := rfl
  rw [hP1] at h2 ⊢
  have t3 : M3 14 1 = 0 := by rw [e3, ms_e]
  refine bri (nP_n1 (by omega)) (fun ok => ?_) (fun bad => ?_)
  · obtain ⟨hl, hr⟩ := h2 ok
    have C3 : CI M3 (zerr g g.2.2.2.2.1.1 g.2.2.2.2.1.2) := CI_err hC (fun k hk => n3 k (by omega) (by omega) (by omega)) (by rw [n3 0 (by decide) (by decide) (by decide)]) (by rw [n3 0 (by decide) (by decide) (by decide)]; exact hC.2.2.2.2.1.1) (by rw [n3 0 (by decide) (by decide) (by decide)]; exact hC.2.2.2.2.1.2) t3
    have G3 : GI (zerr g g.2.2.2.2.1.1 g.2.2.2.2.1.2) := GI_err hG hG.2.2.2.2.1.1 hG.2.2.2.2.1.2
    refine c_prepare C3 G3 (fun M5 f hf hf1 f5 s5 C5 => ?_)
    have s5 : rS M5 (2 + f) g.1 := s5
    have k5 : ∀ k, k < 80 → M5 k = M3 k := fun k hk => f5 k (.inl (by unfold sw_st; omega))
    have F5 : fC M M5 := fC_t F3 (fun k a b => k5 k (by omega))
    have l5 : M5 14 2 = nI (zP g).2.length := by rw [k5 14 (by decide), e3, ms_j _ _ _ (by decide)]; exact hl
    have r5 : hR M5 0 (zP g).2 := fun i hi => by
      have l13 := zps_len (t := g.2.2.2.1.2) (n := g.2.2.2.1.1) 13 0
      have l13 : (zP g).2.length ≤ 13 := l13
      obtain ⟨a1, a2⟩ := hr i hi
      refine ⟨by rw [k5 16 (by decide), e3, sw_ms_n _ _ _ (by decide)]; exact a1, fun j hj => by rw [k5 _ (by omega), e3, sw_ms_n _ _ _ (by omega)]; exact a2 j hj⟩
    have l13 : (zP g).2.length ≤ 13 := zps_len (t := g.2.2.2.1.2) (n := g.2.2.2.1.1) 13 0
    have hf5 : M5 1 1 = nI f := by rw [k5 1 (by decide)]; exact hf1
    have key : ∀ m i, i + m = (zP g).2.length → ∀ (a : Nat → Nat) (M6 : sM), fP M5 M6 → rS M6 0 a → rB a → zex a ((zP g).2.drop i) i = zE g →
        lX6_run_46 (fun E9 M9 => (E9 = "java/lang/IllegalArgumentException" → (X 1 M9)) ∧ (¬ E9 = "java/lang/IllegalArgumentException" → ((E9 = "java/lang/UnsupportedOperationException" → (X 2 M9)) ∧ (¬ E9 = "java/lang/UnsupportedOperationException" → (False))))) (fun M_46k => wX0_commit M_46k (fun M6 => Q (M6 14 2) M6)) (m + 1) (nI i) M6 := by
      intro m
      induction m with
      | zero =>
        intro i hi a M6 f6 s6 b6 hz
        unfold lX6_run_46
        have e : i = (zP g).2.length := by omega
        rw [f6 14 (by decide) (by decide), l5]
        refine brt (by rw [e]; exact nI_le (Nat.le_refl _) (by omega)) ?_
        rw [e, List.drop_length] at hz
        have hz1 : zE g = (0, a) := hz.symm
        have h0 : s_run g = (0, (zP g).2.length, zpush (zerr g g.2.2.2.2.1.1 g.2.2.2.2.1.2) a) := by
          unfold s_run
          rw [if_neg (by omega), hz1, if_neg (by simp)]
        rw [h0] at h
        refine c_commit C5 G3 hf hf5 s5 f6 s6 (fun M7 f7 C7 k7 => ?_)
        have e14 : M7 14 2 = nI (zP g).2.length := by rw [k7 14 (by decide), f6 14 (by decide) (by decide)]; exact l5
        rw [e14]
        exact kC_w2 h (by omega) (fC_t F5 (fC_t (fP_C f6) f7)) C7
      | succ m ih =>
        intro i hi a M6 f6 s6 b6 hz
        have il : i < (zP g).2.length := by omega
        unfold lX6_run_46
        rw [f6 14 (by decide) (by decide), l5]
        refine brf (nI_ge (by omega) (by omega)) ⟨vin (by omega) (by decide), vin (by omega) (by decide), ?_⟩
        obtain ⟨a1, a2⟩ := r5 i il
        rw [Nat.zero_add] at a1 a2
        rw [cl (by omega), f6 16 (by decide) (by decide), a1]
        rw [drop_c (d := (0, [])) il] at hz
        have zv : zvc ((zP g).2.getD i (0, [])) := zps_v 13 0 _ (getD_mem il)
        refine u6_perform (c := (zP g).2.getD i (0, [])) s6 b6 zv (fun j hj => by rw [f6 _ (by omega) (by omega)]; exact a2 j hj) (fun M12 x f12 s12 y0 y1 => ?_)
        have f512 : fP M5 M12 := fP_t f6 f12
        by_cases c0 : (zcm a ((zP g).2.getD i (0, []))).1 = 0
        · refine brt (y0 c0) ?_
          intro v14 e14
          subst e14
          have r := ih (i + 1) (by omega) _ M12 f512 s12 (zcm_B b6 _) (by
            rw [← hz]
            show _ = (if (zcm a ((zP g).2.getD i (0, []))).1 = 0 then _ else _)
            rw [if_pos c0])
          rw [nI_succ] at r
          exact r
        · refine brf (y1 c0) ?_
          have hz1 : zE g = (i + 1, a) := by
            rw [← hz]
            show (if (zcm a ((zP g).2.getD i (0, []))).1 = 0 then _ else _) = _
            rw [if_neg c0]
          have h0 : s_run g = (2, 0, zerr g g.2.2.2.2.1.1 (nI i)) := by
            unfold s_run
            rw [if_neg (by omega), hz1, if_pos (by simp)]
            rfl
          rw [h0] at h
          unfold wX0_takeBack
          have g12 : M12 1 1 = nI f := by rw [f512 1 (by decide) (by decide)]; exact hf5
          rw [g12, cl (by omega)]
          refine ⟨vin hf (by decide), ?_⟩
          have s2f : rS M12 (2 + f) g.1 := rS_fr s5 (fun b hb => f512 _ (by unfold sw_st; omega) (by unfold sw_st; omega))
          refine u5_copyFrom (by omega) s2f hG.1 (fun M15 f15 s15 => ?_)
          intro M16 e16
          have C15 : CI M15 (zerr g g.2.2.2.2.1.1 g.2.2.2.2.1.2) := CI_P C5 (fP_t f512 (fP_fr f15)) s15
          have f16 : fC M M16 := fC_t F5 (fC_t (fP_C (fP_t f512 (fP_fr f15))) (fun k a b => by rw [e16]; exact sw_ms_n _ _ _ (by omega)))
          have C16 : CI M16 (zerr g g.2.2.2.2.1.1 (nI i)) := by
            have n16 : ∀ k, k ≠ 0 → M16 k = M15 k := fun k hk => by rw [e16]; exact sw_ms_n _ _ _ hk
            have q := CI_err (M := M15) (M' := M16) (g := zerr g g.2.2.2.2.1.1 g.2.2.2.2.1.2) (e := g.2.2.2.2.1.1) (f := nI i) C15 (fun k hk => n16 k (by omega)) (by rw [e16, ms_j _ _ _ (by decide)]) (by rw [e16, ms_j _ _ _ (by decide)]; exact C15.2.2.2.2.1.1) (by rw [e16, ms_e]) (by rw [n16 14 (by decide)]; exact C15.2.2.2.1.1)
            exact q
          exact brf (by simp) (brt rfl ((h M16 f16 C16).2 (Nat.succ_ne_zero _)))
    exact ⟨_, key (zP g).2.length 0 (by omega) g.1 M5 (fP_r M5) C5.1 hG.1 rfl⟩
  · have h0 : s_run g = (1, 0, zerr g (nI ((zP g).1 - 1)) g.2.2.2.2.1.2) := by
      unfold s_run
      rw [if_pos bad]
    rw [h0] at h
    intro M17 e17
    rw [nP_of (by omega)] at e17
    have f17 : fC M M17 := fC_t F3 (fun k a b => by rw [e17]; exact sw_ms_n _ _ _ (by omega))
    have n17 : ∀ k, k ≠ 0 → k ≠ 14 → k ≠ 16 → (k < 18 ∨ 31 ≤ k) → M17 k = M k := fun k a b c e => by rw [e17, sw_ms_n _ _ _ a]; exact n3 k b c e
    have C17 : CI M17 (zerr g (nI ((zP g).1 - 1)) g.2.2.2.2.1.2) := CI_err hC (fun k hk => n17 k (by omega) (by omega) (by omega) (by omega)) (by rw [e17, ms_j _ _ _ (by decide), n3 0 (by decide) (by decide) (by decide)]) (by rw [e17, ms_e]) (by rw [e17, ms_j _ _ _ (by decide), n3 0 (by decide) (by decide) (by decide)]; exact hC.2.2.2.2.1.2) (by rw [e17, sw_ms_n _ _ _ (by decide)]; exact t3)
    exact brt rfl ((h M17 f17 C17).2 (Nat.succ_ne_zero _))
end RUN
