/-! The reference reads commands. -/
def zcl (a : List Nat) (r : Nat × Option (List Nat)) : Nat × Option (List Nat) := (r.1, r.2.map (fun l => a ++ l))
theorem zcl_n (r : Nat × Option (List Nat)) : zcl [] r = r := by
  rcases r with ⟨e, _ | l⟩ <;> rfl
theorem zcl_s (a : List Nat) (v : Nat) (r : Nat × Option (List Nat)) : zcl a (zcs v r) = zcl (a ++ [v]) r := by
  rcases r with ⟨e, _ | l⟩
  · rfl
  · show (e, some (a ++ (v :: l))) = (e, some ((a ++ [v]) ++ l))
    rw [List.append_assoc]; rfl
/-- the parts' shapes -/
def zpl2 : List Nat → List Nat
  | [] => []
  | c :: l => zsp (c - 48) ++ zpl2 l
section MW
variable {t : Nat → Nat} {n : Nat}
theorem u7_readsWord (hn : n ≤ 60) (ht : ∀ j, j < n → t j < 65536) {κ kc t2 t3 : Nat} (h2 : t2 < 28) (h3 : t3 < 28) (hl : ∀ w ∈ zsb t2, w ≠ 70 ∧ w ≠ 68 ∧ w ≠ 78) (hp3 : ∀ w ∈ zsb t3, 48 ≤ w ∧ w < 51) (h4 : (zsb t3).length ≤ 4) (es : zsb κ = zsb t2 ++ zpl2 (zsb t3)) {M : sM} {p cm : Nat} (hp : p ≤ n) (hcm : cm < 13) (hM : pT t n p 0 cm M) {Q : sM → Prop}
    (hok : ∀ M' e ops, fT M M' → (∀ q, q < 5 * cm → M' 44 q = M 44 q) → zmt t n (zsb κ) p = (e, some ops) → e ≤ n → pT t n e 0 (cm + 1) M' → M' 44 (5 * cm) = nI kc → (∀ j, j < ops.length → M' 44 (5 * cm + 1 + j) = nI (ops.getD j 0)) → Q M')
    (hno : ∀ M' e, fT M M' → zmt t n (zsb κ) p = (e, none) → e ≤ n → pT t n e 1 (cm + 1) M' → Q M') : wX7_readsWord (nI kc) t2 t3 M Q := by
  unfold wX7_readsWord
  intro v1 e1
  rw [hM.2.2.2.2, show (5 : Int32) * nI cm = nI (5 * cm) from pk_mul 5 cm] at e1
  subst e1
  refine ⟨vin (by omega) (by decide), ?_⟩
  intro M3 e3 M4 e4
  rw [cl (by omega)] at e3
  have p3 : pT t n p 0 cm M3 := by rw [e3]; exact pT_c hM _ _
  rw [p3.2.2.2.2, ← nI_succ] at e4
  have p4 : pT t n p 0 (cm + 1) M4 := by rw [e4]; exact pT_19 p3 (cm + 1)
  have f4 : fT M M4 := fT_t (M1 := M3) (by rw [e3]; exact fT_c M _ _) (by rw [e4]; exact fT_s M3 (by omega) _)
  have e44 : M4 44 = M3 44 := by rw [e4, sw_ms_n _ _ _ (by decide)]
  have a44 : M4 44 (5 * cm) = nI kc := by rw [e44, e3, ms_e]
  have b44 : ∀ q, q < 5 * cm → M4 44 q = M 44 q := fun q hq => by rw [e44, e3, ms_j _ _ _ (by omega)]
  -- the parts, where it is wrong already
  have wrong : ∀ e, e ≤ n → zmt t n (zsb κ) p = (e, none) → ∀ (rem pre : List Nat) (M5 : sM), zsb t3 = pre ++ rem → fT M M5 → pT t n e 1 (cm + 1) M5 → lX7_readsWord_34 t3 (nI (5 * cm)) (fun M_34k => Q M_34k) (rem.length + 1) (nI pre.length) M5 := fun e he hz rem => by
    induction rem with
    | nil =>
      intro pre M5 ei f5 p5
      unfold lX7_readsWord_34
      refine sb_len h3 ?_
      rw [ei, List.append_nil]
      rw [ei, List.append_nil] at h4
      exact brt (nI_le (Nat.le_refl _) (by omega)) (hno M5 e f5 hz he p5)
    | cons c l ih =>
      intro pre M5 ei f5 p5
      have hc := hp3 c (by rw [ei]; simp)
      have l4 := h4
      rw [ei] at l4
      simp only [List.length_append, List.length_cons] at l4
      unfold lX7_readsWord_34
      refine sb_len h3 ?_
      rw [ei]
      refine brf (by rw [List.length_append, List.length_cons]; exact nI_ge (by omega) (by omega)) ?_
      refine sb_ch h3 ei ?_
      rw [show nI c - (48 : Int32) = nI (c - 48) from pk_sub (b := 48) hc.1]
      refine u7_reads1 hn (by omega) he p5 (fun M6 r f6 e6 p6 => ?_)
      rw [show (nI (5 * cm) + (1 : Int32)) + nI pre.length = nI (5 * cm + 1 + pre.length) by rw [← nI_succ, nI_add]]
      refine ⟨vin (by omega) (by decide), ?_⟩
      intro M12 e12 v13 e13
      subst e13
      have q := ih (pre ++ [c]) M12 (by rw [ei]; simp) (fT_t f5 (fT_t f6 (by rw [e12]; exact fT_c M6 _ _))) (by rw [e12]; exact pT_c p6 _ _)
      rw [show (pre ++ [c]).length = pre.length + 1 by simp, nI_succ] at q
      exact q
  refine u7_skip hn ht h2 hl hp p4 (fun M5 p5 f5 e5 hp5 hM5 hz => ?_) (fun M5 e f5 e5 he hM5 hz => ?_)
  · have key : ∀ (rem pre : List Nat) (q : Nat) (acc : List Nat) (M6 : sM), zsb t3 = pre ++ rem → acc.length = pre.length → fT M M6 → q ≤ n → pT t n q 0 (cm + 1) M6 → zmt t n (zsb κ) p = zcl acc (zmt t n (zpl2 rem) q) → M6 44 (5 * cm) = nI kc → (∀ z, z < 5 * cm → M6 44 z = M 44 z) → (∀ j, j < acc.length → M6 44 (5 * cm + 1 + j) = nI (acc.getD j 0)) → lX7_readsWord_34 t3 (nI (5 * cm)) (fun M_34k => Q M_34k) (rem.length + 1) (nI pre.length) M6 := by
      intro rem
      induction rem with
      | nil =>
        intro pre q acc M6 ei ea f6 hq p6 hz6 a6 b6 o6
        unfold lX7_readsWord_34
        refine sb_len h3 ?_
        rw [ei, List.append_nil]
        rw [ei, List.append_nil] at h4
        refine brt (nI_le (Nat.le_refl _) (by omega)) (hok M6 q acc f6 b6 ?_ hq p6 a6 o6)
        rw [hz6]
        show (q, some (acc ++ [])) = (q, some acc)
        rw [List.append_nil]
      | cons c l ih =>
        intro pre q acc M6 ei ea f6 hq p6 hz6 a6 b6 o6
        have hc := hp3 c (by rw [ei]; simp)
        have l4 := h4
        rw [ei] at l4
        simp only [List.length_append, List.length_cons] at l4
        unfold lX7_readsWord_34
        refine sb_len h3 ?_
        rw [ei]
        refine brf (by rw [List.length_append, List.length_cons]; exact nI_ge (by omega) (by omega)) ?_
        refine sb_ch h3 ei ?_
        rw [show nI c - (48 : Int32) = nI (c - 48) from pk_sub (b := 48) hc.1]
        have ix : (nI (5 * cm) + (1 : Int32)) + nI pre.length = nI (5 * cm + 1 + pre.length) := by rw [← nI_succ, nI_add]
        have eip : zsb t3 = (pre ++ [c]) ++ l := by rw [ei]; simp
        have lp : (pre ++ [c]).length = pre.length + 1 := by simp
        refine u7_reads hn ht (c := c - 48) (by omega) hq p6 (fun M7 q7 v f7 e7 hq7 p7 hz7 => ?_) (fun M7 e r f7 e7 he7 p7 hz7 => ?_)
        · rw [ix]
          refine ⟨vin (by omega) (by decide), ?_⟩
          intro M12 e12 v13 e13
          rw [cl (by omega)] at e12
          subst e13
          have r := ih (pre ++ [c]) q7 (acc ++ [v]) M12 eip (by simp [ea]) (fT_t f6 (fT_t f7 (by rw [e12]; exact fT_c M7 _ _))) hq7 (by rw [e12]; exact pT_c p7 _ _) (by
            rw [hz6]
            show zcl acc (zmt t n (zsp (c - 48) ++ zpl2 l) q) = _
            rw [hz7, zcl_s]) (by rw [e12, ms_j _ _ _ (by omega), e7]; exact a6) (fun z hz => by rw [e12, ms_j _ _ _ (by omega), e7]; exact b6 z hz) (fun j hj => by
            rw [e12, ms_a]
            have hj : j < acc.length + 1 := by simpa using hj
            by_cases e : j = acc.length
            · rw [if_pos ⟨rfl, by omega⟩, e]
              simp [List.getD]
            · rw [if_neg (by omega), e7, o6 j (by omega)]
              congr 1
              simp only [List.getD, List.getElem?_append_left (show j < acc.length by omega)])
          rw [lp, nI_succ] at r
          exact r
        · rw [ix]
          refine ⟨vin (by omega) (by decide), ?_⟩
          intro M12 e12 v13 e13
          subst e13
          have r := wrong e he7 (by
            rw [hz6]
            show zcl acc (zmt t n (zsp (c - 48) ++ zpl2 l) q) = _
            rw [hz7]; rfl) l (pre ++ [c]) M12 eip (fT_t f6 (fT_t f7 (by rw [e12]; exact fT_c M7 _ _))) (by rw [e12]; exact pT_c p7 _ _)
          rw [lp, nI_succ] at r
          exact r
    refine ⟨_, key (zsb t3) [] p5 [] M5 rfl rfl (fT_t f4 f5) hp5 hM5 ?_ (by rw [e5]; exact a44) (fun z hz => by rw [e5]; exact b44 z hz) (fun j hj => absurd hj (Nat.not_lt_zero _))⟩
    rw [zcl_n, es]; exact hz _
  · exact ⟨_, wrong e he (by rw [es]; exact hz _) (zsb t3) [] M5 rfl (fT_t f4 f5) hM5⟩
/-- the reference's sign of a kind -/
def zkc (k : Nat) : Nat := match k with
  | 0 => 100
  | 1 => 101
  | 2 => 99
  | 3 => 97
  | 4 => 112
  | 5 => 103
  | 6 => 116
  | 7 => 120
  | 8 => 119
  | _ => 114
def zk2 (k : Nat) : Nat := match k with
  | 0 => 10
  | 1 => 13
  | 2 => 15
  | 3 => 20
  | 4 => 26
  | 5 => 21
  | 6 => 23
  | 7 => 17
  | 8 => 19
  | _ => 25
def zk3 (k : Nat) : Nat := match k with
  | 0 => 11
  | 1 => 14
  | 2 => 16
  | 3 => 16
  | 4 => 27
  | 5 => 22
  | 6 => 24
  | 7 => 18
  | 8 => 18
  | _ => 18
theorem zk_a : ∀ k, k < 10 → zk2 k < 28 ∧ zk3 k < 28 ∧ (zsb (zk3 k)).length ≤ 4 ∧ zsb k = zsb (zk2 k) ++ zpl2 (zsb (zk3 k)) := by decide +kernel
theorem zk_b : ∀ k, k < 10 → ∀ w ∈ zsb (zk2 k), w ≠ 70 ∧ w ≠ 68 ∧ w ≠ 78 := by decide +kernel
theorem zk_c : ∀ k, k < 10 → ∀ w ∈ zsb (zk3 k), 48 ≤ w ∧ w < 51 := by decide +kernel
theorem u7_cmd {M : sM} {p : Nat} {Q : sM → Prop} (hn : n ≤ 60) (ht : ∀ j, j < n → t j < 65536) (hp : p ≤ n) {cm : Nat} (hM : pT t n p 0 cm M) (h : wX7_readsWord (nI (zkc (zkd t n p))) (zk2 (zkd t n p)) (zk3 (zkd t n p)) M Q) : wX7_readsCommand M Q := by
  have c1 : ∀ (b : Nat), b < 200 → p < n → (nI (t p) = nI b ↔ t p = b) := fun b hb lt => nI_eq (by have := ht p lt; omega) (by omega)
  have c2 : ∀ (b : Nat), b < 200 → p + 1 < n → (nI (t (p + 1)) = nI b ↔ t (p + 1) = b) := fun b hb lt => nI_eq (by have := ht (p + 1) lt; omega) (by omega)
  have nx : ∀ b : Nat, b < 200 → ¬ (-1 : Int32) = nI b := fun b hb e => by
    rw [← nP_0, nP_eqI (by decide) (by omega)] at e; omega
  unfold wX7_readsCommand
  have go : ∀ r1 r2 : Int32, ((r1 = nI 100 → zkd t n p = 0) ∧ (r1 = nI 101 → zkd t n p = 1) ∧ (r1 = nI 99 → zkd t n p = 2) ∧ (r1 = nI 97 → r2 = nI 112 → zkd t n p = 7) ∧ (r1 = nI 97 → r2 = nI 119 → zkd t n p = 8) ∧ (r1 = nI 97 → ¬ r2 = nI 112 → ¬ r2 = nI 119 → zkd t n p = 3) ∧ (r1 = nI 103 → zkd t n p = 5) ∧ (r1 = nI 116 → zkd t n p = 6) ∧ (r1 = nI 114 → zkd t n p = 9) ∧ (¬ r1 = nI 100 → ¬ r1 = nI 101 → ¬ r1 = nI 99 → ¬ r1 = nI 97 → ¬ r1 = nI 103 → ¬ r1 = nI 116 → ¬ r1 = nI 114 → zkd t n p = 4)) →
      ((r1 = (100 : Int32) → (wX7_readsWord (100 : Int32) 10 11 M (fun M54 => Q M54))) ∧ (¬ r1 = (100 : Int32) → ((r1 = (101 : Int32) → (wX7_readsWord (101 : Int32) 13 14 M (fun M53 => Q M53))) ∧ (¬ r1 = (101 : Int32) → ((r1 = (99 : Int32) → (wX7_readsWord (99 : Int32) 15 16 M (fun M52 => Q M52))) ∧ (¬ r1 = (99 : Int32) → ((r1 = (97 : Int32) → ((r2 = (112 : Int32) → (wX7_readsWord (120 : Int32) 17 18 M (fun M51 => Q M51))) ∧ (¬ r2 = (112 : Int32) → ((r1 = (97 : Int32) → ((r2 = (119 : Int32) → (wX7_readsWord (119 : Int32) 19 18 M (fun M50 => Q M50))) ∧ (¬ r2 = (119 : Int32) → ((r1 = (97 : Int32) → (wX7_readsWord (97 : Int32) 20 16 M (fun M49 => Q M49))) ∧ (¬ r1 = (97 : Int32) → ((r1 = (103 : Int32) → (wX7_readsWord (103 : Int32) 21 22 M (fun M48 => Q M48))) ∧ (¬ r1 = (103 : Int32) → ((r1 = (116 : Int32) → (wX7_readsWord (116 : Int32) 23 24 M (fun M47 => Q M47))) ∧ (¬ r1 = (116 : Int32) → ((r1 = (114 : Int32) → (wX7_readsWord (114 : Int32) 25 18 M (fun M46 => Q M46))) ∧ (¬ r1 = (114 : Int32) → (wX7_readsWord (112 : Int32) 26 27 M (fun M45 => Q M45))))))))))))) ∧ (¬ r1 = (97 : Int32) → ((r1 = (97 : Int32) → (wX7_readsWord (97 : Int32) 20 16 M (fun M39 => Q M39))) ∧ (¬ r1 = (97 : Int32) → ((r1 = (103 : Int32) → (wX7_readsWord (103 : Int32) 21 22 M (fun M38 => Q M38))) ∧ (¬ r1 = (103 : Int32) → ((r1 = (116 : Int32) → (wX7_readsWord (116 : Int32) 23 24 M (fun M37 => Q M37))) ∧ (¬ r1 = (116 : Int32) → ((r1 = (114 : Int32) → (wX7_readsWord (114 : Int32) 25 18 M (fun M36 => Q M36))) ∧ (¬ r1 = (114 : Int32) → (wX7_readsWord (112 : Int32) 26 27 M (fun M35 => Q M35))))))))))))))) ∧ (¬ r1 = (97 : Int32) → ((r1 = (97 : Int32) → ((r2 = (119 : Int32) → (wX7_readsWord (119 : Int32) 19 18 M (fun M28 => Q M28))) ∧ (¬ r2 = (119 : Int32) → ((r1 = (97 : Int32) → (wX7_readsWord (97 : Int32) 20 16 M (fun M27 => Q M27))) ∧ (¬ r1 = (97 : Int32) → ((r1 = (103 : Int32) → (wX7_readsWord (103 : Int32) 21 22 M (fun M26 => Q M26))) ∧ (¬ r1 = (103 : Int32) → ((r1 = (116 : Int32) → (wX7_readsWord (116 : Int32) 23 24 M (fun M25 => Q M25))) ∧ (¬ r1 = (116 : Int32) → ((r1 = (114 : Int32) → (wX7_readsWord (114 : Int32) 25 18 M (fun M24 => Q M24))) ∧ (¬ r1 = (114 : Int32) → (wX7_readsWord (112 : Int32) 26 27 M (fun M23 => Q M23))))))))))))) ∧ (¬ r1 = (97 : Int32) → ((r1 = (97 : Int32) → (wX7_readsWord (97 : Int32) 20 16 M (fun M17 => Q M17))) ∧ (¬ r1 = (97 : Int32) → ((r1 = (103 : Int32) → (wX7_readsWord (103 : Int32) 21 22 M (fun M16 => Q M16))) ∧ (¬ r1 = (103 : Int32) → ((r1 = (116 : Int32) → (wX7_readsWord (116 : Int32) 23 24 M (fun M15 => Q M15))) ∧ (¬ r1 = (116 : Int32) → ((r1 = (114 : Int32) → (wX7_readsWord (114 : Int32) 25 18 M (fun M14 => Q M14))) ∧ (¬ r1 = (114 : Int32) → (wX7_readsWord (112 : Int32) 26 27 M (fun M13 => Q M13)))))))))))))))))))) := by
    intro r1 r2 ⟨g1, g2, g3, g4, g5, g6, g7, g8, g9, g10⟩
    have w : ∀ κ, zkd t n p = κ → wX7_readsWord (nI (zkc κ)) (zk2 κ) (zk3 κ) M Q := fun κ e => by rw [← e]; exact h
    have tail : ∀ _ : ¬ r1 = nI 100, ∀ _ : ¬ r1 = nI 101, ∀ _ : ¬ r1 = nI 99, ∀ _ : ¬ r1 = nI 97, ((r1 = (103 : Int32) → (wX7_readsWord (103 : Int32) 21 22 M Q)) ∧ (¬ r1 = (103 : Int32) → ((r1 = (116 : Int32) → (wX7_readsWord (116 : Int32) 23 24 M Q)) ∧ (¬ r1 = (116 : Int32) → ((r1 = (114 : Int32) → (wX7_readsWord (114 : Int32) 25 18 M Q)) ∧ (¬ r1 = (114 : Int32) → (wX7_readsWord (112 : Int32) 26 27 M Q))))))) := fun a b c d =>
      ⟨fun e => w 5 (g7 e), fun n5 => ⟨fun e => w 6 (g8 e), fun n6 => ⟨fun e => w 9 (g9 e), fun n9 => w 4 (g10 a b c d n5 n6 n9)⟩⟩⟩
    refine ⟨fun e => w 0 (g1 e), fun n0 => ⟨fun e => w 1 (g2 e), fun n1 => ⟨fun e => w 2 (g3 e), fun n2 => ⟨fun e97 => ⟨fun e => w 7 (g4 e97 e), fun n7 => ⟨fun _ => ⟨fun e => w 8 (g5 e97 e), fun n8 => ⟨fun _ => w 3 (g6 e97 n7 n8), fun no => absurd e97 no⟩⟩, fun no => absurd e97 no⟩⟩, fun n97 => ⟨fun e => absurd e n97, fun _ => ⟨fun e => absurd e n97, fun _ => tail n0 n1 n2 n97⟩⟩⟩⟩⟩⟩
  have fin : ∀ r1 r2 : Int32, ((p < n ∧ r1 = nI (t p)) ∨ (n ≤ p ∧ r1 = -1)) → ((p + 1 < n ∧ r2 = nI (t (p + 1))) ∨ (n ≤ p + 1 ∧ r2 = -1)) → _ := fun r1 r2 h1 h2 => go r1 r2 (by
    have a : ∀ b : Nat, b < 200 → (r1 = nI b ↔ (p < n ∧ t p = b)) := fun b hb => by
      rcases h1 with ⟨lt, e⟩ | ⟨ge, e⟩
      · rw [e, c1 b hb lt]; exact ⟨fun z => ⟨lt, z⟩, fun z => z.2⟩
      · rw [e]; exact ⟨fun z => absurd z (nx b hb), fun z => by omega⟩
    have a2 : ∀ b : Nat, b < 200 → (r2 = nI b ↔ (p + 1 < n ∧ t (p + 1) = b)) := fun b hb => by
      rcases h2 with ⟨lt, e⟩ | ⟨ge, e⟩
      · rw [e, c2 b hb lt]; exact ⟨fun z => ⟨lt, z⟩, fun z => z.2⟩
      · rw [e]; exact ⟨fun z => absurd z (nx b hb), fun z => by omega⟩
    rw [a 100 (by decide), a 101 (by decide), a 99 (by decide), a 97 (by decide), a 103 (by decide), a 116 (by decide), a 114 (by decide), a2 112 (by decide), a2 119 (by decide)]
    unfold zkd
    refine ⟨fun e => ?_, fun e => ?_, fun e => ?_, fun e e2 => ?_, fun e e2 => ?_, fun e e2 e3 => ?_, fun e => ?_, fun e => ?_, fun e => ?_, fun n1 n2 n3 n4 n5 n6 n7 => ?_⟩
    · rw [if_neg (by omega), if_pos e.2]
    · rw [if_neg (by omega), if_neg (by omega), if_pos e.2]
    · rw [if_neg (by omega), if_neg (by omega), if_neg (by omega), if_pos e.2]
    · rw [if_neg (by omega), if_neg (by omega), if_neg (by omega), if_neg (by omega), if_pos e.2, if_pos e2]
    · rw [if_neg (by omega), if_neg (by omega), if_neg (by omega), if_neg (by omega), if_pos e.2, if_neg (by omega), if_pos e2]
    · rw [if_neg (by omega), if_neg (by omega), if_neg (by omega), if_neg (by omega), if_pos e.2, if_neg e2, if_neg e3]
    · rw [if_neg (by omega), if_neg (by omega), if_neg (by omega), if_neg (by omega), if_neg (by omega), if_pos e.2]
    · rw [if_neg (by omega), if_neg (by omega), if_neg (by omega), if_neg (by omega), if_neg (by omega), if_neg (by omega), if_pos e.2]
    · rw [if_neg (by omega), if_neg (by omega), if_neg (by omega), if_neg (by omega), if_neg (by omega), if_neg (by omega), if_neg (by omega), if_pos e.2]
    · by_cases q : n ≤ p
      · rw [if_pos q]
      · rw [if_neg q, if_neg (by omega), if_neg (by omega), if_neg (by omega), if_neg (by omega), if_neg (by omega), if_neg (by omega), if_neg (by omega)])
  refine u7_behind0 hn hp hM (fun lt => ?_) (fun ge => ?_)
  · refine u7_behind hn hp hM 1 (by decide) (fun lt2 => ?_) (fun ge2 => ?_)
    · exact brt hM.2.2.2.1 (fin _ _ (.inl ⟨lt, rfl⟩) (.inl ⟨lt2, rfl⟩))
    · exact brt hM.2.2.2.1 (fin _ _ (.inl ⟨lt, rfl⟩) (.inr ⟨ge2, rfl⟩))
  · refine u7_behind hn hp hM 1 (by decide) (fun lt2 => ?_) (fun ge2 => ?_)
    · exact brt hM.2.2.2.1 (fin _ _ (.inr ⟨ge, rfl⟩) (.inl ⟨lt2, rfl⟩))
    · exact brt hM.2.2.2.1 (fin _ _ (.inr ⟨ge, rfl⟩) (.inr ⟨ge2, rfl⟩))
/-- the reference's rows of the commands -/
def hT (M : sM) (r : Nat) (cs : List (Nat × List Nat)) : Prop := ∀ i, i < cs.length → M 44 (5 * (r + i)) = nI (zkc (cs.getD i (0, [])).1) ∧ ∀ j, j < (cs.getD i (0, [])).2.length → M 44 (5 * (r + i) + 1 + j) = nI ((cs.getD i (0, [])).2.getD j 0)
theorem u7_loop (hn : n ≤ 60) (ht : ∀ j, j < n → t j < 65536) {K : sM → Prop} : ∀ (f r p : Nat) (M : sM) (W : sM → Prop), (∀ M4, lX7_run_19 K f M4 → W M4) → r + f = 13 → 5 * r ≤ p → p ≤ n → pT t n p 0 r M →
    (∀ M', fT M M' → ((zps t n f p).1 = 0 → ∀ q, q < 5 * r → M' 44 q = M 44 q) → ((zps t n f p).1 = 0 → (∃ e, n ≤ e ∧ e ≤ n ∧ pT t n e 0 (r + (zps t n f p).2.length) M') ∧ hT M' r (zps t n f p).2) → (∀ e, (zps t n f p).1 = e + 1 → e ≤ n ∧ ∃ w cm, pT t n e w cm M' ∧ (w = 1 ∨ (w = 0 ∧ e < n))) → K M') → wX7_readsCommand M W
  | 0, r, p, M, W, hW, hr, h5, hp, hM, h => by omega
  | f + 1, r, p, M, W, hW, hr, h5, hp, hM, h => by
    have k10 := zkd_10 t n p
    obtain ⟨a1, a2, a3, a4⟩ := zk_a (zkd t n p) k10
    refine u7_cmd hn ht hp hM ?_
    refine u7_readsWord hn ht a1 a2 (zk_b _ k10) (zk_c _ k10) a3 a4 hp (by omega) hM (fun M4 e ops f4 b4 hm he p4 k4 o4 => ?_) (fun M4 e f4 hm he p4 => ?_)
    · have z4 := (zmt_ok hm).2
      have ar := (zsb_ar _ k10).2
      refine hW M4 ?_
      unfold lX7_run_19
      refine brt p4.2.2.2.1 ?_
      have one : hT M4 r [(zkd t n p, ops)] := fun i hi => by
        have e0 : i = 0 := by simpa using hi
        subst e0
        exact ⟨k4, o4⟩
      have out : n ≤ e → K M4 := fun ge => by
        rw [zps_e (f := f) hm ge] at h
        exact h M4 f4 (fun _ => b4) (fun _ => ⟨⟨e, ge, he, p4⟩, one⟩) (fun e2 z => absurd (show 0 = e2 + 1 from z) (by omega))
      refine u7_behind0 hn he p4 (fun lt => ?_) (fun ge => brf (by decide) (out ge))
      have te := ht e lt
      refine bri (nI_eq (b := 59) (by omega) (by decide)) (fun z => ?_) (fun z => ?_)
      · intro M32 e32
        rw [p4.2.2.1, ← nI_succ] at e32
        have p32 : pT t n (e + 1) 0 (r + 1) M32 := by rw [e32]; exact pT_14 p4 (e + 1)
        have f32 : fT M M32 := fT_t f4 (by rw [e32]; exact fT_s M4 (by omega) _)
        have e44 : M32 44 = M4 44 := by rw [e32, sw_ms_n _ _ _ (by decide)]
        have hz := zps_s (f := f) hm (by omega) z
        rw [hz] at h
        refine u7_loop hn ht f (r + 1) (e + 1) M32 _ (fun _ z => z) (by omega) (by omega) (by omega) p32 (fun M' g1 g2 g3 g4 => h M' (fT_t f32 g1) (fun z0 q hq => by rw [g2 z0 q (by omega), e44]; exact b4 q hq) (fun z0 => ?_) g4)
        obtain ⟨⟨e3, c1, c2, c3⟩, c4⟩ := g3 z0
        refine ⟨⟨e3, c1, c2, ?_⟩, fun i hi => ?_⟩
        · rw [List.length_cons, show r + ((zps t n f (e + 1)).2.length + 1) = r + 1 + (zps t n f (e + 1)).2.length by omega]
          exact c3
        · rcases i with _ | i
          · refine ⟨?_, fun j hj => ?_⟩
            · show M' 44 (5 * r) = nI (zkc (zkd t n p))
              rw [g2 z0 _ (by omega), e44]; exact k4
            · show M' 44 (5 * r + 1 + j) = nI (ops.getD j 0)
              have hj : j < ops.length := hj
              have o5 := (zmt_ok hm).1
              have o6 := (zsb_ar _ k10).1
              rw [g2 z0 _ (by omega), e44]; exact o4 j hj
          · have q := c4 i (by simpa using hi)
            rw [show r + 1 + i = r + (i + 1) by omega] at q
            exact q
      · rw [zps_x (f := f) hm (by omega) z] at h
        exact h M4 f4 (fun _ => b4) (fun w => absurd (show e + 1 = 0 from w) (by omega)) (fun e2 w => by
          have w : e + 1 = e2 + 1 := w
          have e3 : e2 = e := by omega
          subst e3
          exact ⟨he, 0, _, p4, .inr ⟨rfl, lt⟩⟩)
    · refine hW M4 ?_
      unfold lX7_run_19
      refine brf (by rw [p4.2.2.2.1]; decide) ?_
      rw [zps_n (f := f) hm] at h
      exact h M4 f4 (fun w => absurd (show e + 1 = 0 from w) (by omega)) (fun w => absurd (show e + 1 = 0 from w) (by omega)) (fun e2 w => by
        have w : e + 1 = e2 + 1 := w
        have e3 : e2 = e := by omega
        subst e3
        exact ⟨he, 1, _, p4, .inl rfl⟩)
end MW
