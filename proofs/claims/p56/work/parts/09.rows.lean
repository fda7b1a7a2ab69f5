/-! Rows by number: the layout of each fixed object, the nest mates' words, rows of rows, loops, joins. -/
theorem sl_0 : sw_lay 0 = sw_layC 0 := sw_lay_c (by decide)
theorem sl_1 : sw_lay 1 = sw_layC 1 := sw_lay_c (by decide)
theorem sl_2 : sw_lay 2 = sw_layC 2 := sw_lay_c (by decide)
theorem sl_3 : sw_lay 3 = sw_layC 3 := sw_lay_c (by decide)
theorem sl_4 : sw_lay 4 = sw_layC 4 := sw_lay_c (by decide)
theorem sl_5 : sw_lay 5 = sw_layC 5 := sw_lay_c (by decide)
theorem sl_6 : sw_lay 6 = sw_layC 6 := sw_lay_c (by decide)
theorem sl_7 : sw_lay 7 = sw_layC 7 := sw_lay_c (by decide)
theorem sl_8 : sw_lay 8 = sw_layC 8 := sw_lay_c (by decide)
theorem sl_9 : sw_lay 9 = sw_layC 9 := sw_lay_c (by decide)
theorem sl_10 : sw_lay 10 = sw_layC 10 := sw_lay_c (by decide)
theorem sl_11 : sw_lay 11 = sw_layC 11 := sw_lay_c (by decide)
theorem sl_12 : sw_lay 12 = sw_layC 12 := sw_lay_c (by decide)
theorem sl_13 : sw_lay 13 = sw_layC 13 := sw_lay_c (by decide)
theorem sl_14 : sw_lay 14 = sw_layC 14 := sw_lay_c (by decide)
theorem sl_15 : sw_lay 15 = sw_layC 15 := sw_lay_c (by decide)
theorem sl_16 : sw_lay 16 = sw_layC 16 := sw_lay_c (by decide)
theorem sl_17 : sw_lay 17 = sw_layC 17 := sw_lay_c (by decide)
theorem sl_31 : sw_lay 31 = sw_layC 31 := sw_lay_c (by decide)
theorem sl_32 : sw_lay 32 = sw_layC 32 := sw_lay_c (by decide)
theorem qn_X6_32 : Cond.methodLinkNest RX6 32 yX3_init RX6 ∈ lw_tbl := qt_1 _ (List.mem_of_getElem? (i := 152) rfl)
theorem qn_X6_39 : Cond.methodLinkNest RX6 39 yX2_init RX6 ∈ lw_tbl := qt_1 _ (List.mem_of_getElem? (i := 188) rfl)
theorem qn_X6_46 : Cond.methodLinkNest RX6 46 yX4_init RX6 ∈ lw_tbl := qt_1 _ (List.mem_of_getElem? (i := 198) rfl)
theorem qn_X6_53 : Cond.methodLinkNest RX6 53 yX1_init RX6 ∈ lw_tbl := qt_1 _ (List.mem_of_getElem? (i := 225) rfl)
theorem qn_X5_123 : Cond.methodLinkNest RX5 123 yX6_isFrame RX6 ∈ lw_tbl := qt_2 _ (List.mem_of_getElem? (i := 54) rfl)
theorem qn_X5_78 : Cond.methodLinkNest RX5 78 yX6_contains RX6 ∈ lw_tbl := qt_3 _ (List.mem_of_getElem? (i := 57) rfl)
theorem qn_X3_94 : Cond.methodLinkNest RX3 94 yX6_contains RX6 ∈ lw_tbl := qt_3 _ (List.mem_of_getElem? (i := 88) rfl)
theorem qn_X2_40 : Cond.methodLinkNest RX2 40 yX6_contains RX6 ∈ lw_tbl := qt_3 _ (List.mem_of_getElem? (i := 170) rfl)
theorem qn_X1_71 : Cond.methodLinkNest RX1 71 yX6_contains RX6 ∈ lw_tbl := qt_6 _ (List.mem_of_getElem? (i := 148) rfl)
theorem qn_X4_95 : Cond.methodLinkNest RX4 95 yX6_isFrame RX6 ∈ lw_tbl := qt_6 _ (List.mem_of_getElem? (i := 230) rfl)
theorem sw_vlt {i : Int32} {n : Nat} (h : vp_in i n) : i.toNatClampNeg < n := Nat.not_le.mp fun q => h (Or.inr q)
theorem sw_g_lt {i t : Nat} (hi : i < 11) (ht : t < 6) : sw_vk (sw_st i + 11 + t) := Or.inr (by unfold sw_st; omega)
theorem sw_o_lt {t : Nat} (ht : t < 13) : sw_vk (18 + t) := Or.inl (by omega)
theorem sw_lay_g (i : Nat) {t : Nat} (ht : t < 6) : sw_lay (sw_st i + 11 + t) = .inr (1, 8, none) := by
  rw [Nat.add_assoc, sw_lay_s i (11 + t) (by omega)]
  have h : t = 0 ∨ t = 1 ∨ t = 2 ∨ t = 3 ∨ t = 4 ∨ t = 5 := by omega
  rcases h with rfl | rfl | rfl | rfl | rfl | rfl <;> rfl
theorem sw_lay_o {t : Nat} (ht : t < 13) : sw_lay (18 + t) = .inr (1, 4, none) := by
  have h : t = 0 ∨ t = 1 ∨ t = 2 ∨ t = 3 ∨ t = 4 ∨ t = 5 ∨ t = 6 ∨ t = 7 ∨ t = 8 ∨ t = 9 ∨ t = 10 ∨ t = 11 ∨ t = 12 := by omega
  rcases h with rfl | rfl | rfl | rfl | rfl | rfl | rfl | rfl | rfl | rfl | rfl | rfl | rfl <;> rfl
theorem sw_sl_lt {i : Int32} (h : vp_in i 9) : 2 + i.toNatClampNeg < 11 := by have := sw_vlt h; omega
def sw_Qs (g : sG) (Q : Nat → sM → Prop) : Array Value → State → Outcome → State → Prop := va_Qr (S := sM × Nat) (fun u => Q u.2 u.1 ∧ u.2 < 18) (fun u a t => a = sw_sk g u.2 ∧ sw_Po g u.1 t) (sw_A g)
section SWO
variable {p : Program} {l : Launch} {e : Env} {R : Room} {s : State} {m : MethodId} {args : Array Value} {below : List Frame} {meth : Method} {c : Code} {H : Heap} {locs : List Loc} {cells slots : Nat} {Q : State → Prop}
variable {cc : ByteArray} {pc : Nat} {ls : Array Slot} {rest st0 : List Value} {g : sG} {M : sM} {c0 : Cond}
theorem sw_aaG {i : Nat} (hi : i < 11) (hx : p.tables.exec = Jvm.exec) (hb : c.code = cc) (hW : sw_Wd g M s H locs) {x : Int32} (hin : vp_in x 6) (hdg : decode cc pc = .ok (.aaload, 1))
    (kk : W p l e R s m args below meth c H locs cells slots Q (F0 m (pc + 1) ls (.ref (sw_ad g (sw_st i + 11 + x.toNatClampNeg)) :: rest))) : W p l e R s m args below meth c H locs cells slots Q (F0 m pc ls (.int x :: .ref (sw_ad g (sw_st i + 10)) :: rest)) := by
  refine sw_aa (k := sw_st i + 10) (t := 4) (n := 6) (b := sw_st i + 11) (st := 1) hx hb hW (sw_st_lt hi (by decide)) (sw_lay_s i 10 (by decide)) rfl rfl hin hdg ?_
  rw [Nat.one_mul]
  exact kk
theorem sw_aaO (hx : p.tables.exec = Jvm.exec) (hb : c.code = cc) (hW : sw_Wd g M s H locs) {x : Int32} (hin : vp_in x 13) (hdg : decode cc pc = .ok (.aaload, 1))
    (kk : W p l e R s m args below meth c H locs cells slots Q (F0 m (pc + 1) ls (.ref (sw_ad g (18 + x.toNatClampNeg)) :: rest))) : W p l e R s m args below meth c H locs cells slots Q (F0 m pc ls (.int x :: .ref (sw_ad g 17) :: rest)) := by
  refine sw_aa (k := 17) (t := 4) (n := 13) (b := 18) (st := 1) hx hb hW (Or.inl (by decide)) sl_17 rfl rfl hin hdg ?_
  rw [Nat.one_mul]
  exact kk
theorem sw_aaS (hx : p.tables.exec = Jvm.exec) (hb : c.code = cc) (hW : sw_Wd g M s H locs) {x : Int32} (hin : vp_in x 9) (hdg : decode cc pc = .ok (.aaload, 1))
    (kk : W p l e R s m args below meth c H locs cells slots Q (F0 m (pc + 1) ls (.ref (sw_ad g (sw_st (2 + x.toNatClampNeg))) :: rest))) : W p l e R s m args below meth c H locs cells slots Q (F0 m pc ls (.int x :: .ref (sw_ad g 2) :: rest)) := by
  refine sw_aa (k := 2) (t := 3) (n := 9) (b := 80) (st := 17) hx hb hW (Or.inl (by decide)) sl_2 rfl rfl hin hdg ?_
  rw [show 80 + 17 * x.toNatClampNeg = sw_st (2 + x.toNatClampNeg) by unfold sw_st; omega]
  exact kk
theorem sw_tdef (hx : p.tables.exec = Jvm.exec) (hb : c.code = cc) {dflt lo hi : Int} {offs : Array Int} {len : Nat} {x : Int32} {tgt : Nat} (hdg : decode cc pc = .ok (.tableswitch dflt lo hi offs, len)) (ho : ¬ (x.toInt < lo ∨ hi < x.toInt) → offs[(x.toInt - lo).toNat]? = some dflt) (ht : (pc : Int) + dflt = (tgt : Int))
    (k : W p l e R s m args below meth c H locs cells slots Q (F0 m tgt ls rest)) : W p l e R s m args below meth c H locs cells slots Q (F0 m pc ls (.int x :: rest)) := by
  by_cases hz : x.toInt < lo ∨ hi < x.toInt
  · exact lv_tableOut hx hb hdg hz ht k
  · exact lv_tableIn hx hb hdg (fun q => hz (Or.inl q)) (fun q => hz (Or.inr q)) (ho hz) ht k
theorem sw_ldcW (hx : p.tables.exec = Jvm.exec) (hb : c.code = cc) {own tx : String} {index q : Nat} (hown : s.vm.findClass own = some m.cls) (hZ : vk_R own index tx q s) (hdg : decode cc pc = .ok (.ldc_w index, 3))
    (k : W p l e R s m args below meth c H locs cells slots Q (F0 m (pc + 3) ls (.ref q :: rest))) : W p l e R s m args below meth c H locs cells slots Q (F0 m pc ls rest) := by
  intro T hT X
  obtain ⟨t, a1, b1⟩ := k T hT X
  exact ⟨t, X.ldcStringW hx hown (text := tx) (a := q) hZ.1 hZ.2 (g := F0 m pc ls rest) rfl (by rw [hb]; exact hdg) t a1, b1⟩
theorem sw_rq {ty : String} (hx : p.tables.exec = Jvm.exec) (hb : c.code = cc) (hr : meth.sig.returnType = some (.object ty)) (hlocks : meth.locks = false) (hW : sw_Wd g M s H locs) {v : Nat} {Q1 : Nat → Prop} (hv : v < 18) (hq : Q1 v) (hdg : decode cc pc = .ok (.areturn, 1)) : W p l e R s m args below meth c H locs cells slots (MQ below (sw_Qs g (fun r M1 => Q1 r ∧ M1 = M)) args s cells slots (sw_A g)) (F0 m pc ls [.ref (sw_sk g v)]) :=
  W.aret hx hb hr (Or.inl ⟨_, rfl⟩) (Or.inr ⟨_, rfl⟩) (fun t ht hW' => ⟨⟨(M, v), sw_sk g v, rfl, ⟨⟨hq, rfl⟩, hv⟩, rfl, by show va_P _ _ _ _; rw [ht]; exact hW.1⟩, hW.2.1.F ht⟩) hW.2.1.2.2 hdg hlocks
theorem sw_kq {a : Array Value} {mc ms : Nat} {Q1 : Nat → sM → Prop} (hr : va_Run p l e R s m args below meth c H locs cells slots mc ms (F0 m pc ls st0) rest (sw_Qs g Q1 a) (sw_A g)) (hW : sw_Wd g M s H locs)
    (kk : ∀ (r : Nat) (hr : r < 18) (M : sM) (H : Heap) (locs : List Loc), Q1 r M → sw_Wd g M s H locs → W p l e R s m args below meth c H locs (cells + mc) (slots + ms) Q (F0 m (pc + 3) ls (.ref (sw_sk g r) :: rest))) : W p l e R s m args below meth c H locs cells slots Q (F0 m pc ls st0) := by
  refine va_callr hr hW.2.1 (fun q _ h => h) (fun q h => h) (fun u a t H1 locs1 ht hvm hw hB hz hk hS => ?_)
  obtain ⟨e1, e2⟩ := hB
  rw [e1]
  exact kk u.2 hw.2 u.1 H1 locs1 hw.1 ⟨by rw [← ht]; exact e2, hS, hW.2.2⟩
theorem sw_jn_M {jp nL : Nat} {J : sM → Prop} {Lf : sM → List (Nat × Value)} {Sf : sM → List Value} {fr : JFrame} (hj : ∀ (M1 : sM) (H : Heap) (locs : List Loc) (ls : Array Slot), J M1 → sw_Wd g M1 s H locs → lv_has ls nL (Lf M1) → W p l e R s m args below meth c H locs cells slots Q (F0 m jp ls (Sf M1))) (k : (∀ (M1 : sM) (H : Heap) (locs : List Loc) (ls : Array Slot), J M1 → sw_Wd g M1 s H locs → lv_has ls nL (Lf M1) → W p l e R s m args below meth c H locs cells slots Q (F0 m jp ls (Sf M1))) → W p l e R s m args below meth c H locs cells slots Q fr) : W p l e R s m args below meth c H locs cells slots Q fr := k hj
theorem sw_jn_i {jp nL : Nat} {J : Int32 → Prop} {Lf : Int32 → List (Nat × Value)} {Sf : Int32 → List Value} {fr : JFrame} (hj : ∀ (a0 : Int32) (H : Heap) (locs : List Loc) (ls : Array Slot), J a0 → sw_Wd g M s H locs → lv_has ls nL (Lf a0) → W p l e R s m args below meth c H locs cells slots Q (F0 m jp ls (Sf a0))) (k : (∀ (a0 : Int32) (H : Heap) (locs : List Loc) (ls : Array Slot), J a0 → sw_Wd g M s H locs → lv_has ls nL (Lf a0) → W p l e R s m args below meth c H locs cells slots Q (F0 m jp ls (Sf a0))) → W p l e R s m args below meth c H locs cells slots Q fr) : W p l e R s m args below meth c H locs cells slots Q fr := k hj
theorem sw_jn_ii {jp nL : Nat} {J : Int32 → Int32 → Prop} {Lf : Int32 → Int32 → List (Nat × Value)} {Sf : Int32 → Int32 → List Value} {fr : JFrame} (hj : ∀ (a0 : Int32) (a1 : Int32) (H : Heap) (locs : List Loc) (ls : Array Slot), J a0 a1 → sw_Wd g M s H locs → lv_has ls nL (Lf a0 a1) → W p l e R s m args below meth c H locs cells slots Q (F0 m jp ls (Sf a0 a1))) (k : (∀ (a0 : Int32) (a1 : Int32) (H : Heap) (locs : List Loc) (ls : Array Slot), J a0 a1 → sw_Wd g M s H locs → lv_has ls nL (Lf a0 a1) → W p l e R s m args below meth c H locs cells slots Q (F0 m jp ls (Sf a0 a1))) → W p l e R s m args below meth c H locs cells slots Q fr) : W p l e R s m args below meth c H locs cells slots Q fr := k hj
theorem sw_lp_i {hd nL n0 : Nat} {I : Nat → Int32 → Prop} {Lf : Int32 → List (Nat × Value)} {a0 : Int32} (h : I n0 a0) (hW : sw_Wd g M s H locs) (hl : lv_has ls nL (Lf a0)) (h0 : ∀ (a0 : Int32), ¬ I 0 a0) (hs : ∀ n : Nat, (∀ (a0 : Int32) (H : Heap) (locs : List Loc) (ls : Array Slot), I n a0 → sw_Wd g M s H locs → lv_has ls nL (Lf a0) → W p l e R s m args below meth c H locs cells slots Q (F0 m hd ls st0)) → ∀ (a0 : Int32) (H : Heap) (locs : List Loc) (ls : Array Slot), I (n + 1) a0 → sw_Wd g M s H locs → lv_has ls nL (Lf a0) → W p l e R s m args below meth c H locs cells slots Q (F0 m hd ls st0)) : W p l e R s m args below meth c H locs cells slots Q (F0 m hd ls st0) := by
  have key : ∀ (n : Nat), ∀ (a0 : Int32) (H : Heap) (locs : List Loc) (ls : Array Slot), I n a0 → sw_Wd g M s H locs → lv_has ls nL (Lf a0) → W p l e R s m args below meth c H locs cells slots Q (F0 m hd ls st0) := by
    intro n
    induction n with
    | zero => intro a0 H locs ls h; exact absurd h (h0 a0)
    | succ n ih => exact hs n ih
  exact key n0 a0 H locs ls h hW hl
theorem sw_lp_iM {hd nL n0 : Nat} {I : Nat → Int32 → sM → Prop} {Lf : Int32 → sM → List (Nat × Value)} {a0 : Int32} {M1 : sM} (h : I n0 a0 M1) (hW : sw_Wd g M1 s H locs) (hl : lv_has ls nL (Lf a0 M1)) (h0 : ∀ (a0 : Int32) (M1 : sM), ¬ I 0 a0 M1) (hs : ∀ n : Nat, (∀ (a0 : Int32) (M1 : sM) (H : Heap) (locs : List Loc) (ls : Array Slot), I n a0 M1 → sw_Wd g M1 s H locs → lv_has ls nL (Lf a0 M1) → W p l e R s m args below meth c H locs cells slots Q (F0 m hd ls st0)) → ∀ (a0 : Int32) (M1 : sM) (H : Heap) (locs : List Loc) (ls : Array Slot), I (n + 1) a0 M1 → sw_Wd g M1 s H locs → lv_has ls nL (Lf a0 M1) → W p l e R s m args below meth c H locs cells slots Q (F0 m hd ls st0)) : W p l e R s m args below meth c H locs cells slots Q (F0 m hd ls st0) := by
  have key : ∀ (n : Nat), ∀ (a0 : Int32) (M1 : sM) (H : Heap) (locs : List Loc) (ls : Array Slot), I n a0 M1 → sw_Wd g M1 s H locs → lv_has ls nL (Lf a0 M1) → W p l e R s m args below meth c H locs cells slots Q (F0 m hd ls st0) := by
    intro n
    induction n with
    | zero => intro a0 M1 H locs ls h; exact absurd h (h0 a0 M1)
    | succ n ih => exact hs n ih
  exact key n0 a0 M1 H locs ls h hW hl
theorem sw_lp_ii {hd nL n0 : Nat} {I : Nat → Int32 → Int32 → Prop} {Lf : Int32 → Int32 → List (Nat × Value)} {a0 : Int32} {a1 : Int32} (h : I n0 a0 a1) (hW : sw_Wd g M s H locs) (hl : lv_has ls nL (Lf a0 a1)) (h0 : ∀ (a0 : Int32) (a1 : Int32), ¬ I 0 a0 a1) (hs : ∀ n : Nat, (∀ (a0 : Int32) (a1 : Int32) (H : Heap) (locs : List Loc) (ls : Array Slot), I n a0 a1 → sw_Wd g M s H locs → lv_has ls nL (Lf a0 a1) → W p l e R s m args below meth c H locs cells slots Q (F0 m hd ls st0)) → ∀ (a0 : Int32) (a1 : Int32) (H : Heap) (locs : List Loc) (ls : Array Slot), I (n + 1) a0 a1 → sw_Wd g M s H locs → lv_has ls nL (Lf a0 a1) → W p l e R s m args below meth c H locs cells slots Q (F0 m hd ls st0)) : W p l e R s m args below meth c H locs cells slots Q (F0 m hd ls st0) := by
  have key : ∀ (n : Nat), ∀ (a0 : Int32) (a1 : Int32) (H : Heap) (locs : List Loc) (ls : Array Slot), I n a0 a1 → sw_Wd g M s H locs → lv_has ls nL (Lf a0 a1) → W p l e R s m args below meth c H locs cells slots Q (F0 m hd ls st0) := by
    intro n
    induction n with
    | zero => intro a0 a1 H locs ls h; exact absurd h (h0 a0 a1)
    | succ n ih => exact hs n ih
  exact key n0 a0 a1 H locs ls h hW hl
theorem sw_lp_iiM {hd nL n0 : Nat} {I : Nat → Int32 → Int32 → sM → Prop} {Lf : Int32 → Int32 → sM → List (Nat × Value)} {a0 : Int32} {a1 : Int32} {M1 : sM} (h : I n0 a0 a1 M1) (hW : sw_Wd g M1 s H locs) (hl : lv_has ls nL (Lf a0 a1 M1)) (h0 : ∀ (a0 : Int32) (a1 : Int32) (M1 : sM), ¬ I 0 a0 a1 M1) (hs : ∀ n : Nat, (∀ (a0 : Int32) (a1 : Int32) (M1 : sM) (H : Heap) (locs : List Loc) (ls : Array Slot), I n a0 a1 M1 → sw_Wd g M1 s H locs → lv_has ls nL (Lf a0 a1 M1) → W p l e R s m args below meth c H locs cells slots Q (F0 m hd ls st0)) → ∀ (a0 : Int32) (a1 : Int32) (M1 : sM) (H : Heap) (locs : List Loc) (ls : Array Slot), I (n + 1) a0 a1 M1 → sw_Wd g M1 s H locs → lv_has ls nL (Lf a0 a1 M1) → W p l e R s m args below meth c H locs cells slots Q (F0 m hd ls st0)) : W p l e R s m args below meth c H locs cells slots Q (F0 m hd ls st0) := by
  have key : ∀ (n : Nat), ∀ (a0 : Int32) (a1 : Int32) (M1 : sM) (H : Heap) (locs : List Loc) (ls : Array Slot), I n a0 a1 M1 → sw_Wd g M1 s H locs → lv_has ls nL (Lf a0 a1 M1) → W p l e R s m args below meth c H locs cells slots Q (F0 m hd ls st0) := by
    intro n
    induction n with
    | zero => intro a0 a1 M1 H locs ls h; exact absurd h (h0 a0 a1 M1)
    | succ n ih => exact hs n ih
  exact key n0 a0 a1 M1 H locs ls h hW hl
theorem sw_lp_iii {hd nL n0 : Nat} {I : Nat → Int32 → Int32 → Int32 → Prop} {Lf : Int32 → Int32 → Int32 → List (Nat × Value)} {a0 : Int32} {a1 : Int32} {a2 : Int32} (h : I n0 a0 a1 a2) (hW : sw_Wd g M s H locs) (hl : lv_has ls nL (Lf a0 a1 a2)) (h0 : ∀ (a0 : Int32) (a1 : Int32) (a2 : Int32), ¬ I 0 a0 a1 a2) (hs : ∀ n : Nat, (∀ (a0 : Int32) (a1 : Int32) (a2 : Int32) (H : Heap) (locs : List Loc) (ls : Array Slot), I n a0 a1 a2 → sw_Wd g M s H locs → lv_has ls nL (Lf a0 a1 a2) → W p l e R s m args below meth c H locs cells slots Q (F0 m hd ls st0)) → ∀ (a0 : Int32) (a1 : Int32) (a2 : Int32) (H : Heap) (locs : List Loc) (ls : Array Slot), I (n + 1) a0 a1 a2 → sw_Wd g M s H locs → lv_has ls nL (Lf a0 a1 a2) → W p l e R s m args below meth c H locs cells slots Q (F0 m hd ls st0)) : W p l e R s m args below meth c H locs cells slots Q (F0 m hd ls st0) := by
  have key : ∀ (n : Nat), ∀ (a0 : Int32) (a1 : Int32) (a2 : Int32) (H : Heap) (locs : List Loc) (ls : Array Slot), I n a0 a1 a2 → sw_Wd g M s H locs → lv_has ls nL (Lf a0 a1 a2) → W p l e R s m args below meth c H locs cells slots Q (F0 m hd ls st0) := by
    intro n
    induction n with
    | zero => intro a0 a1 a2 H locs ls h; exact absurd h (h0 a0 a1 a2)
    | succ n ih => exact hs n ih
  exact key n0 a0 a1 a2 H locs ls h hW hl
theorem sw_lp_iiiM {hd nL n0 : Nat} {I : Nat → Int32 → Int32 → Int32 → sM → Prop} {Lf : Int32 → Int32 → Int32 → sM → List (Nat × Value)} {a0 : Int32} {a1 : Int32} {a2 : Int32} {M1 : sM} (h : I n0 a0 a1 a2 M1) (hW : sw_Wd g M1 s H locs) (hl : lv_has ls nL (Lf a0 a1 a2 M1)) (h0 : ∀ (a0 : Int32) (a1 : Int32) (a2 : Int32) (M1 : sM), ¬ I 0 a0 a1 a2 M1) (hs : ∀ n : Nat, (∀ (a0 : Int32) (a1 : Int32) (a2 : Int32) (M1 : sM) (H : Heap) (locs : List Loc) (ls : Array Slot), I n a0 a1 a2 M1 → sw_Wd g M1 s H locs → lv_has ls nL (Lf a0 a1 a2 M1) → W p l e R s m args below meth c H locs cells slots Q (F0 m hd ls st0)) → ∀ (a0 : Int32) (a1 : Int32) (a2 : Int32) (M1 : sM) (H : Heap) (locs : List Loc) (ls : Array Slot), I (n + 1) a0 a1 a2 M1 → sw_Wd g M1 s H locs → lv_has ls nL (Lf a0 a1 a2 M1) → W p l e R s m args below meth c H locs cells slots Q (F0 m hd ls st0)) : W p l e R s m args below meth c H locs cells slots Q (F0 m hd ls st0) := by
  have key : ∀ (n : Nat), ∀ (a0 : Int32) (a1 : Int32) (a2 : Int32) (M1 : sM) (H : Heap) (locs : List Loc) (ls : Array Slot), I n a0 a1 a2 M1 → sw_Wd g M1 s H locs → lv_has ls nL (Lf a0 a1 a2 M1) → W p l e R s m args below meth c H locs cells slots Q (F0 m hd ls st0) := by
    intro n
    induction n with
    | zero => intro a0 a1 a2 M1 H locs ls h; exact absurd h (h0 a0 a1 a2 M1)
    | succ n ih => exact hs n ih
  exact key n0 a0 a1 a2 M1 H locs ls h hW hl
theorem sw_lp_li {hd nL n0 : Nat} {I : Nat → Int64 → Int32 → Prop} {Lf : Int64 → Int32 → List (Nat × Value)} {a0 : Int64} {a1 : Int32} (h : I n0 a0 a1) (hW : sw_Wd g M s H locs) (hl : lv_has ls nL (Lf a0 a1)) (h0 : ∀ (a0 : Int64) (a1 : Int32), ¬ I 0 a0 a1) (hs : ∀ n : Nat, (∀ (a0 : Int64) (a1 : Int32) (H : Heap) (locs : List Loc) (ls : Array Slot), I n a0 a1 → sw_Wd g M s H locs → lv_has ls nL (Lf a0 a1) → W p l e R s m args below meth c H locs cells slots Q (F0 m hd ls st0)) → ∀ (a0 : Int64) (a1 : Int32) (H : Heap) (locs : List Loc) (ls : Array Slot), I (n + 1) a0 a1 → sw_Wd g M s H locs → lv_has ls nL (Lf a0 a1) → W p l e R s m args below meth c H locs cells slots Q (F0 m hd ls st0)) : W p l e R s m args below meth c H locs cells slots Q (F0 m hd ls st0) := by
  have key : ∀ (n : Nat), ∀ (a0 : Int64) (a1 : Int32) (H : Heap) (locs : List Loc) (ls : Array Slot), I n a0 a1 → sw_Wd g M s H locs → lv_has ls nL (Lf a0 a1) → W p l e R s m args below meth c H locs cells slots Q (F0 m hd ls st0) := by
    intro n
    induction n with
    | zero => intro a0 a1 H locs ls h; exact absurd h (h0 a0 a1)
    | succ n ih => exact hs n ih
  exact key n0 a0 a1 H locs ls h hW hl
end SWO
