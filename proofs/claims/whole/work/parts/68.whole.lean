set_option maxRecDepth 20000 in
theorem whole_start {p : Program} {e : Env} {s : State} {m : MethodId} {below : List Frame} {meth : Method} {c : Code} (l : Launch) (hflags : l.flags = flags0) {b L : Nat} {xs : Nat → Int32} (hL : L ≤ 2560) (C0 : lw_At p s m meth c b L xs) : W p l e room_1 s m #[Value.ref b] below meth c s.heap [] 0 0 (lw_Z below #[Value.ref b] s) (entryFrame m ([Value.ref b] : List Value).toArray 9) := by
  obtain ⟨hx, hb, hr, hml, hown, hts0, hX, hbl, hlocks, hgv⟩ := C0
  have hst : l.stackTraces = false := by
    unfold Launch.stackTraces
    rw [hflags]
    decide +kernel
  have hts : ∀ w ∈ Cond.codeWith yL_addDoor cL_addDoor 5 (some .int) [(0, 10, 13, 13), (0, 10, 17, 15)] :: sw_all, w.before #[Value.ref b] s = true := fun w hw => by
    rcases List.mem_cons.mp hw with rfl | hw
    · exact hts0 _ (sw_q_tbl q_1416)
    · exact hts0 _ (sw_q_tbl hw)
  have hown : s.vm.findClass RL = some m.cls := hown
  obtain ⟨D, ac, hB⟩ := z_B hts0
  have hl := lv_entry ([.ref b]) (n := 9) (Nat.le_of_ble_eq_true rfl)
  rw [lg_entry_eq]
  generalize (lg_sl ([.ref b]) ++ List.replicate (9 - (lg_sl ([.ref b])).length) Slot.unset).toArray = ls at hl ⊢
  have hl : lv_has ls 9 [(0, .ref b)] := hl
  refine zn_new (ci := 6) hx hb hts hown qf_6 tyX6 tyX6_ok rfl q_27 q_28 q_2 hB (fs := [.null, .null, .int 0, .null, .null, .null, .null, .null, .int 0, .int 0]) (by decide) (Nat.le_of_ble_eq_true rfl) (Nat.le_of_ble_eq_true rfl) dL_law_0 (fun q1 H hB => ?_)
  refine lv_dup hx hb dL_law_3 rfl ?_
  refine zn_call hx hb hml hown hts (kc_X6 l D ac) ci_X6 q_29 rfl rfl ⟨(Nat.le_of_ble_eq_true rfl), (Nat.le_of_ble_eq_true rfl)⟩ hB hl.1 (Nat.le_of_ble_eq_true rfl) dL_law_4 ⟨(Nat.le_of_ble_eq_true rfl), (Nat.le_of_ble_eq_true rfl)⟩ (fun u1 H locs hB => ?_)
  refine lv_astore_n (lv' := [(1, .ref q1), (0, .ref b)]) hx hb dL_law_7 rfl hl (Nat.le_of_ble_eq_true rfl) rfl (fun ls hl => ?_)
  refine zn_new (ci := 7) hx hb hts hown qf_7 tyX7 tyX7_ok rfl q_938 q_939 q_9 hB (fs := [.null, .null, .null, .int 0, .null, .int 0, .int 0, .null, .null, .null, .null, .null, .null, .int 0, .int 0, .int 0, .int 0, .int 0, .null, .int 0, .null, .int 0]) (by decide) (Nat.le_of_ble_eq_true rfl) (Nat.le_of_ble_eq_true rfl) dL_law_8 (fun q2 H hB => ?_)
  refine lv_dup hx hb dL_law_11 rfl ?_
  refine zn_call hx hb hml hown hts (kc_X7 l D ac) ci_X7 q_940 rfl rfl ⟨(Nat.le_of_ble_eq_true rfl), (Nat.le_of_ble_eq_true rfl)⟩ hB hl.1 (Nat.le_of_ble_eq_true rfl) dL_law_12 ⟨(Nat.le_of_ble_eq_true rfl), (Nat.le_of_ble_eq_true rfl)⟩ (fun u2 H locs hB => ?_)
  refine lv_astore_n (lv' := [(2, .ref q2), (1, .ref q1), (0, .ref b)]) hx hb dL_law_15 rfl hl (Nat.le_of_ble_eq_true rfl) rfl (fun ls hl => ?_)
  refine lv_iconst (v := 1) hx hb dL_law_16 (by decide) ?_
  refine zn_a hx hb hts (atype := .long) qa_long 5 rfl rfl hB (a0 := (1, .inr (.inl (fun _ => 0)))) (fun _ => rfl) (by decide) (by decide) (by decide) (Nat.le_of_ble_eq_true rfl) (Nat.le_of_ble_eq_true rfl) dL_law_17 (fun q3 H hB => ?_)
  refine lv_astore_n (lv' := [(3, .ref q3), (2, .ref q2), (1, .ref q1), (0, .ref b)]) hx hb dL_law_19 rfl hl (Nat.le_of_ble_eq_true rfl) rfl (fun ls hl => ?_)
  refine lv_iconst (v := 1) hx hb dL_law_20 (by decide) ?_
  refine zn_a hx hb hts (atype := .double) qa_double 6 rfl rfl hB (a0 := (1, .inr (.inr (.inr (.inl (fun _ => 0)))))) (fun _ => rfl) (by decide) (by decide) (by decide) (Nat.le_of_ble_eq_true rfl) (Nat.le_of_ble_eq_true rfl) dL_law_21 (fun q4 H hB => ?_)
  refine lv_astore (lv' := [(4, .ref q4), (3, .ref q3), (2, .ref q2), (1, .ref q1), (0, .ref b)]) hx hb dL_law_23 hl (Nat.le_of_ble_eq_true rfl) rfl (fun ls hl => ?_)
  refine lv_iconst (v := 0) hx hb dL_law_25 (by decide) ?_
  refine lv_istore (lv' := [(5, .int (nI (5 * 0))), (4, .ref q4), (3, .ref q3), (2, .ref q2), (1, .ref q1), (0, .ref b)]) hx hb dL_law_26 hl (Nat.le_of_ble_eq_true rfl) rfl (fun ls hl => ?_)
  rw [List.nil_append, zT_eq] at hB
  obtain ⟨g, g1, a0, a33, a233, a234, hW⟩ := z_W hts0 hgv hB
  have hl : lv_has ls 9 (zLs g b (nI (5 * 0))) := by
    rw [← a0, ← a33, ← a233, ← a234] at hl
    exact lv_sub hl [0, 5, 4, 3, 2, 1] rfl
  have hbA : ¬ sw_A g b := by
    show ¬ g.1 ≤ b
    rw [g1]; omega
  refine kloop (g := g) (xs := xs) (L := L) ⟨hx, hb, hml, hown, hts, hX, hbl, hbA, hst⟩ hL (fun M o d H locs ls cells slots hc hs hW => ?_) 513 0 (zqM u1) _ _ H locs ls _ _ rfl (by omega) (by decide) (by decide) hl hW ⟨zz0, zz_C zqM_ok, zz_M zqM_ok, zz_G⟩
  refine lv_iconst (v := 1) hx hb dL_law_2879 (by decide) ?_
  refine va_forget (fun q hq => by
    have := hW.2.1.2.2 q hq
    show s.heap.size ≤ q.base
    rw [← g1]; exact this) ?_
  refine W.widen (k := 603072) (n := 7211114) hc hs ?_
  exact lw_ret (d0 := s.drawn) (Drawn.sameBut.refl s.drawn lw_cs) hx hb hr hlocks dL_law_2880
