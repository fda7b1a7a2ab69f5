/-! The law's walk. -/
def wL_law (L : Nat) (xs : Nat → Int32) : Prop := wL_drawn L xs zz0 (fun z => wL_doors z (fun r => r = 1) ∧ wL_examiners z (fun r => r = 1) ∧ wL_panels_ z (fun r => r = 1) ∧ wL_totals z (fun r => r = 1) ∧ wL_lines z (fun r z' => r = 1 ∧ wL_undone L xs z' (fun r _ => r = 1)))
set_option maxRecDepth 20000 in
theorem whole_walk {p : Program} {e : Env} {s : State} {m : MethodId} {below : List Frame} {meth : Method} {c : Code} (l : Launch) (hflags : l.flags = flags0) {b L : Nat} {xs : Nat → Int32} (h : wL_law L xs) (C0 : lw_At p s m meth c b L xs) : W p l e room_1 s m #[Value.ref b] below meth c s.heap [] 0 0 (lw_Z below #[Value.ref b] s) (entryFrame m ([Value.ref b] : List Value).toArray 2) := by
  obtain ⟨hx, hb, hr, hml, hown, hts0, hX, hbl, hlocks, hgv⟩ := C0
  have hst : l.stackTraces = false := by
    unfold Launch.stackTraces
    rw [hflags]
    decide +kernel
  have hts : ∀ w ∈ Cond.initialized RL :: sw_all, w.before #[Value.ref b] s = true := fun w hw => by
    rcases List.mem_cons.mp hw with rfl | hw
    · exact hts0 _ (sw_q_tbl q_1)
    · exact hts0 _ (sw_q_tbl hw)
  have hown : s.vm.findClass RL = some m.cls := hown
  obtain ⟨D, ac, hB⟩ := z_B hts0
  have hA : ∀ a : Nat, a < s.heap.size → ¬ s.heap.size ≤ a := fun a h => by omega
  obtain ⟨sk, sv, hstr⟩ := z_str hA hts0 hgv
  have hF0 : zF0 s.heap.size D ac sk sv s s.heap := fun g e1 e2 e3 e4 e5 e6 e7 => by
    have hz := z_sta hA hts0 hgv g e1 e6
    refine ⟨?_, e7, Nat.le_of_eq e1, hz.1, hz.2.1, hz.2.2, hstr g e1 e6 e4 e5, hB.2.2.2.2.2.2.2⟩
    rw [e3, show sw_ty g = zty ac by rw [← zty_sw, e2]]
    exact hB.1
  have hSt : zSt s.heap.size D ac sk sv b L xs s := ⟨rfl, ⟨hB.1, hB.2.2.2.2.2⟩, hF0, hX, hbl⟩
  have hl := lv_entry ([.ref b]) (n := 2) (Nat.le_of_ble_eq_true rfl)
  rw [lg_entry_eq]
  generalize (lg_sl ([.ref b]) ++ List.replicate (2 - (lg_sl ([.ref b])).length) Slot.unset).toArray = ls at hl ⊢
  have hl : lv_has ls 2 [(0, .ref b)] := hl
  refine lv_aload_n hx hb dL_law_0 rfl (lv_at hl 0 rfl) ?_
  refine va_callr (rest := []) (va_runS (As := [.ref b]) (rest := []) ⟨hx, hb, hml, hown, hts⟩ (kL_drawn l hst s.heap.size D ac sk sv b L xs _ h) (sw_cwS hts cs_L_drawn q_31 rfl rfl ⟨(Nat.le_of_ble_eq_true rfl), (Nat.le_of_ble_eq_true rfl)⟩) ⟨zSt.blind, fun U hU hW => ⟨rfl, hSt.go hU hW⟩⟩ rfl rfl hl.1 rfl (lv_room (Nat.le_of_ble_eq_true rfl)) dL_law_1 ⟨(Nat.le_of_ble_eq_true rfl), (Nat.le_of_ble_eq_true rfl)⟩) (va_S.rf (A := fun q => s.heap.size ≤ q)) (fun q _ h => h) (fun q h => h) (fun u ra t H locs ht hvm h hR hz hk hS => ?_)
  obtain ⟨g, z⟩ := u
  obtain ⟨era, hg, hfx, hin, hzH⟩ := hR
  have h : wL_doors z (fun r => r = 1) ∧ wL_examiners z (fun r => r = 1) ∧ wL_panels_ z (fun r => r = 1) ∧ wL_totals z (fun r => r = 1) ∧ wL_lines z (fun r z' => r = 1 ∧ wL_undone L xs z' (fun r _ => r = 1)) := h
  have era : ra = sw_ad g 0 := era
  rw [era]
  obtain ⟨h1, h2, h3, h4, h⟩ := h
  have eA := zA_eq hg.1 hfx
  have hW : zl_Wd g [] z s H locs := ⟨by rw [← ht]; exact hzH, zl_E0, by rw [eA]; exact hS, hF0 g hg.1 hg.2.1 hg.2.2.1 hg.2.2.2.1 hg.2.2.2.2 hfx hin⟩
  have hsc : zl_sc g b L xs s := ⟨hX, hbl, fun h9 => by rw [eA] at h9; exact absurd h9 (Nat.not_le.mpr hbl)⟩
  refine lv_astore_n (lv' := [(1, .ref (sw_ad g 0)), (0, .ref b)]) hx hb dL_law_4 rfl hl (Nat.le_of_ble_eq_true rfl) rfl (fun ls hl => ?_)
  refine lv_aload_n hx hb dL_law_5 rfl (lv_at hl 0 rfl) ?_
  refine lv_ifnull hx hb dL_law_6 ?_
  refine lv_aload_n hx hb dL_law_9 rfl (lv_at hl 0 rfl) ?_
  refine zl_ki (g := g) (rest := []) (zl_runS (g := g) (As := [.ref (sw_ad g 0)]) (rest := []) hx hb hml hown hts (kL_doors l hst (zl_re g H.size) z _ h1) cs_L_doors q_484 rfl rfl ⟨(Nat.le_of_ble_eq_true rfl), (Nat.le_of_ble_eq_true rfl)⟩ hW rfl hl.1 rfl (Nat.le_of_ble_eq_true rfl) dL_law_10 ⟨(Nat.le_of_ble_eq_true rfl), (Nat.le_of_ble_eq_true rfl)⟩) hW (fun r z9 H locs h9 hW => ?_)
  obtain ⟨e8, e9⟩ := h9
  rw [e9] at hW
  rw [e8]
  refine lv_if_eq (tgt := 56) hx hb dL_law_13 (by decide) (fun k => absurd k (by decide)) (fun _ => ?_)
  refine lv_aload_n hx hb dL_law_16 rfl (lv_at hl 0 rfl) ?_
  refine zl_ki (g := g) (rest := []) (zl_runS (g := g) (As := [.ref (sw_ad g 0)]) (rest := []) hx hb hml hown hts (kL_examiners l hst (zl_re g H.size) z _ h2) cs_L_examiners q_602 rfl rfl ⟨(Nat.le_of_ble_eq_true rfl), (Nat.le_of_ble_eq_true rfl)⟩ hW rfl hl.1 rfl (Nat.le_of_ble_eq_true rfl) dL_law_17 ⟨(Nat.le_of_ble_eq_true rfl), (Nat.le_of_ble_eq_true rfl)⟩) hW (fun r z9 H locs h9 hW => ?_)
  obtain ⟨e8, e9⟩ := h9
  rw [e9] at hW
  rw [e8]
  refine lv_if_eq (tgt := 56) hx hb dL_law_20 (by decide) (fun k => absurd k (by decide)) (fun _ => ?_)
  refine lv_aload_n hx hb dL_law_23 rfl (lv_at hl 0 rfl) ?_
  refine zl_ki (g := g) (rest := []) (zl_runS (g := g) (As := [.ref (sw_ad g 0)]) (rest := []) hx hb hml hown hts (kL_panels_ l hst (zl_re g H.size) z _ h3) cs_L_panels_ q_659 rfl rfl ⟨(Nat.le_of_ble_eq_true rfl), (Nat.le_of_ble_eq_true rfl)⟩ hW rfl hl.1 rfl (Nat.le_of_ble_eq_true rfl) dL_law_24 ⟨(Nat.le_of_ble_eq_true rfl), (Nat.le_of_ble_eq_true rfl)⟩) hW (fun r z9 H locs h9 hW => ?_)
  obtain ⟨e8, e9⟩ := h9
  rw [e9] at hW
  rw [e8]
  refine lv_if_eq (tgt := 56) hx hb dL_law_27 (by decide) (fun k => absurd k (by decide)) (fun _ => ?_)
  refine lv_aload_n hx hb dL_law_30 rfl (lv_at hl 0 rfl) ?_
  refine zl_ki (g := g) (rest := []) (zl_runS (g := g) (As := [.ref (sw_ad g 0)]) (rest := []) hx hb hml hown hts (kL_totals l hst (zl_re g H.size) z _ h4) cs_L_totals q_702 rfl rfl ⟨(Nat.le_of_ble_eq_true rfl), (Nat.le_of_ble_eq_true rfl)⟩ hW rfl hl.1 rfl (Nat.le_of_ble_eq_true rfl) dL_law_31 ⟨(Nat.le_of_ble_eq_true rfl), (Nat.le_of_ble_eq_true rfl)⟩) hW (fun r z9 H locs h9 hW => ?_)
  obtain ⟨e8, e9⟩ := h9
  rw [e9] at hW
  rw [e8]
  refine lv_if_eq (tgt := 56) hx hb dL_law_34 (by decide) (fun k => absurd k (by decide)) (fun _ => ?_)
  refine lv_aload_n hx hb dL_law_37 rfl (lv_at hl 0 rfl) ?_
  refine zl_ki (g := g) (rest := []) (zl_runS (g := g) (As := [.ref (sw_ad g 0)]) (rest := []) hx hb hml hown hts (kL_lines l hst (zl_re g H.size) z _ h) cs_L_lines q_770 rfl rfl ⟨(Nat.le_of_ble_eq_true rfl), (Nat.le_of_ble_eq_true rfl)⟩ hW rfl hl.1 rfl (Nat.le_of_ble_eq_true rfl) dL_law_38 ⟨(Nat.le_of_ble_eq_true rfl), (Nat.le_of_ble_eq_true rfl)⟩) hW (fun r z9 H locs h9 hW => ?_)
  obtain ⟨e8, h⟩ := h9
  rw [e8]
  refine lv_if_eq (tgt := 56) hx hb dL_law_41 (by decide) (fun k => absurd k (by decide)) (fun _ => ?_)
  clear h1 h2 h3 h4
  generalize z9 = z at h hW
  refine lv_aload_n hx hb dL_law_44 rfl (lv_at hl 1 rfl) ?_
  refine lv_aload_n hx hb dL_law_45 rfl (lv_at hl 0 rfl) ?_
  refine zl_ki (g := g) (rest := []) (zl_runSs (g := g) (As := [.ref b, .ref (sw_ad g 0)]) (rest := []) hx hb hml hown hts (kL_undone l hst (zl_re g H.size) b L xs z _ h) cs_L_undone q_1061 rfl rfl ⟨(Nat.le_of_ble_eq_true rfl), (Nat.le_of_ble_eq_true rfl)⟩ hW hsc rfl hl.1 rfl (Nat.le_of_ble_eq_true rfl) dL_law_46 ⟨(Nat.le_of_ble_eq_true rfl), (Nat.le_of_ble_eq_true rfl)⟩) hW (fun r z9 H locs h9 hW => ?_)
  rw [show r = 1 from h9]
  refine lv_if_eq (tgt := 56) hx hb dL_law_49 (by decide) (fun k => absurd k (by decide)) (fun _ => ?_)
  refine lv_iconst (v := 1) hx hb dL_law_52 (by decide) ?_
  refine lv_goto (tgt := 57) hx hb dL_law_53 (by decide) ?_
  refine va_forget (fun q hq => by
    have h9 := hW.2.2.1.2.2 q hq
    rw [eA] at h9
    exact h9) ?_
  refine W.widen (k := room_1.cells) (n := room_1.slots) (Nat.le_of_ble_eq_true rfl) (Nat.le_of_ble_eq_true rfl) ?_
  exact lw_ret (d0 := s.drawn) (Drawn.sameBut.refl s.drawn lw_cs) hx hb hr hlocks dL_law_57
