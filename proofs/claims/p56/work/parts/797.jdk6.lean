/-! Builders and strings are made; a string's characters. -/
section JG
variable {p : Program} {l : Launch} {e : Env} {R : Room} {s : State} {m : MethodId} {args : Array Value} {below : List Frame} {meth : Method} {c : Code} {H : Heap} {locs : List Loc} {cells slots : Nat} {Q : State → Prop}
variable {cc : ByteArray} {pc : Nat} {ls : Array Slot} {rest st0 : List Value} {g : sG} {E : va_W} {z : zG} {c0 : Cond}
variable {y : MethodName} {bytes : ByteArray} {maxL nL mc ms n index : Nat} {ret : Option FieldType} {rm : Room} {own C : String} {As : List Value} {Qc : Array Value → State → Outcome → State → Prop}
theorem je_by {E' : va_W} (hW : zl_Wd g E z s H locs) (f : Nat → Nat) (hm : ∀ (k : Nat) (q : Nat × va_E), E'[k]? = some q → E[f k]? = some q) (hi : ∀ i j : Nat, i < E'.length → j < E'.length → f i = f j → i = j) : zl_Wd g E' z s H locs :=
  ⟨hW.1.nil.mk (hW.1.E.by f hm), ⟨hW.2.1.1.by f hm hi, fun k q hk => hW.2.1.2 _ q (hm k q hk)⟩, hW.2.2.1, hW.2.2.2⟩
theorem je_mv2 {E1 : va_W} {a b n0 : Nat × va_E} (hW : zl_Wd g (a :: b :: (E1 ++ [n0])) z s H locs) : zl_Wd g (a :: b :: n0 :: E1) z s H locs := by
  refine je_by hW (fun k => if k < 2 then k else if k = 2 then E1.length + 2 else k - 1) (fun k q hk => ?_) (fun i j hi hj e9 => ?_)
  · match k with
    | 0 => exact hk
    | 1 => exact hk
    | 2 =>
      show (E1 ++ [n0])[E1.length]? = some q
      rw [List.getElem?_append_right (Nat.le_refl _), Nat.sub_self]
      exact hk
    | k + 3 =>
      have hk : E1[k]? = some q := hk
      show (a :: b :: (E1 ++ [n0]))[if k + 3 < 2 then k + 3 else if k + 3 = 2 then E1.length + 2 else k + 3 - 1]? = some q
      rw [if_neg (by omega), if_neg (by omega)]
      show (E1 ++ [n0])[k]? = some q
      rw [List.getElem?_append_left (List.getElem?_eq_some_iff.mp hk).1]
      exact hk
  · have hi : i < E1.length + 3 := hi
    have hj : j < E1.length + 3 := hj
    try dsimp only at e9
    split at e9 <;> split at e9 <;> (try split at e9) <;> (try split at e9) <;> omega
theorem je_fin {E1 : va_W} {a b v n0 : Nat × va_E} (hW : zl_Wd g (a :: b :: v :: (E1 ++ [n0])) z s H locs) : zl_Wd g (v :: n0 :: E1) z s H locs := by
  refine je_by hW (fun k => if k = 0 then 2 else if k = 1 then E1.length + 3 else k + 1) (fun k q hk => ?_) (fun i j hi hj e9 => ?_)
  · match k with
    | 0 => exact hk
    | 1 =>
      show (E1 ++ [n0])[E1.length]? = some q
      rw [List.getElem?_append_right (Nat.le_refl _), Nat.sub_self]
      exact hk
    | k + 2 =>
      have hk : E1[k]? = some q := hk
      show (a :: b :: v :: (E1 ++ [n0]))[if k + 2 = 0 then 2 else if k + 2 = 1 then E1.length + 3 else k + 2 + 1]? = some q
      rw [if_neg (by omega), if_neg (by omega)]
      show (E1 ++ [n0])[k]? = some q
      rw [List.getElem?_append_left (List.getElem?_eq_some_iff.mp hk).1]
      exact hk
  · have hi : i < E1.length + 2 := hi
    have hj : j < E1.length + 2 := hj
    try dsimp only at e9
    split at e9 <;> split at e9 <;> (try split at e9) <;> (try split at e9) <;> omega
theorem zl_kv {a : Array Value} {Q1 : zG → Prop} (hr : va_Run p l e R s m args below meth c H locs cells slots mc ms (F0 m pc ls st0) rest (va_Qv Q1 (zl_Po (zl_re g H.size)) (sw_A (zl_re g H.size)) a) (sw_A (zl_re g H.size))) (hW : zl_Wd g E z s H locs)
    (kk : ∀ (z' : zG) (H : Heap) (locs : List Loc), Q1 z' → zl_Wd g E z' s H locs → W p l e R s m args below meth c H locs (cells + mc) (slots + ms) Q (F0 m (pc + 3) ls rest)) : W p l e R s m args below meth c H locs cells slots Q (F0 m pc ls st0) :=
  va_callv hr hW.2.2.1 (fun q _ h => zl_hA hW q h) (fun q h => zl_hA hW q h) (fun u t H1 locs1 ht hvm hw hB hz hk hS => kk u H1 locs1 hw ⟨hW.1.call hW.2.1 (by rw [← ht]; exact hB) hk, hW.2.1, hS, hW.2.2.2⟩)
/-- another class's method of the same name is called -/
def je_cO (x y : MethodName) (bytes : ByteArray) (maxL : Nat) (ret : Option FieldType) (n : Nat) : Prop :=
  Cond.sameMethod x.cls RJ5 x.name x.desc ∈ sw_all ∧ Cond.instanceMethod ⟨RJ5, x.name, x.desc⟩ ∈ sw_all ∧ Cond.selects RJ4 x y ∈ sw_all ∧ Cond.instanceMethod y ∈ sw_all ∧ Cond.initialized y.cls ∈ sw_all ∧ Cond.code y bytes maxL ret ∈ sw_all ∧ (∃ b0 m0 r0, Cond.code ⟨RJ5, x.name, x.desc⟩ b0 m0 r0 ∈ sw_all) ∧ (RJ5 ≠ "java/lang/invoke/MethodHandle" ∧ RJ5 ≠ "java/lang/invoke/VarHandle" ∧ (parseMethodDescriptor x.desc).map (fun d => d.parameters.length) = some n)
theorem je_runO (hx : p.tables.exec = Jvm.exec) (hb : c.code = cc) (hml : c.maxLocals = nL) (hown : s.vm.findClass own = some m.cls) (hts : ∀ w ∈ c0 :: sw_all, w.before args s = true) {x : MethodName} {i a : Nat} {fs : List Value} (hM : Met l y (sw_ws y bytes maxL ret) rm (va_Pc (.ref a :: As) (zPe g E z)) Qc mc ms (sw_A g)) (hc : je_cO x y bytes maxL ret n) (q : Cond.methodLink own index x ∈ sw_all) (hrc : rm.cells = mc) (hrs : rm.slots = ms) (hR : rm.frames + 1 ≤ R.frames ∧ 8 + (maxL + 11) + rm.locals ≤ R.locals) (hW : zl_Wd g E z s H locs) (hE : E[i]? = some (a, .inr (8, fs)))
    (hn : As.length = n) (hsize : ls.size = nL) (hst : st0 = As.reverse ++ .ref a :: rest) (hroom : (rest.map fun v => v.category).sum ≤ 8) (hdg : decode cc pc = .ok (.invokevirtual index, 3)) (hf : cells + mc ≤ R.cells ∧ slots + ms ≤ R.slots) : va_Run p l e R s m args below meth c H locs cells slots mc ms (F0 m pc ls st0) rest (Qc (Value.ref a :: As).toArray) (sw_A g) := by
  obtain ⟨q1, q2, q3, q4, q5, q6, ⟨b0, m0, r0, q7⟩, hd⟩ := hc
  have hgood : ∀ w ∈ sw_all, w ∈ c0 :: sw_all ∧ ((w.onTables && w.keeps) = true ∨ ∃ ty, w = .arrayClass ty) := fun w hw => ⟨List.mem_cons_of_mem _ hw, good_of_word (List.mem_filter.mp hw).2⟩
  have hG : GoodIn (c0 :: sw_all) (va_wsO own index RJ4 RJ5 x y (sw_ws y bytes maxL ret)) := fun w hw => by
    simp only [va_wsO, List.mem_append, List.mem_cons, List.not_mem_nil, or_false] at hw
    rcases hw with (rfl | rfl | rfl | rfl | rfl | rfl) | rfl | hw
    · exact hgood _ q
    · exact hgood _ q1
    · exact hgood _ q2
    · exact hgood _ q3
    · exact hgood _ q4
    · exact hgood _ q5
    · exact hgood _ q6
    · exact hgood _ hw
  exact va_runU ⟨hx, hb, hml, hown, hts⟩ hM (va_cwO n hts hG rfl hrc hrs (hgood _ q7).1 hd hR) (je_recv hW hE rfl As) rfl hn hsize hst (lv_room hroom) hdg hf
end JG
theorem znch {x : Nat} (h : x < 128) : narrow .char (.int (nI x)) = .int (nI x) := by
  have h2 : ∀ n : Nat, n < 128 → narrow .char (.int (nI n)) = .int (nI n) := by decide +kernel
  exact h2 x h
theorem zJ_checkIndex (l : Launch) (g : sG) (a1 a2 : Int32) (z : zG) (h1 : ¬ a1 < 0) (h2 : a1 < a2) : Met l yJ0_checkIndex_df160 (sw_ws yJ0_checkIndex_df160 cJ0_checkIndex_df160 2 none) { frames := 1, cells := 0, slots := 0, locals := 22 } (va_Pc [.int a1, .int a2] (zl_Pr g z)) (va_Qv (fun z' => z' = z) (zl_Po g) (sw_A g)) 0 0 (sw_A g) :=
  zl_up (fun M hC hG => kJ0_checkIndex l g a1 a2 M True h1 h2 trivial) (fun M hC hG a st o t q => by
    obtain ⟨⟨M1, h1, ⟨h2, rfl⟩, h3⟩, h4⟩ := q
    exact ⟨⟨z, h1, rfl, M1, hC, hG, by rw [List.append_nil]; exact h3⟩, h4⟩)
set_option maxHeartbeats 200000 in
theorem kb_isl (l : Launch) (g : sG) (z : zG) (i1 v w : Nat) (E : va_W) (hv : E[i1]? = some (v, zTo g w)) : Met l yJ0_isLatin1_aae02 (sw_ws yJ0_isLatin1_aae02 cJ0_isLatin1_aae02 1 (some .boolean)) { frames := 0, cells := 0, slots := 0, locals := 0 } (va_Pc [.ref v] (zPe g E z)) (va_Qi (fun r _ => r = 1) (zQe g (fun _ : Unit => E) z) (sw_A g)) 0 0 (sw_A g) := by
  refine je_met (by decide) (Nat.le_of_ble_eq_true rfl) ?_
  intro p e s m args below meth c ls hx hb hr hts hown hml hlocks hnm hW hl
  have hown : s.vm.findClass RJ0 = some m.cls := hown
  have hl : lv_has ls 1 [(0, .ref v)] := hl
  have hF := hW.2.2.2
  refine va_gets hx hb hF.2.2.2.2.2.1.1 hW.2.2.1 hown (sw_w hts q_865) (fun _ h => h) dJ0_isLatin1_aae02_0 ?_
  refine lv_if_eq (tgt := 17) hx hb dJ0_isLatin1_aae02_3 (by decide) (fun k => absurd k (by decide)) (fun _ => ?_)
  refine lv_aload_n hx hb dJ0_isLatin1_aae02_6 rfl (lv_at hl 0 rfl) ?_
  refine je_get hx hb hts qf_J hown hW i1 (show (E)[i1]? = some (v, zTo g w) from hv) rfl 1 (by decide) q_999 rfl rfl dJ0_isLatin1_aae02_7 ?_
  refine lv_if_ne (tgt := 17) hx hb dJ0_isLatin1_aae02_10 (by decide) (fun k => absurd rfl k) (fun _ => ?_)
  refine lv_iconst (v := 1) hx hb dJ0_isLatin1_aae02_13 (by decide) ?_
  refine lv_goto (tgt := 18) hx hb dJ0_isLatin1_aae02_14 (by decide) ?_
  exact je_ri () hx hb hr hlocks hW (by decide) rfl dJ0_isLatin1_aae02_18
set_option maxHeartbeats 200000 in
theorem kb_chat1 (l : Launch) (g : sG) (z : zG) (i2 w j : Nat) (x : List Nat) (E : va_W) (hw : E[i2]? = some (w, zTb g x)) (hxx : ztx x) (hj : j < x.length) : Met l yJ1_charAt_3b067 (sw_ws yJ1_charAt_3b067 cJ1_charAt_3b067 2 (some .char)) { frames := 2, cells := 0, slots := 0, locals := 50 } (va_Pc [.ref w, .int (nI j)] (zPe g E z)) (va_Qi (fun r _ => r = nI (x.getD j 0)) (zQe g (fun _ : Unit => E) z) (sw_A g)) 0 0 (sw_A g) := by
  refine je_met (by decide) (Nat.le_of_ble_eq_true rfl) ?_
  intro p e s m args below meth c ls hx hb hr hts hown hml hlocks hnm hW hl
  have hown : s.vm.findClass RJ1 = some m.cls := hown
  have hl : lv_has ls 2 [(0, .ref w), (1, .int (nI j))] := hl
  have hF := hW.2.2.2
  have h64 := hxx.1
  have hc := hxx.2.at j
  refine lv_iload_n hx hb dJ1_charAt_3b067_0 rfl (lv_at hl 1 rfl) ?_
  refine lv_aload_n hx hb dJ1_charAt_3b067_1 rfl (lv_at hl 0 rfl) ?_
  refine je_alen hx hb hW i2 hw dJ1_charAt_3b067_2 ?_
  generalize hHs : s.heap = H0 at hW ⊢
  generalize hLo : ([] : List Loc) = locs0 at hW ⊢
  refine zl_kv (rest := []) (zl_runS (g := g) (As := [.int (nI j), .int (nI x.length)]) (rest := []) hx hb hml hown hts (zJ_checkIndex l (zl_re g H0.size) _ _ z (nI_pos (by omega)) (nI_lt hj (by omega))) cs_J0_checkIndex_df160 q_1046 rfl rfl ⟨(Nat.le_of_ble_eq_true rfl), (Nat.le_of_ble_eq_true rfl)⟩ hW rfl hl.1 rfl (Nat.le_of_ble_eq_true rfl) dJ1_charAt_3b067_3 ⟨(Nat.le_of_ble_eq_true rfl), (Nat.le_of_ble_eq_true rfl)⟩) hW (fun z9 H locs h9 hW => ?_)
  rw [h9] at hW
  refine lv_aload_n hx hb dJ1_charAt_3b067_6 rfl (lv_at hl 0 rfl) ?_
  refine lv_iload_n hx hb dJ1_charAt_3b067_7 rfl (lv_at hl 1 rfl) ?_
  refine va_bald hx hb hW.2.2.2.1 hW.1.E i2 6 (show E[i2]? = some (w, .inl (sw_ac g 6, x.length, .inl (fun j => nI (x.getD j 0)))) from hw) rfl (zin hj (by omega)) dJ1_charAt_3b067_8 ?_
  rw [nI_clamp (by omega)]
  refine lv_sipush (v := 255) hx hb dJ1_charAt_3b067_9 (by decide) ?_
  refine lv_iand hx hb dJ1_charAt_3b067_12 ?_
  refine lv_i2c hx hb dJ1_charAt_3b067_13 rfl ?_
  rw [sw_bch _ ⟨zi2b hc, nI_pos' (by omega)⟩]
  exact je_ri () hx hb hr hlocks hW (znch hc) rfl dJ1_charAt_3b067_14
set_option maxHeartbeats 200000 in
theorem kb_chat (l : Launch) (g : sG) (z : zG) (i1 i2 v w j : Nat) (x : List Nat) (E : va_W) (hv : E[i1]? = some (v, zTo g w)) (hw : E[i2]? = some (w, zTb g x)) (hxx : ztx x) (hj : j < x.length) : Met l yJ0_charAt_5068e (sw_ws yJ0_charAt_5068e cJ0_charAt_5068e 2 (some .char)) { frames := 3, cells := 0, slots := 0, locals := 80 } (va_Pc [.ref v, .int (nI j)] (zPe g E z)) (va_Qi (fun r _ => r = nI (x.getD j 0)) (zQe g (fun _ : Unit => E) z) (sw_A g)) 0 0 (sw_A g) := by
  refine je_met (by decide) (Nat.le_of_ble_eq_true rfl) ?_
  intro p e s m args below meth c ls hx hb hr hts hown hml hlocks hnm hW hl
  have hown : s.vm.findClass RJ0 = some m.cls := hown
  have hl : lv_has ls 2 [(0, .ref v), (1, .int (nI j))] := hl
  have hF := hW.2.2.2
  refine lv_aload_n hx hb dJ0_charAt_5068e_0 rfl (lv_at hl 0 rfl) ?_
  refine je_ki (rest := []) (je_runV (i := i1) (As := []) (rest := []) hx hb hml hown hts (kb_isl l g z i1 v w E hv) cv_J0_isLatin1_aae02 q_1039 rfl rfl ⟨(Nat.le_of_ble_eq_true rfl), (Nat.le_of_ble_eq_true rfl)⟩ hW (show (E)[i1]? = some (v, zTo g w) from hv) rfl rfl hl.1 rfl (Nat.le_of_ble_eq_true rfl) dJ0_charAt_5068e_1 ⟨(Nat.le_of_ble_eq_true rfl), (Nat.le_of_ble_eq_true rfl)⟩) hW (fun r u H locs h9 hW => ?_)
  subst h9
  refine lv_if_eq (tgt := 16) hx hb dJ0_charAt_5068e_4 (by decide) (fun k => absurd k (by decide)) (fun _ => ?_)
  refine lv_aload_n hx hb dJ0_charAt_5068e_7 rfl (lv_at hl 0 rfl) ?_
  refine je_get hx hb hts qf_J hown hW i1 (show (E)[i1]? = some (v, zTo g w) from hv) rfl 0 (by decide) q_998 rfl rfl dJ0_charAt_5068e_8 ?_
  refine lv_iload_n hx hb dJ0_charAt_5068e_11 rfl (lv_at hl 1 rfl) ?_
  refine je_ki (rest := []) (je_runS (As := [.ref w, .int (nI j)]) (rest := []) hx hb hml hown hts (kb_chat1 l g z i2 w j x E hw hxx hj) cs_J1_charAt_3b067 q_1043 rfl rfl ⟨(Nat.le_of_ble_eq_true rfl), (Nat.le_of_ble_eq_true rfl)⟩ hW rfl hl.1 rfl (Nat.le_of_ble_eq_true rfl) dJ0_charAt_5068e_12 ⟨(Nat.le_of_ble_eq_true rfl), (Nat.le_of_ble_eq_true rfl)⟩) hW (fun r u H locs h9 hW => ?_)
  subst h9
  exact je_ri () hx hb hr hlocks hW (znch (hxx.2.at j)) rfl dJ0_charAt_5068e_15
theorem ci_J5_init_d00df : je_cI yJ5_init_d00df cJ5_init_d00df 2 1 := ⟨q_779, q_23, q_780, rfl, by decide +kernel⟩
theorem ci_J4_init_da8c8 : je_cI yJ4_init_da8c8 cJ4_init_da8c8 1 0 := ⟨q_776, q_24, q_777, rfl, by decide +kernel⟩
theorem ci_J0_init_db425 : je_cI yJ0_init_db425 cJ0_init_db425 5 2 := ⟨q_951, q_19, q_952, rfl, by decide +kernel⟩
theorem ci_J0_init_81219 : je_cI yJ0_init_81219 cJ0_init_81219 2 1 := ⟨q_948, q_19, q_949, rfl, by decide +kernel⟩
set_option maxHeartbeats 200000 in
theorem kc_sb5 (l : Launch) (g : sG) (z : zG) (q : Nat) (E0 : va_W) : Met l yJ5_init_d00df (sw_ws yJ5_init_d00df cJ5_init_d00df 2 none) { frames := 1, cells := 1, slots := 16, locals := 20 } (va_Pc [.ref q, .int (16 : Int32)] (zPe g ((q, .inr (8, [.null, .int 0, .int 0, .int 0])) :: E0) z)) (va_Qv (fun _ => True) (zQe g (fun b : Nat => zT2 g q b 0 16 [] E0) z) (sw_A g)) 1 16 (sw_A g) := by
  refine je_met (by decide) (Nat.le_of_ble_eq_true rfl) ?_
  intro p e s m args below meth c ls hx hb hr hts hown hml hlocks hnm hW hl
  have hown : s.vm.findClass RJ5 = some m.cls := hown
  have hl : lv_has ls 2 [(0, .ref q), (1, .int (16 : Int32))] := hl
  have hF := hW.2.2.2
  refine lv_aload_n hx hb dJ5_init_d00df_0 rfl (lv_at hl 0 rfl) ?_
  refine W.objInit hx hb hown (sw_w hts q_781) (sw_w hts q_40) (sw_w hts q_41) rfl (by rw [hml]; exact hl.1) rfl dJ5_init_d00df_1 (Nat.le_of_ble_eq_true rfl) (Nat.le_of_ble_eq_true rfl) ?_
  show W _ _ _ _ _ _ _ _ _ _ _ _ _ _ _ (F0 m 4 ls [])
  refine va_gets hx hb hF.2.2.2.2.2.1.1 hW.2.2.1 hown (sw_w hts q_782) (fun _ h => h) dJ5_init_d00df_4 ?_
  refine lv_if_eq (tgt := 25) hx hb dJ5_init_d00df_7 (by decide) (fun k => absurd k (by decide)) (fun _ => ?_)
  refine lv_aload_n hx hb dJ5_init_d00df_10 rfl (lv_at hl 0 rfl) ?_
  refine lv_iload_n hx hb dJ5_init_d00df_11 rfl (lv_at hl 1 rfl) ?_
  generalize hLo : ([] : List Loc) = locs at hW ⊢
  refine zl_newa (g := g) hx hb hts (atype := .byte) qa_byte 6 rfl rfl hW (N := 16) (a0 := (16, .inl (fun _ => 0))) (fun _ => rfl) (by decide) (by decide) (by decide) (Nat.le_of_ble_eq_true rfl) (Nat.le_of_ble_eq_true rfl) dJ5_init_d00df_12 (fun b H hW => ?_)
  have hW : zl_Wd g ((q, .inr (8, [.null, .int 0, .int 0, .int 0])) :: (E0 ++ [(b, .inl (sw_ac g 6, 16, .inl (fun _ => (0 : Int32))))])) z s H locs := hW
  refine je_putG hx hb hts qf_B tyJ4 tyJ4_ok nmJ4 hown hW 0 rfl rfl 0 (by decide) q_790 rfl (Or.inl rfl) rfl rfl (Nat.le_of_ble_eq_true rfl) dJ5_init_d00df_14 (fun H locs hW => ?_)
  have hW : zl_Wd g ((q, zSo g b 0) :: (E0 ++ [(b, .inl (sw_ac g 6, 16, .inl (fun _ => (0 : Int32))))])) z s H locs := hW
  refine lv_aload_n hx hb dJ5_init_d00df_17 rfl (lv_at hl 0 rfl) ?_
  refine lv_iconst (v := 0) hx hb dJ5_init_d00df_18 (by decide) ?_
  refine je_putG hx hb hts qf_B tyJ4 tyJ4_ok nmJ4 hown hW 0 rfl rfl 1 (by decide) q_791 rfl (Or.inl rfl) rfl rfl (Nat.le_of_ble_eq_true rfl) dJ5_init_d00df_19 (fun H locs hW => ?_)
  have hW : zl_Wd g ((q, zSo g b 0) :: (E0 ++ [(b, .inl (sw_ac g 6, 16, .inl (fun _ => (0 : Int32))))])) z s H locs := hW
  refine lv_goto (tgt := 38) hx hb dJ5_init_d00df_22 (by decide) ?_
  replace hW := je_mv1 hW
  replace hW := je_arr (i := 1) (f' := fun j => nI (([] : List Nat).getD j 0)) (fun j _ => rfl) rfl hW
  have hW : zl_Wd g (zT2 g q b 0 16 [] E0) z s H locs := hW
  refine W.widen (k := 1) (n := 16) (by omega) (by omega) ?_
  exact je_rv b hx hb hr hlocks hW trivial dJ5_init_d00df_38
set_option maxHeartbeats 200000 in
theorem kc_sb (l : Launch) (g : sG) (z : zG) (q : Nat) (E0 : va_W) : Met l yJ4_init_da8c8 (sw_ws yJ4_init_da8c8 cJ4_init_da8c8 1 none) { frames := 2, cells := 1, slots := 16, locals := 60 } (va_Pc [.ref q] (zPe g ((q, .inr (8, [.null, .int 0, .int 0, .int 0])) :: E0) z)) (va_Qv (fun _ => True) (zQe g (fun b : Nat => zT2 g q b 0 16 [] E0) z) (sw_A g)) 1 16 (sw_A g) := by
  refine je_met (by decide) (Nat.le_of_ble_eq_true rfl) ?_
  intro p e s m args below meth c ls hx hb hr hts hown hml hlocks hnm hW hl
  have hown : s.vm.findClass RJ4 = some m.cls := hown
  have hl : lv_has ls 1 [(0, .ref q)] := hl
  have hF := hW.2.2.2
  refine lv_aload_n hx hb dJ4_init_da8c8_0 rfl (lv_at hl 0 rfl) ?_
  refine lv_bipush (v := 16) hx hb dJ4_init_da8c8_1 (by decide) ?_
  refine je_kv (rest := []) (je_runI (As := [.int (16 : Int32)]) (rest := []) hx hb hml hown hts (kc_sb5 l g z q E0) ci_J5_init_d00df q_778 rfl rfl ⟨(Nat.le_of_ble_eq_true rfl), (Nat.le_of_ble_eq_true rfl)⟩ hW rfl hl.1 rfl (Nat.le_of_ble_eq_true rfl) dJ4_init_da8c8_3 ⟨(Nat.le_of_ble_eq_true rfl), (Nat.le_of_ble_eq_true rfl)⟩) hW (fun b H locs h9 hW => ?_)
  exact je_rv b hx hb hr hlocks hW trivial dJ4_init_da8c8_6
set_option maxHeartbeats 200000 in
theorem kd_appC (l : Launch) (g : sG) (z : zG) (q b cap : Nat) (t : List Nat) (i : Nat) (hi : i < 18) (hbd : zbd t cap) (hok : ztx (t ++ (zsb i))) (E0 : va_W) : Met l yJ4_append_15ec4 (sw_ws yJ4_append_15ec4 cJ4_append_15ec4 2 (some (.object "java/lang/StringBuilder"))) { frames := 5, cells := 1, slots := 128, locals := 200 } (va_Pc [.ref q, .ref (sw_sk g i)] (zPe g ((q, zSo g b t.length) :: (b, zBb g cap t) :: E0) z)) (je_Qr g (fun u : Nat × Nat => zT2 g q u.1 (t ++ (zsb i)).length u.2 (t ++ (zsb i)) E0) (fun _ => q) z (fun u => zbd (t ++ (zsb i)) u.2)) 1 128 (sw_A g) := by
  refine je_met (by decide) (Nat.le_of_ble_eq_true rfl) ?_
  intro p e s m args below meth c ls hx hb hr hts hown hml hlocks hnm hW hl
  have hown : s.vm.findClass RJ4 = some m.cls := hown
  have hl : lv_has ls 2 [(0, .ref q), (1, .ref (sw_sk g i))] := hl
  have hF := hW.2.2.2
  have hn1 := hok.1
  rw [List.length_append] at hn1
  have ht : zlat t := fun c9 h9 => hok.2 c9 (List.mem_append_left _ h9)
  refine lv_aload_n hx hb dJ4_append_15ec4_0 rfl (lv_at hl 0 rfl) ?_
  refine lv_aload_n hx hb dJ4_append_15ec4_1 rfl (lv_at hl 1 rfl) ?_
  refine je_kr (rest := []) (je_runSU (i := 0) (As := [.ref (sw_sk g i)]) (rest := []) hx hb hml hown hts (kb_appC l g z q b cap t i hi hbd.1 hn1 ht hbd.2 E0) cx_J5_append_cf1ce q_798 rfl rfl ⟨(Nat.le_of_ble_eq_true rfl), (Nat.le_of_ble_eq_true rfl)⟩ hW rfl rfl hl.1 rfl (Nat.le_of_ble_eq_true rfl) dJ4_append_15ec4_2 ⟨(Nat.le_of_ble_eq_true rfl), (Nat.le_of_ble_eq_true rfl)⟩) hW (fun u H locs h9 hW => ?_)
  refine lv_pop hx hb dJ4_append_15ec4_5 rfl ?_
  refine lv_aload_n hx hb dJ4_append_15ec4_6 rfl (lv_at hl 0 rfl) ?_
  exact je_ra u hx hb hr (Or.inl ⟨_, rfl⟩) hlocks hW h9 rfl dJ4_append_15ec4_7
set_option maxHeartbeats 200000 in
theorem kd_appD (l : Launch) (g : sG) (z : zG) (q b cap : Nat) (t : List Nat) (i1 i2 v w : Nat) (x : List Nat) (hbd : zbd t cap) (hok : ztx (t ++ x)) (E0 : va_W) (hv : E0[i1]? = some (v, zTo g w)) (hw : E0[i2]? = some (w, zTb g x)) : Met l yJ4_append_15ec4 (sw_ws yJ4_append_15ec4 cJ4_append_15ec4 2 (some (.object "java/lang/StringBuilder"))) { frames := 5, cells := 1, slots := 128, locals := 200 } (va_Pc [.ref q, .ref v] (zPe g ((q, zSo g b t.length) :: (b, zBb g cap t) :: E0) z)) (je_Qr g (fun u : Nat × Nat => zT2 g q u.1 (t ++ x).length u.2 (t ++ x) E0) (fun _ => q) z (fun u => zbd (t ++ x) u.2)) 1 128 (sw_A g) := by
  refine je_met (by decide) (Nat.le_of_ble_eq_true rfl) ?_
  intro p e s m args below meth c ls hx hb hr hts hown hml hlocks hnm hW hl
  have hown : s.vm.findClass RJ4 = some m.cls := hown
  have hl : lv_has ls 2 [(0, .ref q), (1, .ref v)] := hl
  have hF := hW.2.2.2
  have hn1 := hok.1
  rw [List.length_append] at hn1
  have ht : zlat t := fun c9 h9 => hok.2 c9 (List.mem_append_left _ h9)
  refine lv_aload_n hx hb dJ4_append_15ec4_0 rfl (lv_at hl 0 rfl) ?_
  refine lv_aload_n hx hb dJ4_append_15ec4_1 rfl (lv_at hl 1 rfl) ?_
  refine je_kr (rest := []) (je_runSU (i := 0) (As := [.ref v]) (rest := []) hx hb hml hown hts (kb_appD l g z q b cap t i1 i2 v w x hbd.1 hn1 ht hbd.2 (fun c9 h9 => hok.2 c9 (List.mem_append_right _ h9)) E0 hv hw) cx_J5_append_cf1ce q_798 rfl rfl ⟨(Nat.le_of_ble_eq_true rfl), (Nat.le_of_ble_eq_true rfl)⟩ hW rfl rfl hl.1 rfl (Nat.le_of_ble_eq_true rfl) dJ4_append_15ec4_2 ⟨(Nat.le_of_ble_eq_true rfl), (Nat.le_of_ble_eq_true rfl)⟩) hW (fun u H locs h9 hW => ?_)
  refine lv_pop hx hb dJ4_append_15ec4_5 rfl ?_
  refine lv_aload_n hx hb dJ4_append_15ec4_6 rfl (lv_at hl 0 rfl) ?_
  exact je_ra u hx hb hr (Or.inl ⟨_, rfl⟩) hlocks hW h9 rfl dJ4_append_15ec4_7
set_option maxHeartbeats 200000 in
theorem kd_appc (l : Launch) (g : sG) (z : zG) (q b cap : Nat) (t : List Nat) (x : Nat) (hx0 : x < 128) (hbd : zbd t cap) (hok : ztx (t ++ [x])) (E0 : va_W) : Met l yJ4_append_cf468 (sw_ws yJ4_append_cf468 cJ4_append_cf468 2 (some (.object "java/lang/StringBuilder"))) { frames := 5, cells := 1, slots := 128, locals := 200 } (va_Pc [.ref q, .int (nI x)] (zPe g ((q, zSo g b t.length) :: (b, zBb g cap t) :: E0) z)) (je_Qr g (fun u : Nat × Nat => zT2 g q u.1 (t ++ [x]).length u.2 (t ++ [x]) E0) (fun _ => q) z (fun u => zbd (t ++ [x]) u.2)) 1 128 (sw_A g) := by
  refine je_met (by decide) (Nat.le_of_ble_eq_true rfl) ?_
  intro p e s m args below meth c ls hx hb hr hts hown hml hlocks hnm hW hl
  have hown : s.vm.findClass RJ4 = some m.cls := hown
  have hl : lv_has ls 2 [(0, .ref q), (1, .int (nI x))] := hl
  have hF := hW.2.2.2
  have hn1 := hok.1
  rw [List.length_append] at hn1
  have ht : zlat t := fun c9 h9 => hok.2 c9 (List.mem_append_left _ h9)
  refine lv_aload_n hx hb dJ4_append_cf468_0 rfl (lv_at hl 0 rfl) ?_
  refine lv_iload_n hx hb dJ4_append_cf468_1 rfl (lv_at hl 1 rfl) ?_
  refine je_kr (rest := []) (je_runSU (i := 0) (As := [.int (nI x)]) (rest := []) hx hb hml hown hts (ka_appC l g z q b cap x t hx0 hbd.1 hn1 ht hbd.2 E0) cx_J5_append_3fe6f q_901 rfl rfl ⟨(Nat.le_of_ble_eq_true rfl), (Nat.le_of_ble_eq_true rfl)⟩ hW rfl rfl hl.1 rfl (Nat.le_of_ble_eq_true rfl) dJ4_append_cf468_2 ⟨(Nat.le_of_ble_eq_true rfl), (Nat.le_of_ble_eq_true rfl)⟩) hW (fun u H locs h9 hW => ?_)
  refine lv_pop hx hb dJ4_append_cf468_5 rfl ?_
  refine lv_aload_n hx hb dJ4_append_cf468_6 rfl (lv_at hl 0 rfl) ?_
  exact je_ra u hx hb hr (Or.inl ⟨_, rfl⟩) hlocks hW h9 rfl dJ4_append_cf468_7
set_option maxHeartbeats 200000 in
theorem kd_appi (l : Launch) (g : sG) (z : zG) (q b cap : Nat) (t : List Nat) (v : Nat) (hv : v < 100) (hbd : zbd t cap) (hok : ztx (t ++ (zdec v))) (E0 : va_W) : Met l yJ4_append_bf812 (sw_ws yJ4_append_bf812 cJ4_append_bf812 2 (some (.object "java/lang/StringBuilder"))) { frames := 5, cells := 1, slots := 128, locals := 200 } (va_Pc [.ref q, .int (nI v)] (zPe g ((q, zSo g b t.length) :: (b, zBb g cap t) :: E0) z)) (je_Qr g (fun u : Nat × Nat => zT2 g q u.1 (t ++ (zdec v)).length u.2 (t ++ (zdec v)) E0) (fun _ => q) z (fun u => zbd (t ++ (zdec v)) u.2)) 1 128 (sw_A g) := by
  refine je_met (by decide) (Nat.le_of_ble_eq_true rfl) ?_
  intro p e s m args below meth c ls hx hb hr hts hown hml hlocks hnm hW hl
  have hown : s.vm.findClass RJ4 = some m.cls := hown
  have hl : lv_has ls 2 [(0, .ref q), (1, .int (nI v))] := hl
  have hF := hW.2.2.2
  have hn1 := hok.1
  rw [List.length_append] at hn1
  have ht : zlat t := fun c9 h9 => hok.2 c9 (List.mem_append_left _ h9)
  refine lv_aload_n hx hb dJ4_append_bf812_0 rfl (lv_at hl 0 rfl) ?_
  refine lv_iload_n hx hb dJ4_append_bf812_1 rfl (lv_at hl 1 rfl) ?_
  refine je_kr (rest := []) (je_runSU (i := 0) (As := [.int (nI v)]) (rest := []) hx hb hml hown hts (ka_appI l g z q b cap v t hv hbd.1 hn1 ht hbd.2 E0) cx_J5_append_c97b9 q_923 rfl rfl ⟨(Nat.le_of_ble_eq_true rfl), (Nat.le_of_ble_eq_true rfl)⟩ hW rfl rfl hl.1 rfl (Nat.le_of_ble_eq_true rfl) dJ4_append_bf812_2 ⟨(Nat.le_of_ble_eq_true rfl), (Nat.le_of_ble_eq_true rfl)⟩) hW (fun u H locs h9 hW => ?_)
  refine lv_pop hx hb dJ4_append_bf812_5 rfl ?_
  refine lv_aload_n hx hb dJ4_append_bf812_6 rfl (lv_at hl 0 rfl) ?_
  exact je_ra u hx hb hr (Or.inl ⟨_, rfl⟩) hlocks hW h9 rfl dJ4_append_bf812_7
