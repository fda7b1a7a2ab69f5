/-! length and charAt of the constant strings. -/
theorem cv_J0_length_8abf5 : sw_cV yJ0_length_8abf5 RJ0 cJ0_length_8abf5 1 (some .int) 0 := ⟨q_858, q_859, q_19, q_860, by decide +kernel⟩
theorem cv_J0_coder_7d493 : sw_cV yJ0_coder_7d493 RJ0 cJ0_coder_7d493 1 (some .byte) 0 := ⟨q_862, q_863, q_19, q_864, by decide +kernel⟩
theorem cv_J0_isLatin1_aae02 : sw_cV yJ0_isLatin1_aae02 RJ0 cJ0_isLatin1_aae02 1 (some .boolean) 0 := ⟨q_1040, q_1041, q_19, q_1042, by decide +kernel⟩
theorem cv_J0_charAt_5068e : sw_cV yJ0_charAt_5068e RJ0 cJ0_charAt_5068e 2 (some .char) 1 := ⟨q_1036, q_1037, q_19, q_1038, by decide +kernel⟩
theorem cs_J0_checkIndex_df160 : sw_cS yJ0_checkIndex_df160 cJ0_checkIndex_df160 2 none 2 := ⟨q_914, q_19, q_915, by decide +kernel⟩
theorem cs_J1_charAt_3b067 : sw_cS yJ1_charAt_3b067 cJ1_charAt_3b067 2 (some .char) 2 := ⟨q_1044, q_30, q_1045, by decide +kernel⟩
theorem cs_J3_checkIndex_8e157 : sw_cS yJ3_checkIndex_8e157 cJ3_checkIndex_8e157 3 (some .int) 3 := ⟨q_917, q_29, q_918, by decide +kernel⟩
theorem sw_preVs {g : sG} {M : sM} {s : State} {H : Heap} {locs : List Loc} {t : Nat} (hW : sw_Wd g M s H locs) (ht : t < 18) (As : List Value) : PreV s H RJ0 (sw_sk g t) (va_Pc (.ref (sw_sk g t) :: As) (sw_Pr g M)) As := by
  refine ⟨sw_Pr.blind, ?_, fun U hU hWm => ⟨rfl, hW.pr hU hWm⟩⟩
  obtain ⟨cell, h1, h2, h3, -⟩ := (hW.2.2.2.2.2.2.2.2.1 t ht).1.kept hW.2.1.2.1
  exact ⟨cell, h1, h2, h3⟩
section SWT
variable {p : Program} {l : Launch} {e : Env} {R : Room} {s : State} {m : MethodId} {args : Array Value} {below : List Frame} {meth : Method} {c : Code} {H : Heap} {locs : List Loc} {cells slots : Nat} {Q : State → Prop}
variable {cc : ByteArray} {pc : Nat} {ls : Array Slot} {rest st0 : List Value} {g : sG} {M : sM} {c0 : Cond}
variable {y : MethodName} {bytes : ByteArray} {maxL nL mc ms n index : Nat} {ret : Option FieldType} {rm : Room} {own : String} {As : List Value} {Qc : Array Value → State → Outcome → State → Prop}
theorem sw_runVs (hx : p.tables.exec = Jvm.exec) (hb : c.code = cc) (hml : c.maxLocals = nL) (hown : s.vm.findClass own = some m.cls) (hts : ∀ w ∈ c0 :: sw_all, w.before args s = true) {t : Nat} (hM : Met l y (sw_ws y bytes maxL ret) rm (va_Pc (.ref (sw_sk g t) :: As) (sw_Pr g M)) Qc mc ms (sw_A g)) (hc : sw_cV y RJ0 bytes maxL ret n) (q : Cond.methodLink own index y ∈ sw_all) (hrc : rm.cells = mc) (hrs : rm.slots = ms) (hR : rm.frames + 1 ≤ R.frames ∧ 8 + (maxL + 11) + rm.locals ≤ R.locals) (hW : sw_Wd g M s H locs) (ht : t < 18)
    (hn : As.length = n) (hsize : ls.size = nL) (hst : st0 = As.reverse ++ .ref (sw_sk g t) :: rest) (hroom : (rest.map fun v => v.category).sum ≤ 8) (hdg : decode cc pc = .ok (.invokevirtual index, 3)) (hf : cells + mc ≤ R.cells ∧ slots + ms ≤ R.slots) : va_Run p l e R s m args below meth c H locs cells slots mc ms (F0 m pc ls st0) rest (Qc (Value.ref (sw_sk g t) :: As).toArray) (sw_A g) :=
  va_runV ⟨hx, hb, hml, hown, hts⟩ hM (sw_cwV hts hc q hrc hrs hR) (sw_preVs hW ht As) rfl hn hsize hst (lv_room hroom) hdg hf
end SWT
theorem kJ0_coder_7d493 (l : Launch) (g : sG) (t : Nat) (ht : t < 18) (M : sM) (Q : Int32 → Prop) (h : Q 0) : Met l yJ0_coder_7d493 (sw_ws yJ0_coder_7d493 cJ0_coder_7d493 1 (some .byte)) { frames := 0, cells := 0, slots := 0, locals := 0 } (va_Pc [.ref (sw_sk g t)] (sw_Pr g M)) (va_Qi (fun r M1 => Q r ∧ M1 = M) (sw_Po g) (sw_A g)) 0 0 (sw_A g) := by
  refine sw_met (by decide) (Nat.le_of_ble_eq_true rfl) ?_
  intro p e s m args below meth c ls hx hb hr hts hown hml hlocks hW hl
  have hown : s.vm.findClass RJ0 = some m.cls := hown
  have hl : lv_has ls 1 [(0, .ref (sw_sk g t))] := hl
  have hF := hW.2.2
  refine va_gets hx hb hF.2.2.2.2.2.1.1 hW.2.1 hown (sw_w hts q_865) (fun _ h => h) dJ0_coder_7d493_0 ?_
  refine lv_if_eq (tgt := 13) hx hb dJ0_coder_7d493_3 (by decide) (fun k => absurd k (by decide)) (fun _ => ?_)
  refine lv_aload_n hx hb dJ0_coder_7d493_6 rfl (lv_at hl 0 rfl) ?_
  refine vk_getf hx hb (hF.2.2.2.2.2.2.1 t ht).2.1 hW.2.1 hown (sw_w hts q_999) (fun _ h => h) dJ0_coder_7d493_7 ?_
  refine lv_goto (tgt := 14) hx hb dJ0_coder_7d493_10 (by decide) ?_
  exact sw_ri hx hb hr hlocks hW (by decide) ⟨h, rfl⟩ dJ0_coder_7d493_14
theorem kJ0_isLatin1_aae02 (l : Launch) (g : sG) (t : Nat) (ht : t < 18) (M : sM) (Q : Int32 → Prop) (h : Q 1) : Met l yJ0_isLatin1_aae02 (sw_ws yJ0_isLatin1_aae02 cJ0_isLatin1_aae02 1 (some .boolean)) { frames := 0, cells := 0, slots := 0, locals := 0 } (va_Pc [.ref (sw_sk g t)] (sw_Pr g M)) (va_Qi (fun r M1 => Q r ∧ M1 = M) (sw_Po g) (sw_A g)) 0 0 (sw_A g) := by
  refine sw_met (by decide) (Nat.le_of_ble_eq_true rfl) ?_
  intro p e s m args below meth c ls hx hb hr hts hown hml hlocks hW hl
  have hown : s.vm.findClass RJ0 = some m.cls := hown
  have hl : lv_has ls 1 [(0, .ref (sw_sk g t))] := hl
  have hF := hW.2.2
  refine va_gets hx hb hF.2.2.2.2.2.1.1 hW.2.1 hown (sw_w hts q_865) (fun _ h => h) dJ0_isLatin1_aae02_0 ?_
  refine lv_if_eq (tgt := 17) hx hb dJ0_isLatin1_aae02_3 (by decide) (fun k => absurd k (by decide)) (fun _ => ?_)
  refine lv_aload_n hx hb dJ0_isLatin1_aae02_6 rfl (lv_at hl 0 rfl) ?_
  refine vk_getf hx hb (hF.2.2.2.2.2.2.1 t ht).2.1 hW.2.1 hown (sw_w hts q_999) (fun _ h => h) dJ0_isLatin1_aae02_7 ?_
  refine lv_if_ne (tgt := 17) hx hb dJ0_isLatin1_aae02_10 (by decide) (fun k => absurd rfl k) (fun _ => ?_)
  refine lv_iconst (v := 1) hx hb dJ0_isLatin1_aae02_13 (by decide) ?_
  refine lv_goto (tgt := 18) hx hb dJ0_isLatin1_aae02_14 (by decide) ?_
  exact sw_ri hx hb hr hlocks hW (by decide) ⟨h, rfl⟩ dJ0_isLatin1_aae02_18
def wJ0_length_8abf5 (t : Nat) (Q : Int32 → Prop) : Prop := Q (Int32.ofNat (sw_sb t).length)
theorem sw_shr0 (x : Int32) : x >>> ((0 : Int32) &&& 31) = x := by apply Int32.toBitVec_inj.mp; simp
theorem kJ0_length_8abf5 (l : Launch) (g : sG) (t : Nat) (ht : t < 18) (M : sM) (Q : Int32 → Prop) (h : wJ0_length_8abf5 t Q) : Met l yJ0_length_8abf5 (sw_ws yJ0_length_8abf5 cJ0_length_8abf5 1 (some .int)) { frames := 1, cells := 0, slots := 0, locals := 20 } (va_Pc [.ref (sw_sk g t)] (sw_Pr g M)) (va_Qi (fun r M1 => Q r ∧ M1 = M) (sw_Po g) (sw_A g)) 0 0 (sw_A g) := by
  refine sw_met (by decide) (Nat.le_of_ble_eq_true rfl) ?_
  intro p e s m args below meth c ls hx hb hr hts hown hml hlocks hW hl
  have hown : s.vm.findClass RJ0 = some m.cls := hown
  have hl : lv_has ls 1 [(0, .ref (sw_sk g t))] := hl
  have hF := hW.2.2
  refine lv_aload_n hx hb dJ0_length_8abf5_0 rfl (lv_at hl 0 rfl) ?_
  refine vk_getf hx hb (hF.2.2.2.2.2.2.1 t ht).2.2.1 hW.2.1 hown (sw_w hts q_998) (fun _ h => h) dJ0_length_8abf5_1 ?_
  refine va_tlen (v := Int32.ofNat (sw_sb t).length) hx hb (hF.2.2.2.2.2.2.1 t ht).2.2.2.1 hW.2.1 rfl dJ0_length_8abf5_4 ?_
  refine lv_aload_n hx hb dJ0_length_8abf5_5 rfl (lv_at hl 0 rfl) ?_
  refine sw_ki (rest := [.int (Int32.ofNat (sw_sb t).length)]) (sw_runVs (As := []) (rest := [.int (Int32.ofNat (sw_sb t).length)]) hx hb hml hown hts (kJ0_coder_7d493 l g t ht M (fun r => r = 0) rfl) cv_J0_coder_7d493 q_861 rfl rfl ⟨Nat.le_of_ble_eq_true rfl, Nat.le_of_ble_eq_true rfl⟩ hW ht rfl hl.1 rfl (Nat.le_of_ble_eq_true rfl) dJ0_length_8abf5_6 ⟨Nat.le_of_ble_eq_true rfl, Nat.le_of_ble_eq_true rfl⟩) hW (fun r M9 H locs h9 hW => ?_)
  obtain ⟨e1, e2⟩ := h9
  rw [e2] at hW
  subst e1
  refine lv_ishr hx hb dJ0_length_8abf5_9 ?_
  rw [sw_shr0]
  exact sw_ri hx hb hr hlocks hW rfl ⟨h, rfl⟩ dJ0_length_8abf5_10
theorem kJ3_N (l : Launch) (g : sG) (a1 a2 : Int32) (M : sM) (Q : Int32 → Prop) (h1 : ¬ a1 < 0) (h2 : a1 < a2) (h : Q a1) : Met l yJ3_checkIndex_8e157 (sw_ws yJ3_checkIndex_8e157 cJ3_checkIndex_8e157 3 (some .int)) { frames := 0, cells := 0, slots := 0, locals := 0 } (va_Pc [.int a1, .int a2, .null] (sw_Pr g M)) (va_Qi (fun r M1 => Q r ∧ M1 = M) (sw_Po g) (sw_A g)) 0 0 (sw_A g) := by
  refine sw_met (by decide) (Nat.le_of_ble_eq_true rfl) ?_
  intro p e s m args below meth c ls hx hb hr hts hown hml hlocks hW hl
  have hown : s.vm.findClass RJ3 = some m.cls := hown
  have hl : lv_has ls 3 [(0, .int a1), (1, .int a2), (2, .null)] := hl
  have hF := hW.2.2
  refine lv_iload_n hx hb dJ3_checkIndex_8e157_0 rfl (lv_at hl 0 rfl) ?_
  refine lv_if_lt (tgt := 9) hx hb dJ3_checkIndex_8e157_1 (by decide) (fun k => absurd k h1) (fun _ => ?_)
  refine lv_iload_n hx hb dJ3_checkIndex_8e157_4 rfl (lv_at hl 0 rfl) ?_
  refine lv_iload_n hx hb dJ3_checkIndex_8e157_5 rfl (lv_at hl 1 rfl) ?_
  refine lv_icmp_lt (tgt := 16) hx hb dJ3_checkIndex_8e157_6 (by decide) (fun _ => ?_) (fun k => absurd h2 k)
  refine lv_iload_n hx hb dJ3_checkIndex_8e157_16 rfl (lv_at hl 0 rfl) ?_
  exact sw_ri hx hb hr hlocks hW rfl ⟨h, rfl⟩ dJ3_checkIndex_8e157_17
theorem kJ3_R (l : Launch) (g : sG) (a1 a2 : Int32) (z : Nat) (M : sM) (Q : Int32 → Prop) (h1 : ¬ a1 < 0) (h2 : a1 < a2) (h : Q a1) : Met l yJ3_checkIndex_8e157 (sw_ws yJ3_checkIndex_8e157 cJ3_checkIndex_8e157 3 (some .int)) { frames := 0, cells := 0, slots := 0, locals := 0 } (va_Pc [.int a1, .int a2, .ref z] (sw_Pr g M)) (va_Qi (fun r M1 => Q r ∧ M1 = M) (sw_Po g) (sw_A g)) 0 0 (sw_A g) := by
  refine sw_met (by decide) (Nat.le_of_ble_eq_true rfl) ?_
  intro p e s m args below meth c ls hx hb hr hts hown hml hlocks hW hl
  have hown : s.vm.findClass RJ3 = some m.cls := hown
  have hl : lv_has ls 3 [(0, .int a1), (1, .int a2), (2, .ref z)] := hl
  have hF := hW.2.2
  refine lv_iload_n hx hb dJ3_checkIndex_8e157_0 rfl (lv_at hl 0 rfl) ?_
  refine lv_if_lt (tgt := 9) hx hb dJ3_checkIndex_8e157_1 (by decide) (fun k => absurd k h1) (fun _ => ?_)
  refine lv_iload_n hx hb dJ3_checkIndex_8e157_4 rfl (lv_at hl 0 rfl) ?_
  refine lv_iload_n hx hb dJ3_checkIndex_8e157_5 rfl (lv_at hl 1 rfl) ?_
  refine lv_icmp_lt (tgt := 16) hx hb dJ3_checkIndex_8e157_6 (by decide) (fun _ => ?_) (fun k => absurd h2 k)
  refine lv_iload_n hx hb dJ3_checkIndex_8e157_16 rfl (lv_at hl 0 rfl) ?_
  exact sw_ri hx hb hr hlocks hW rfl ⟨h, rfl⟩ dJ3_checkIndex_8e157_17
theorem kJ0_checkIndex (l : Launch) (g : sG) (a1 a2 : Int32) (M : sM) (Q : Prop) (h1 : ¬ a1 < 0) (h2 : a1 < a2) (h : Q) : Met l yJ0_checkIndex_df160 (sw_ws yJ0_checkIndex_df160 cJ0_checkIndex_df160 2 none) { frames := 1, cells := 0, slots := 0, locals := 22 } (va_Pc [.int a1, .int a2] (sw_Pr g M)) (va_Qv (fun M1 => Q ∧ M1 = M) (sw_Po g) (sw_A g)) 0 0 (sw_A g) := by
  refine sw_met (by decide) (Nat.le_of_ble_eq_true rfl) ?_
  intro p e s m args below meth c ls hx hb hr hts hown hml hlocks hW hl
  have hown : s.vm.findClass RJ0 = some m.cls := hown
  have hl : lv_has ls 2 [(0, .int a1), (1, .int a2)] := hl
  have hF := hW.2.2
  refine lv_iload_n hx hb dJ0_checkIndex_df160_0 rfl (lv_at hl 0 rfl) ?_
  refine lv_iload_n hx hb dJ0_checkIndex_df160_1 rfl (lv_at hl 1 rfl) ?_
  rcases hF.2.2.2.2.2.1.2.1 with hz | ⟨z, hz⟩
  · refine va_gets hx hb hz hW.2.1 hown (sw_w hts q_847) (fun _ h => h) dJ0_checkIndex_df160_2 ?_
    refine sw_ki (rest := []) (sw_runS (As := [.int a1, .int a2, .null]) (rest := []) hx hb hml hown hts (kJ3_N l g a1 a2 M (fun _ => True) h1 h2 trivial) cs_J3_checkIndex_8e157 q_916 rfl rfl ⟨Nat.le_of_ble_eq_true rfl, Nat.le_of_ble_eq_true rfl⟩ hW rfl hl.1 rfl (Nat.le_of_ble_eq_true rfl) dJ0_checkIndex_df160_5 ⟨Nat.le_of_ble_eq_true rfl, Nat.le_of_ble_eq_true rfl⟩) hW (fun r M9 H locs h9 hW => ?_)
    obtain ⟨e1, e2⟩ := h9
    rw [e2] at hW
    refine lv_pop hx hb dJ0_checkIndex_df160_8 rfl ?_
    exact sw_rv hx hb hr hlocks hW ⟨h, rfl⟩ dJ0_checkIndex_df160_9
  · refine va_gets hx hb hz hW.2.1 hown (sw_w hts q_847) (fun _ h => h) dJ0_checkIndex_df160_2 ?_
    refine sw_ki (rest := []) (sw_runS (As := [.int a1, .int a2, .ref z]) (rest := []) hx hb hml hown hts (kJ3_R l g a1 a2 z M (fun _ => True) h1 h2 trivial) cs_J3_checkIndex_8e157 q_916 rfl rfl ⟨Nat.le_of_ble_eq_true rfl, Nat.le_of_ble_eq_true rfl⟩ hW rfl hl.1 rfl (Nat.le_of_ble_eq_true rfl) dJ0_checkIndex_df160_5 ⟨Nat.le_of_ble_eq_true rfl, Nat.le_of_ble_eq_true rfl⟩) hW (fun r M9 H locs h9 hW => ?_)
    obtain ⟨e1, e2⟩ := h9
    rw [e2] at hW
    refine lv_pop hx hb dJ0_checkIndex_df160_8 rfl ?_
    exact sw_rv hx hb hr hlocks hW ⟨h, rfl⟩ dJ0_checkIndex_df160_9

theorem sw_bch (b : Int32) (h : b.toInt8.toInt32 = b ∧ 0 ≤ b) : ((b &&& 255).toUInt32 % 65536).toInt32 = b := by
  have h2 : ∀ n : Nat, n < 128 → (((nI n) &&& 255).toUInt32 % 65536).toInt32 = nI n := by decide +kernel
  obtain ⟨h, h0⟩ := h
  have hb := Int8.toInt_lt b.toInt8
  have e1 : b.toInt = b.toInt8.toInt := by rw [← h]; simp
  have h3 : 0 ≤ b.toInt := by simpa using Int32.le_iff_toInt_le.mp h0
  have e : b = nI b.toInt.toNat := by
    apply Int32.toInt_inj.mp
    rw [nI_toInt (by omega)]
    omega
  rw [e]
  exact h2 _ (by omega)
theorem sw_sb_ok : ∀ t, t < 18 → (sw_sb t).length < 100 ∧ ∀ b ∈ sw_sb t, (b.toInt8.toInt32 = b ∧ 0 ≤ b) ∧ narrow .char (.int b) = .int b := by decide +kernel
theorem kJ1_charAt_3b067 (l : Launch) (g : sG) (t : Nat) (ht : t < 18) (a1 : Int32) (M : sM) (Q : Int32 → Prop) (hi : vp_in a1 (sw_sb t).length) (h : Q ((sw_sb t).getD a1.toNatClampNeg 0)) : Met l yJ1_charAt_3b067 (sw_ws yJ1_charAt_3b067 cJ1_charAt_3b067 2 (some .char)) { frames := 2, cells := 0, slots := 0, locals := 50 } (va_Pc [.ref (sw_sv g t), .int a1] (sw_Pr g M)) (va_Qi (fun r M1 => Q r ∧ M1 = M) (sw_Po g) (sw_A g)) 0 0 (sw_A g) := by
  refine sw_met (by decide) (Nat.le_of_ble_eq_true rfl) ?_
  intro p e s m args below meth c ls hx hb hr hts hown hml hlocks hW hl
  have hown : s.vm.findClass RJ1 = some m.cls := hown
  have hl : lv_has ls 2 [(0, .ref (sw_sv g t)), (1, .int a1)] := hl
  have hF := hW.2.2
  have hT := (hF.2.2.2.2.2.2.1 t ht).2.2.2.1
  obtain ⟨hL, hB⟩ := sw_sb_ok t ht
  obtain ⟨j, hj, rfl⟩ := vp_in_of hi (by omega)
  rw [nI_clamp (by omega)] at h
  have h5 : ¬ nI j < 0 := nI_pos (by omega)
  have h6 : nI j < Int32.ofNat (sw_sb t).length := nI_lt hj (by omega)
  have hb3 := hB _ (List.getElem_mem hj)
  have e5 : (sw_sb t).getD j 0 = (sw_sb t)[j] := by simp [List.getD, hj]
  rw [← e5] at hb3
  refine lv_iload_n hx hb dJ1_charAt_3b067_0 rfl (lv_at hl 1 rfl) ?_
  refine lv_aload_n hx hb dJ1_charAt_3b067_1 rfl (lv_at hl 0 rfl) ?_
  refine va_tlen (v := Int32.ofNat (sw_sb t).length) hx hb hT hW.2.1 rfl dJ1_charAt_3b067_2 ?_
  refine sw_kv (rest := []) (sw_runS (As := [.int (nI j), .int (Int32.ofNat (sw_sb t).length)]) (rest := []) hx hb hml hown hts (kJ0_checkIndex l g _ _ M True h5 h6 trivial) cs_J0_checkIndex_df160 q_1046 rfl rfl ⟨Nat.le_of_ble_eq_true rfl, Nat.le_of_ble_eq_true rfl⟩ hW rfl hl.1 rfl (Nat.le_of_ble_eq_true rfl) dJ1_charAt_3b067_3 ⟨Nat.le_of_ble_eq_true rfl, Nat.le_of_ble_eq_true rfl⟩) hW (fun M9 H locs h9 hW => ?_)
  obtain ⟨e1, e2⟩ := h9
  rw [e2] at hW
  refine lv_aload_n hx hb dJ1_charAt_3b067_6 rfl (lv_at hl 0 rfl) ?_
  refine lv_iload_n hx hb dJ1_charAt_3b067_7 rfl (lv_at hl 1 rfl) ?_
  refine va_tb (v := .int ((sw_sb t).getD j 0)) hx hb hT hW.2.1 hi (by rw [nI_clamp (by omega)]) dJ1_charAt_3b067_8 ?_
  refine lv_sipush (v := 255) hx hb dJ1_charAt_3b067_9 (by decide) ?_
  refine lv_iand hx hb dJ1_charAt_3b067_12 ?_
  refine lv_i2c hx hb dJ1_charAt_3b067_13 rfl ?_
  rw [sw_bch _ hb3.1]
  exact sw_ri hx hb hr hlocks hW hb3.2 ⟨h, rfl⟩ dJ1_charAt_3b067_14
def wJ0_charAt_5068e (t : Nat) (a1 : Int32) (Q : Int32 → Prop) : Prop := vp_in a1 (sw_sb t).length ∧ Q ((sw_sb t).getD a1.toNatClampNeg 0)
theorem kJ0_charAt_5068e (l : Launch) (g : sG) (t : Nat) (ht : t < 18) (a1 : Int32) (M : sM) (Q : Int32 → Prop) (h : wJ0_charAt_5068e t a1 Q) : Met l yJ0_charAt_5068e (sw_ws yJ0_charAt_5068e cJ0_charAt_5068e 2 (some .char)) { frames := 3, cells := 0, slots := 0, locals := 80 } (va_Pc [.ref (sw_sk g t), .int a1] (sw_Pr g M)) (va_Qi (fun r M1 => Q r ∧ M1 = M) (sw_Po g) (sw_A g)) 0 0 (sw_A g) := by
  refine sw_met (by decide) (Nat.le_of_ble_eq_true rfl) ?_
  intro p e s m args below meth c ls hx hb hr hts hown hml hlocks hW hl
  have hown : s.vm.findClass RJ0 = some m.cls := hown
  have hl : lv_has ls 2 [(0, .ref (sw_sk g t)), (1, .int a1)] := hl
  have hF := hW.2.2
  obtain ⟨hi, h⟩ := h
  have hnar : narrow .char (.int ((sw_sb t).getD a1.toNatClampNeg 0)) = .int ((sw_sb t).getD a1.toNatClampNeg 0) := by
    have hj : a1.toNatClampNeg < (sw_sb t).length := Nat.not_le.mp fun q => hi (Or.inr q)
    have e5 : (sw_sb t).getD a1.toNatClampNeg 0 = (sw_sb t)[a1.toNatClampNeg] := by simp [List.getD, hj]
    rw [e5]
    exact ((sw_sb_ok t ht).2 _ (List.getElem_mem hj)).2
  refine lv_aload_n hx hb dJ0_charAt_5068e_0 rfl (lv_at hl 0 rfl) ?_
  refine sw_ki (rest := []) (sw_runVs (As := []) (rest := []) hx hb hml hown hts (kJ0_isLatin1_aae02 l g t ht M (fun r => r = 1) rfl) cv_J0_isLatin1_aae02 q_1039 rfl rfl ⟨Nat.le_of_ble_eq_true rfl, Nat.le_of_ble_eq_true rfl⟩ hW ht rfl hl.1 rfl (Nat.le_of_ble_eq_true rfl) dJ0_charAt_5068e_1 ⟨Nat.le_of_ble_eq_true rfl, Nat.le_of_ble_eq_true rfl⟩) hW (fun r M9 H locs h9 hW => ?_)
  obtain ⟨e1, e2⟩ := h9
  rw [e2] at hW
  subst e1
  refine lv_if_eq (tgt := 16) hx hb dJ0_charAt_5068e_4 (by decide) (fun k => absurd k (by decide)) (fun _ => ?_)
  refine lv_aload_n hx hb dJ0_charAt_5068e_7 rfl (lv_at hl 0 rfl) ?_
  refine vk_getf hx hb (hF.2.2.2.2.2.2.1 t ht).2.2.1 hW.2.1 hown (sw_w hts q_998) (fun _ h => h) dJ0_charAt_5068e_8 ?_
  refine lv_iload_n hx hb dJ0_charAt_5068e_11 rfl (lv_at hl 1 rfl) ?_
  refine sw_ki (rest := []) (sw_runS (As := [.ref (sw_sv g t), .int a1]) (rest := []) hx hb hml hown hts (kJ1_charAt_3b067 l g t ht a1 M (fun r => r = (sw_sb t).getD a1.toNatClampNeg 0) hi rfl) cs_J1_charAt_3b067 q_1043 rfl rfl ⟨Nat.le_of_ble_eq_true rfl, Nat.le_of_ble_eq_true rfl⟩ hW rfl hl.1 rfl (Nat.le_of_ble_eq_true rfl) dJ0_charAt_5068e_12 ⟨Nat.le_of_ble_eq_true rfl, Nat.le_of_ble_eq_true rfl⟩) hW (fun r M9 H locs h9 hW => ?_)
  obtain ⟨e1, e2⟩ := h9
  rw [e2] at hW
  subst e1
  exact sw_ri hx hb hr hlocks hW hnar ⟨h, rfl⟩ dJ0_charAt_5068e_15
