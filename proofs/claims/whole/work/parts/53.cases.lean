/-! The law's cases, one by one, from the switch to the join. -/
def zLw (p : Program) (l : Launch) (s : State) (m : MethodId) (meth : Method) (c : Code) (b L : Nat) (xs : Nat → Int32) (g : sG) : Prop :=
  p.tables.exec = Jvm.exec ∧ c.code = code ∧ c.maxLocals = 9 ∧ s.vm.findClass RL = some m.cls ∧ (∀ w ∈ Cond.codeWith yL_addDoor cL_addDoor 5 (some .int) [(0, 10, 13, 13), (0, 10, 17, 15)] :: sw_all, w.before #[Value.ref b] s = true) ∧ va_X b L xs s s.heap ∧ b < s.heap.size ∧ ¬ sw_A g b ∧ l.stackTraces = false
abbrev zLs (g : sG) (b : Nat) (i : Int32) : List (Nat × Value) := [(5, .int i), (0, .ref b), (1, .ref (sw_ad g 0)), (2, .ref (sw_ad g 33)), (3, .ref (sw_ad g 233)), (4, .ref (sw_ad g 234))]
def wcase_0 (L : Nat) (xs : Nat → Int32) (i : Int32) (M : sM) (o : sO) (d : sE) (N : sM → sO → sE → Prop) : Prop :=
  vp_in (i + (1 : Int32)) L ∧ (∀ v2 : Int32, v2 = (((xs ((i + (1 : Int32))).toNatClampNeg)).toUInt32 % 65536).toInt32 → (vp_in (i + (2 : Int32)) L ∧ (wL_addDoor v2 (xs ((i + (2 : Int32))).toNatClampNeg) M o d (fun r4 M5 o6 d7 => vp_in (i + (1 : Int32)) L ∧ (∀ v9 : Int32, v9 = (((xs ((i + (1 : Int32))).toNatClampNeg)).toUInt32 % 65536).toInt32 → (vp_in (i + (2 : Int32)) L ∧ (wX7_addDoor v9 (xs ((i + (2 : Int32))).toNatClampNeg) M5 (fun r11 M12 => wX7_thrown M12 (fun r13 => (r13 = r4 → ((r4 = 0 → (((lg_cmp (o6 ((0 : Int32)).toNatClampNeg) (r11).toInt64) = 0 → (N M12 o6 d7)) ∧ (¬ (lg_cmp (o6 ((0 : Int32)).toNatClampNeg) (r11).toInt64) = 0 → (False)))) ∧ (¬ r4 = 0 → (N M12 o6 d7)))) ∧ (¬ r13 = r4 → (False)))))))))))
set_option maxRecDepth 20000 in
theorem kcase_0 {p : Program} {l : Launch} {e : Env} {s : State} {m : MethodId} {below : List Frame} {meth : Method} {c : Code} {H : Heap} {locs : List Loc} {cells slots : Nat} {Q : State → Prop} {ls : Array Slot} {g : sG} {b L : Nat} {xs : Nat → Int32} (Z : zLw p l s m meth c b L xs g) {i : Int32} {M : sM} {o : sO} {d : sE} {N : sM → sO → sE → Prop} (hl : lv_has ls 9 (zLs g b i)) (hW : sw_Wd g o d M s H locs) (hc : cells + 8 ≤ 603072) (hs : slots + 48 ≤ 7211114) (h : wcase_0 L xs i M o d N)
    (nx : ∀ (M : sM) (o : sO) (d : sE) (H : Heap) (locs : List Loc) (ls : Array Slot) (cells' slots' : Nat), cells' ≤ cells + 8 → slots' ≤ slots + 48 → lv_has ls 9 (zLs g b i) → sw_Wd g o d M s H locs → N M o d → W p l e room_1 s m #[Value.ref b] below meth c H locs cells' slots' Q (F0 m 2873 ls [])) : W p l e room_1 s m #[Value.ref b] below meth c H locs cells slots Q (F0 m 272 ls []) := by
  obtain ⟨hx, hb, hml, hown, hts, hX, hbl, hbA, hst⟩ := Z
  unfold wcase_0 at h
  refine lv_aload_n hx hb dL_law_272 rfl (lv_at hl 2 rfl) ?_
  refine lv_aload_n hx hb dL_law_273 rfl (lv_at hl 1 rfl) ?_
  refine lv_iload hx hb dL_law_274 (lv_at hl 0 rfl) ?_
  refine lv_iconst (v := 1) hx hb dL_law_276 (by decide) ?_
  refine lv_iadd hx hb dL_law_277 ?_
  have b1 := h.1
  have h := h.2
  refine va_sld hx hb hX hbl hbA hW.2.1 b1 dL_law_278 ?_
  refine lv_i2c hx hb dL_law_279 rfl ?_
  refine lv_topi (fun v2 ev2 => ?_)
  have h := h v2 ev2
  refine lv_aload_n hx hb dL_law_280 rfl (lv_at hl 1 rfl) ?_
  refine lv_iload hx hb dL_law_281 (lv_at hl 0 rfl) ?_
  refine lv_iconst (v := 2) hx hb dL_law_283 (by decide) ?_
  refine lv_iadd hx hb dL_law_284 ?_
  have b3 := h.1
  have h := h.2
  refine va_sld hx hb hX hbl hbA hW.2.1 b3 dL_law_285 ?_
  refine lv_aload_n hx hb dL_law_286 rfl (lv_at hl 4 rfl) ?_
  refine sw_k3 (rest := []) (sw_runH (As := [.ref (sw_ad g 0), .int v2, .int (xs ((i + (2 : Int32))).toNatClampNeg), .ref (sw_ad g 233)]) (rest := []) hx hb hml hown hts (kL_addDoor l hst g v2 (xs ((i + (2 : Int32))).toNatClampNeg) M o d _ h) ch_L_addDoor q_403 rfl rfl ⟨(Nat.le_of_ble_eq_true rfl), (Nat.le_of_ble_eq_true rfl)⟩ hW rfl hl.1 rfl (Nat.le_of_ble_eq_true rfl) dL_law_287 ⟨by show _ ≤ 603072; omega, by show _ ≤ 7211114; omega⟩) hW (fun r4 M5 o6 d7 H locs h hW => ?_)
  refine lv_istore (lv' := [(6, .int r4), (5, .int i), (0, .ref b), (1, .ref (sw_ad g 0)), (2, .ref (sw_ad g 33)), (3, .ref (sw_ad g 233)), (4, .ref (sw_ad g 234))]) hx hb dL_law_290 hl (Nat.le_of_ble_eq_true rfl) rfl (fun ls hl => ?_)
  refine lv_aload_n hx hb dL_law_292 rfl (lv_at hl 4 rfl) ?_
  refine lv_aload_n hx hb dL_law_293 rfl (lv_at hl 2 rfl) ?_
  refine lv_iload hx hb dL_law_294 (lv_at hl 1 rfl) ?_
  refine lv_iconst (v := 1) hx hb dL_law_296 (by decide) ?_
  refine lv_iadd hx hb dL_law_297 ?_
  have b8 := h.1
  have h := h.2
  refine va_sld hx hb hX hbl hbA hW.2.1 b8 dL_law_298 ?_
  refine lv_i2c hx hb dL_law_299 rfl ?_
  refine lv_topi (fun v9 ev9 => ?_)
  have h := h v9 ev9
  refine lv_aload_n hx hb dL_law_300 rfl (lv_at hl 2 rfl) ?_
  refine lv_iload hx hb dL_law_301 (lv_at hl 1 rfl) ?_
  refine lv_iconst (v := 2) hx hb dL_law_303 (by decide) ?_
  refine lv_iadd hx hb dL_law_304 ?_
  have b10 := h.1
  have h := h.2
  refine va_sld hx hb hX hbl hbA hW.2.1 b10 dL_law_305 ?_
  refine sw_ki (rest := []) (sw_runV (As := [.int v9, .int (xs ((i + (2 : Int32))).toNatClampNeg)]) (rest := []) hx hb hml hown hts (kX7_addDoor l g o6 d7 v9 (xs ((i + (2 : Int32))).toNatClampNeg) M5 _ h) cv_X7_addDoor q_970 rfl rfl ⟨(Nat.le_of_ble_eq_true rfl), (Nat.le_of_ble_eq_true rfl)⟩ hW (Nat.le_of_ble_eq_true rfl) sl_33 rfl rfl hl.1 rfl (Nat.le_of_ble_eq_true rfl) dL_law_306 ⟨by show _ ≤ 603072; omega, by show _ ≤ 7211114; omega⟩) hW (fun r11 M12 H locs h hW => ?_)
  refine lv_istore (lv' := [(7, .int r11), (6, .int r4), (5, .int i), (0, .ref b), (1, .ref (sw_ad g 0)), (2, .ref (sw_ad g 33)), (3, .ref (sw_ad g 233)), (4, .ref (sw_ad g 234))]) hx hb dL_law_309 hl (Nat.le_of_ble_eq_true rfl) rfl (fun ls hl => ?_)
  refine lv_aload_n hx hb dL_law_311 rfl (lv_at hl 5 rfl) ?_
  refine sw_ki (rest := []) (sw_runV (As := []) (rest := []) hx hb hml hown hts (kX7_thrown l g o6 d7 M12 _ h) cv_X7_thrown q_966 rfl rfl ⟨(Nat.le_of_ble_eq_true rfl), (Nat.le_of_ble_eq_true rfl)⟩ hW (Nat.le_of_ble_eq_true rfl) sl_33 rfl rfl hl.1 rfl (Nat.le_of_ble_eq_true rfl) dL_law_312 ⟨by show _ ≤ 603072; omega, by show _ ≤ 7211114; omega⟩) hW (fun r13 M17 H locs h hW => ?_)
  obtain ⟨h, eM17⟩ := h
  rw [eM17] at hW
  refine lv_iload hx hb dL_law_315 (lv_at hl 1 rfl) ?_
  refine lv_icmp_eq (tgt := 322) hx hb dL_law_317 (by decide) (fun k14 => ?_) (fun k14 => ?_)
  · have h := h.1 k14
    refine lv_iload hx hb dL_law_322 (lv_at hl 1 rfl) ?_
    refine lv_if_ne (tgt := 339) hx hb dL_law_324 (by decide) (fun k15 => ?_) (fun k15 => ?_)
    · have h := h.2 k15
      refine lv_goto (tgt := 2873) hx hb dL_law_339 (by decide) ?_
      exact nx M12 o6 d7 _ _ _ _ _ (by omega) (by omega) (lv_sub hl [2, 3, 4, 5, 6, 7] rfl) hW h
    · have h := h.1 k15
      refine lv_aload_n hx hb dL_law_327 rfl (lv_at hl 6 rfl) ?_
      refine lv_iconst (v := 0) hx hb dL_law_328 (by decide) ?_
      refine sw_ll hx hb hW (vp_in_iff.mpr (by decide)) dL_law_329 ?_
      refine lv_iload hx hb dL_law_330 (lv_at hl 0 rfl) ?_
      refine lv_i2l hx hb dL_law_332 rfl ?_
      refine W.lcmp hx hb dL_law_333 ?_
      refine lv_if_eq (tgt := 339) hx hb dL_law_334 (by decide) (fun k16 => ?_) (fun k16 => ?_)
      · have h := h.1 k16
        refine lv_goto (tgt := 2873) hx hb dL_law_339 (by decide) ?_
        exact nx M12 o6 d7 _ _ _ _ _ (by omega) (by omega) (lv_sub hl [2, 3, 4, 5, 6, 7] rfl) hW h
      · have h := h.2 k16
        refine lv_iconst (v := 0) hx hb dL_law_337 (by decide) ?_
        exact h.elim
  · have h := h.2 k14
    refine lv_iconst (v := 0) hx hb dL_law_320 (by decide) ?_
    exact h.elim
def wcase_1 (L : Nat) (xs : Nat → Int32) (i : Int32) (M : sM) (o : sO) (d : sE) (N : sM → sO → sE → Prop) : Prop :=
  vp_in (i + (1 : Int32)) L ∧ (∀ v2 : Int32, v2 = (((xs ((i + (1 : Int32))).toNatClampNeg)).toUInt32 % 65536).toInt32 → (vp_in (i + (2 : Int32)) L ∧ (vp_in (i + (3 : Int32)) L ∧ (vp_in (i + (4 : Int32)) L ∧ (wL_addExaminer v2 (xs ((i + (2 : Int32))).toNatClampNeg) (xs ((i + (3 : Int32))).toNatClampNeg) (xs ((i + (4 : Int32))).toNatClampNeg) M o d (fun r6 M7 o8 d9 => vp_in (i + (1 : Int32)) L ∧ (∀ v11 : Int32, v11 = (((xs ((i + (1 : Int32))).toNatClampNeg)).toUInt32 % 65536).toInt32 → (vp_in (i + (2 : Int32)) L ∧ (vp_in (i + (3 : Int32)) L ∧ (vp_in (i + (4 : Int32)) L ∧ (wX7_addExaminer v11 (xs ((i + (2 : Int32))).toNatClampNeg) (xs ((i + (3 : Int32))).toNatClampNeg) (xs ((i + (4 : Int32))).toNatClampNeg) M7 (fun r15 M16 => wX7_thrown M16 (fun r17 => (r17 = r6 → ((r6 = 0 → (((lg_cmp (o8 ((0 : Int32)).toNatClampNeg) (r15).toInt64) = 0 → (N M16 o8 d9)) ∧ (¬ (lg_cmp (o8 ((0 : Int32)).toNatClampNeg) (r15).toInt64) = 0 → (False)))) ∧ (¬ r6 = 0 → (N M16 o8 d9)))) ∧ (¬ r17 = r6 → (False)))))))))))))))
set_option maxRecDepth 20000 in
theorem kcase_1 {p : Program} {l : Launch} {e : Env} {s : State} {m : MethodId} {below : List Frame} {meth : Method} {c : Code} {H : Heap} {locs : List Loc} {cells slots : Nat} {Q : State → Prop} {ls : Array Slot} {g : sG} {b L : Nat} {xs : Nat → Int32} (Z : zLw p l s m meth c b L xs g) {i : Int32} {M : sM} {o : sO} {d : sE} {N : sM → sO → sE → Prop} (hl : lv_has ls 9 (zLs g b i)) (hW : sw_Wd g o d M s H locs) (hc : cells + 8 ≤ 603072) (hs : slots + 48 ≤ 7211114) (h : wcase_1 L xs i M o d N)
    (nx : ∀ (M : sM) (o : sO) (d : sE) (H : Heap) (locs : List Loc) (ls : Array Slot) (cells' slots' : Nat), cells' ≤ cells + 8 → slots' ≤ slots + 48 → lv_has ls 9 (zLs g b i) → sw_Wd g o d M s H locs → N M o d → W p l e room_1 s m #[Value.ref b] below meth c H locs cells' slots' Q (F0 m 2873 ls [])) : W p l e room_1 s m #[Value.ref b] below meth c H locs cells slots Q (F0 m 342 ls []) := by
  obtain ⟨hx, hb, hml, hown, hts, hX, hbl, hbA, hst⟩ := Z
  unfold wcase_1 at h
  refine lv_aload_n hx hb dL_law_342 rfl (lv_at hl 2 rfl) ?_
  refine lv_aload_n hx hb dL_law_343 rfl (lv_at hl 1 rfl) ?_
  refine lv_iload hx hb dL_law_344 (lv_at hl 0 rfl) ?_
  refine lv_iconst (v := 1) hx hb dL_law_346 (by decide) ?_
  refine lv_iadd hx hb dL_law_347 ?_
  have b1 := h.1
  have h := h.2
  refine va_sld hx hb hX hbl hbA hW.2.1 b1 dL_law_348 ?_
  refine lv_i2c hx hb dL_law_349 rfl ?_
  refine lv_topi (fun v2 ev2 => ?_)
  have h := h v2 ev2
  refine lv_aload_n hx hb dL_law_350 rfl (lv_at hl 1 rfl) ?_
  refine lv_iload hx hb dL_law_351 (lv_at hl 0 rfl) ?_
  refine lv_iconst (v := 2) hx hb dL_law_353 (by decide) ?_
  refine lv_iadd hx hb dL_law_354 ?_
  have b3 := h.1
  have h := h.2
  refine va_sld hx hb hX hbl hbA hW.2.1 b3 dL_law_355 ?_
  refine lv_aload_n hx hb dL_law_356 rfl (lv_at hl 1 rfl) ?_
  refine lv_iload hx hb dL_law_357 (lv_at hl 0 rfl) ?_
  refine lv_iconst (v := 3) hx hb dL_law_359 (by decide) ?_
  refine lv_iadd hx hb dL_law_360 ?_
  have b4 := h.1
  have h := h.2
  refine va_sld hx hb hX hbl hbA hW.2.1 b4 dL_law_361 ?_
  refine lv_aload_n hx hb dL_law_362 rfl (lv_at hl 1 rfl) ?_
  refine lv_iload hx hb dL_law_363 (lv_at hl 0 rfl) ?_
  refine lv_iconst (v := 4) hx hb dL_law_365 (by decide) ?_
  refine lv_iadd hx hb dL_law_366 ?_
  have b5 := h.1
  have h := h.2
  refine va_sld hx hb hX hbl hbA hW.2.1 b5 dL_law_367 ?_
  refine lv_aload_n hx hb dL_law_368 rfl (lv_at hl 4 rfl) ?_
  refine sw_k3 (rest := []) (sw_runH (As := [.ref (sw_ad g 0), .int v2, .int (xs ((i + (2 : Int32))).toNatClampNeg), .int (xs ((i + (3 : Int32))).toNatClampNeg), .int (xs ((i + (4 : Int32))).toNatClampNeg), .ref (sw_ad g 233)]) (rest := []) hx hb hml hown hts (kL_addExaminer l hst g v2 (xs ((i + (2 : Int32))).toNatClampNeg) (xs ((i + (3 : Int32))).toNatClampNeg) (xs ((i + (4 : Int32))).toNatClampNeg) M o d _ h) ch_L_addExaminer q_417 rfl rfl ⟨(Nat.le_of_ble_eq_true rfl), (Nat.le_of_ble_eq_true rfl)⟩ hW rfl hl.1 rfl (Nat.le_of_ble_eq_true rfl) dL_law_369 ⟨by show _ ≤ 603072; omega, by show _ ≤ 7211114; omega⟩) hW (fun r6 M7 o8 d9 H locs h hW => ?_)
  refine lv_istore (lv' := [(6, .int r6), (5, .int i), (0, .ref b), (1, .ref (sw_ad g 0)), (2, .ref (sw_ad g 33)), (3, .ref (sw_ad g 233)), (4, .ref (sw_ad g 234))]) hx hb dL_law_372 hl (Nat.le_of_ble_eq_true rfl) rfl (fun ls hl => ?_)
  refine lv_aload_n hx hb dL_law_374 rfl (lv_at hl 4 rfl) ?_
  refine lv_aload_n hx hb dL_law_375 rfl (lv_at hl 2 rfl) ?_
  refine lv_iload hx hb dL_law_376 (lv_at hl 1 rfl) ?_
  refine lv_iconst (v := 1) hx hb dL_law_378 (by decide) ?_
  refine lv_iadd hx hb dL_law_379 ?_
  have b10 := h.1
  have h := h.2
  refine va_sld hx hb hX hbl hbA hW.2.1 b10 dL_law_380 ?_
  refine lv_i2c hx hb dL_law_381 rfl ?_
  refine lv_topi (fun v11 ev11 => ?_)
  have h := h v11 ev11
  refine lv_aload_n hx hb dL_law_382 rfl (lv_at hl 2 rfl) ?_
  refine lv_iload hx hb dL_law_383 (lv_at hl 1 rfl) ?_
  refine lv_iconst (v := 2) hx hb dL_law_385 (by decide) ?_
  refine lv_iadd hx hb dL_law_386 ?_
  have b12 := h.1
  have h := h.2
  refine va_sld hx hb hX hbl hbA hW.2.1 b12 dL_law_387 ?_
  refine lv_aload_n hx hb dL_law_388 rfl (lv_at hl 2 rfl) ?_
  refine lv_iload hx hb dL_law_389 (lv_at hl 1 rfl) ?_
  refine lv_iconst (v := 3) hx hb dL_law_391 (by decide) ?_
  refine lv_iadd hx hb dL_law_392 ?_
  have b13 := h.1
  have h := h.2
  refine va_sld hx hb hX hbl hbA hW.2.1 b13 dL_law_393 ?_
  refine lv_aload_n hx hb dL_law_394 rfl (lv_at hl 2 rfl) ?_
  refine lv_iload hx hb dL_law_395 (lv_at hl 1 rfl) ?_
  refine lv_iconst (v := 4) hx hb dL_law_397 (by decide) ?_
  refine lv_iadd hx hb dL_law_398 ?_
  have b14 := h.1
  have h := h.2
  refine va_sld hx hb hX hbl hbA hW.2.1 b14 dL_law_399 ?_
  refine sw_ki (rest := []) (sw_runV (As := [.int v11, .int (xs ((i + (2 : Int32))).toNatClampNeg), .int (xs ((i + (3 : Int32))).toNatClampNeg), .int (xs ((i + (4 : Int32))).toNatClampNeg)]) (rest := []) hx hb hml hown hts (kX7_addExaminer l g o8 d9 v11 (xs ((i + (2 : Int32))).toNatClampNeg) (xs ((i + (3 : Int32))).toNatClampNeg) (xs ((i + (4 : Int32))).toNatClampNeg) M7 _ h) cv_X7_addExaminer q_995 rfl rfl ⟨(Nat.le_of_ble_eq_true rfl), (Nat.le_of_ble_eq_true rfl)⟩ hW (Nat.le_of_ble_eq_true rfl) sl_33 rfl rfl hl.1 rfl (Nat.le_of_ble_eq_true rfl) dL_law_400 ⟨by show _ ≤ 603072; omega, by show _ ≤ 7211114; omega⟩) hW (fun r15 M16 H locs h hW => ?_)
  refine lv_istore (lv' := [(7, .int r15), (6, .int r6), (5, .int i), (0, .ref b), (1, .ref (sw_ad g 0)), (2, .ref (sw_ad g 33)), (3, .ref (sw_ad g 233)), (4, .ref (sw_ad g 234))]) hx hb dL_law_403 hl (Nat.le_of_ble_eq_true rfl) rfl (fun ls hl => ?_)
  refine lv_aload_n hx hb dL_law_405 rfl (lv_at hl 5 rfl) ?_
  refine sw_ki (rest := []) (sw_runV (As := []) (rest := []) hx hb hml hown hts (kX7_thrown l g o8 d9 M16 _ h) cv_X7_thrown q_966 rfl rfl ⟨(Nat.le_of_ble_eq_true rfl), (Nat.le_of_ble_eq_true rfl)⟩ hW (Nat.le_of_ble_eq_true rfl) sl_33 rfl rfl hl.1 rfl (Nat.le_of_ble_eq_true rfl) dL_law_406 ⟨by show _ ≤ 603072; omega, by show _ ≤ 7211114; omega⟩) hW (fun r17 M21 H locs h hW => ?_)
  obtain ⟨h, eM21⟩ := h
  rw [eM21] at hW
  refine lv_iload hx hb dL_law_409 (lv_at hl 1 rfl) ?_
  refine lv_icmp_eq (tgt := 416) hx hb dL_law_411 (by decide) (fun k18 => ?_) (fun k18 => ?_)
  · have h := h.1 k18
    refine lv_iload hx hb dL_law_416 (lv_at hl 1 rfl) ?_
    refine lv_if_ne (tgt := 433) hx hb dL_law_418 (by decide) (fun k19 => ?_) (fun k19 => ?_)
    · have h := h.2 k19
      refine lv_goto (tgt := 2873) hx hb dL_law_433 (by decide) ?_
      exact nx M16 o8 d9 _ _ _ _ _ (by omega) (by omega) (lv_sub hl [2, 3, 4, 5, 6, 7] rfl) hW h
    · have h := h.1 k19
      refine lv_aload_n hx hb dL_law_421 rfl (lv_at hl 6 rfl) ?_
      refine lv_iconst (v := 0) hx hb dL_law_422 (by decide) ?_
      refine sw_ll hx hb hW (vp_in_iff.mpr (by decide)) dL_law_423 ?_
      refine lv_iload hx hb dL_law_424 (lv_at hl 0 rfl) ?_
      refine lv_i2l hx hb dL_law_426 rfl ?_
      refine W.lcmp hx hb dL_law_427 ?_
      refine lv_if_eq (tgt := 433) hx hb dL_law_428 (by decide) (fun k20 => ?_) (fun k20 => ?_)
      · have h := h.1 k20
        refine lv_goto (tgt := 2873) hx hb dL_law_433 (by decide) ?_
        exact nx M16 o8 d9 _ _ _ _ _ (by omega) (by omega) (lv_sub hl [2, 3, 4, 5, 6, 7] rfl) hW h
      · have h := h.2 k20
        refine lv_iconst (v := 0) hx hb dL_law_431 (by decide) ?_
        exact h.elim
  · have h := h.2 k18
    refine lv_iconst (v := 0) hx hb dL_law_414 (by decide) ?_
    exact h.elim
def wcase_2 (L : Nat) (xs : Nat → Int32) (i : Int32) (M : sM) (o : sO) (d : sE) (N : sM → sO → sE → Prop) : Prop :=
  vp_in (i + (1 : Int32)) L ∧ (vp_in (i + (2 : Int32)) L ∧ (wL_declareConflict (xs ((i + (1 : Int32))).toNatClampNeg) (xs ((i + (2 : Int32))).toNatClampNeg) M o d (fun r3 M4 o5 d6 => vp_in (i + (1 : Int32)) L ∧ (vp_in (i + (2 : Int32)) L ∧ (wX7_declareConflict (xs ((i + (1 : Int32))).toNatClampNeg) (xs ((i + (2 : Int32))).toNatClampNeg) M4 (fun r9 M10 => wX7_thrown M10 (fun r11 => (r11 = r3 → ((r3 = 0 → (((lg_cmp (o5 ((0 : Int32)).toNatClampNeg) (r9).toInt64) = 0 → (N M10 o5 d6)) ∧ (¬ (lg_cmp (o5 ((0 : Int32)).toNatClampNeg) (r9).toInt64) = 0 → (False)))) ∧ (¬ r3 = 0 → (N M10 o5 d6)))) ∧ (¬ r11 = r3 → (False)))))))))
set_option maxRecDepth 20000 in
theorem kcase_2 {p : Program} {l : Launch} {e : Env} {s : State} {m : MethodId} {below : List Frame} {meth : Method} {c : Code} {H : Heap} {locs : List Loc} {cells slots : Nat} {Q : State → Prop} {ls : Array Slot} {g : sG} {b L : Nat} {xs : Nat → Int32} (Z : zLw p l s m meth c b L xs g) {i : Int32} {M : sM} {o : sO} {d : sE} {N : sM → sO → sE → Prop} (hl : lv_has ls 9 (zLs g b i)) (hW : sw_Wd g o d M s H locs) (hc : cells + 8 ≤ 603072) (hs : slots + 48 ≤ 7211114) (h : wcase_2 L xs i M o d N)
    (nx : ∀ (M : sM) (o : sO) (d : sE) (H : Heap) (locs : List Loc) (ls : Array Slot) (cells' slots' : Nat), cells' ≤ cells + 8 → slots' ≤ slots + 48 → lv_has ls 9 (zLs g b i) → sw_Wd g o d M s H locs → N M o d → W p l e room_1 s m #[Value.ref b] below meth c H locs cells' slots' Q (F0 m 2873 ls [])) : W p l e room_1 s m #[Value.ref b] below meth c H locs cells slots Q (F0 m 436 ls []) := by
  obtain ⟨hx, hb, hml, hown, hts, hX, hbl, hbA, hst⟩ := Z
  unfold wcase_2 at h
  refine lv_aload_n hx hb dL_law_436 rfl (lv_at hl 2 rfl) ?_
  refine lv_aload_n hx hb dL_law_437 rfl (lv_at hl 1 rfl) ?_
  refine lv_iload hx hb dL_law_438 (lv_at hl 0 rfl) ?_
  refine lv_iconst (v := 1) hx hb dL_law_440 (by decide) ?_
  refine lv_iadd hx hb dL_law_441 ?_
  have b1 := h.1
  have h := h.2
  refine va_sld hx hb hX hbl hbA hW.2.1 b1 dL_law_442 ?_
  refine lv_aload_n hx hb dL_law_443 rfl (lv_at hl 1 rfl) ?_
  refine lv_iload hx hb dL_law_444 (lv_at hl 0 rfl) ?_
  refine lv_iconst (v := 2) hx hb dL_law_446 (by decide) ?_
  refine lv_iadd hx hb dL_law_447 ?_
  have b2 := h.1
  have h := h.2
  refine va_sld hx hb hX hbl hbA hW.2.1 b2 dL_law_448 ?_
  refine lv_aload_n hx hb dL_law_449 rfl (lv_at hl 4 rfl) ?_
  refine sw_k3 (rest := []) (sw_runH (As := [.ref (sw_ad g 0), .int (xs ((i + (1 : Int32))).toNatClampNeg), .int (xs ((i + (2 : Int32))).toNatClampNeg), .ref (sw_ad g 233)]) (rest := []) hx hb hml hown hts (kL_declareConflict l hst g (xs ((i + (1 : Int32))).toNatClampNeg) (xs ((i + (2 : Int32))).toNatClampNeg) M o d _ h) ch_L_declareConflict q_427 rfl rfl ⟨(Nat.le_of_ble_eq_true rfl), (Nat.le_of_ble_eq_true rfl)⟩ hW rfl hl.1 rfl (Nat.le_of_ble_eq_true rfl) dL_law_450 ⟨by show _ ≤ 603072; omega, by show _ ≤ 7211114; omega⟩) hW (fun r3 M4 o5 d6 H locs h hW => ?_)
  refine lv_istore (lv' := [(6, .int r3), (5, .int i), (0, .ref b), (1, .ref (sw_ad g 0)), (2, .ref (sw_ad g 33)), (3, .ref (sw_ad g 233)), (4, .ref (sw_ad g 234))]) hx hb dL_law_453 hl (Nat.le_of_ble_eq_true rfl) rfl (fun ls hl => ?_)
  refine lv_aload_n hx hb dL_law_455 rfl (lv_at hl 4 rfl) ?_
  refine lv_aload_n hx hb dL_law_456 rfl (lv_at hl 2 rfl) ?_
  refine lv_iload hx hb dL_law_457 (lv_at hl 1 rfl) ?_
  refine lv_iconst (v := 1) hx hb dL_law_459 (by decide) ?_
  refine lv_iadd hx hb dL_law_460 ?_
  have b7 := h.1
  have h := h.2
  refine va_sld hx hb hX hbl hbA hW.2.1 b7 dL_law_461 ?_
  refine lv_aload_n hx hb dL_law_462 rfl (lv_at hl 2 rfl) ?_
  refine lv_iload hx hb dL_law_463 (lv_at hl 1 rfl) ?_
  refine lv_iconst (v := 2) hx hb dL_law_465 (by decide) ?_
  refine lv_iadd hx hb dL_law_466 ?_
  have b8 := h.1
  have h := h.2
  refine va_sld hx hb hX hbl hbA hW.2.1 b8 dL_law_467 ?_
  refine sw_ki (rest := []) (sw_runV (As := [.int (xs ((i + (1 : Int32))).toNatClampNeg), .int (xs ((i + (2 : Int32))).toNatClampNeg)]) (rest := []) hx hb hml hown hts (kX7_declareConflict l g o5 d6 (xs ((i + (1 : Int32))).toNatClampNeg) (xs ((i + (2 : Int32))).toNatClampNeg) M4 _ h) cv_X7_declareConflict q_1002 rfl rfl ⟨(Nat.le_of_ble_eq_true rfl), (Nat.le_of_ble_eq_true rfl)⟩ hW (Nat.le_of_ble_eq_true rfl) sl_33 rfl rfl hl.1 rfl (Nat.le_of_ble_eq_true rfl) dL_law_468 ⟨by show _ ≤ 603072; omega, by show _ ≤ 7211114; omega⟩) hW (fun r9 M10 H locs h hW => ?_)
  refine lv_istore (lv' := [(7, .int r9), (6, .int r3), (5, .int i), (0, .ref b), (1, .ref (sw_ad g 0)), (2, .ref (sw_ad g 33)), (3, .ref (sw_ad g 233)), (4, .ref (sw_ad g 234))]) hx hb dL_law_471 hl (Nat.le_of_ble_eq_true rfl) rfl (fun ls hl => ?_)
  refine lv_aload_n hx hb dL_law_473 rfl (lv_at hl 5 rfl) ?_
  refine sw_ki (rest := []) (sw_runV (As := []) (rest := []) hx hb hml hown hts (kX7_thrown l g o5 d6 M10 _ h) cv_X7_thrown q_966 rfl rfl ⟨(Nat.le_of_ble_eq_true rfl), (Nat.le_of_ble_eq_true rfl)⟩ hW (Nat.le_of_ble_eq_true rfl) sl_33 rfl rfl hl.1 rfl (Nat.le_of_ble_eq_true rfl) dL_law_474 ⟨by show _ ≤ 603072; omega, by show _ ≤ 7211114; omega⟩) hW (fun r11 M15 H locs h hW => ?_)
  obtain ⟨h, eM15⟩ := h
  rw [eM15] at hW
  refine lv_iload hx hb dL_law_477 (lv_at hl 1 rfl) ?_
  refine lv_icmp_eq (tgt := 484) hx hb dL_law_479 (by decide) (fun k12 => ?_) (fun k12 => ?_)
  · have h := h.1 k12
    refine lv_iload hx hb dL_law_484 (lv_at hl 1 rfl) ?_
    refine lv_if_ne (tgt := 501) hx hb dL_law_486 (by decide) (fun k13 => ?_) (fun k13 => ?_)
    · have h := h.2 k13
      refine lv_goto (tgt := 2873) hx hb dL_law_501 (by decide) ?_
      exact nx M10 o5 d6 _ _ _ _ _ (by omega) (by omega) (lv_sub hl [2, 3, 4, 5, 6, 7] rfl) hW h
    · have h := h.1 k13
      refine lv_aload_n hx hb dL_law_489 rfl (lv_at hl 6 rfl) ?_
      refine lv_iconst (v := 0) hx hb dL_law_490 (by decide) ?_
      refine sw_ll hx hb hW (vp_in_iff.mpr (by decide)) dL_law_491 ?_
      refine lv_iload hx hb dL_law_492 (lv_at hl 0 rfl) ?_
      refine lv_i2l hx hb dL_law_494 rfl ?_
      refine W.lcmp hx hb dL_law_495 ?_
      refine lv_if_eq (tgt := 501) hx hb dL_law_496 (by decide) (fun k14 => ?_) (fun k14 => ?_)
      · have h := h.1 k14
        refine lv_goto (tgt := 2873) hx hb dL_law_501 (by decide) ?_
        exact nx M10 o5 d6 _ _ _ _ _ (by omega) (by omega) (lv_sub hl [2, 3, 4, 5, 6, 7] rfl) hW h
      · have h := h.2 k14
        refine lv_iconst (v := 0) hx hb dL_law_499 (by decide) ?_
        exact h.elim
  · have h := h.2 k12
    refine lv_iconst (v := 0) hx hb dL_law_482 (by decide) ?_
    exact h.elim
def wcase_3 (L : Nat) (xs : Nat → Int32) (i : Int32) (M : sM) (o : sO) (d : sE) (N : sM → sO → sE → Prop) : Prop :=
  vp_in (i + (1 : Int32)) L ∧ (vp_in (i + (2 : Int32)) L ∧ (wL_assign (xs ((i + (1 : Int32))).toNatClampNeg) (xs ((i + (2 : Int32))).toNatClampNeg) M o d (fun r3 M4 o5 d6 => vp_in (i + (1 : Int32)) L ∧ (vp_in (i + (2 : Int32)) L ∧ (wX7_assign (xs ((i + (1 : Int32))).toNatClampNeg) (xs ((i + (2 : Int32))).toNatClampNeg) M4 (fun r9 M10 => wX7_thrown M10 (fun r11 => (r11 = r3 → ((r3 = 0 → (((lg_cmp (o5 ((0 : Int32)).toNatClampNeg) (r9).toInt64) = 0 → (N M10 o5 d6)) ∧ (¬ (lg_cmp (o5 ((0 : Int32)).toNatClampNeg) (r9).toInt64) = 0 → (False)))) ∧ (¬ r3 = 0 → (N M10 o5 d6)))) ∧ (¬ r11 = r3 → (False)))))))))
set_option maxRecDepth 20000 in
theorem kcase_3 {p : Program} {l : Launch} {e : Env} {s : State} {m : MethodId} {below : List Frame} {meth : Method} {c : Code} {H : Heap} {locs : List Loc} {cells slots : Nat} {Q : State → Prop} {ls : Array Slot} {g : sG} {b L : Nat} {xs : Nat → Int32} (Z : zLw p l s m meth c b L xs g) {i : Int32} {M : sM} {o : sO} {d : sE} {N : sM → sO → sE → Prop} (hl : lv_has ls 9 (zLs g b i)) (hW : sw_Wd g o d M s H locs) (hc : cells + 8 ≤ 603072) (hs : slots + 48 ≤ 7211114) (h : wcase_3 L xs i M o d N)
    (nx : ∀ (M : sM) (o : sO) (d : sE) (H : Heap) (locs : List Loc) (ls : Array Slot) (cells' slots' : Nat), cells' ≤ cells + 8 → slots' ≤ slots + 48 → lv_has ls 9 (zLs g b i) → sw_Wd g o d M s H locs → N M o d → W p l e room_1 s m #[Value.ref b] below meth c H locs cells' slots' Q (F0 m 2873 ls [])) : W p l e room_1 s m #[Value.ref b] below meth c H locs cells slots Q (F0 m 504 ls []) := by
  obtain ⟨hx, hb, hml, hown, hts, hX, hbl, hbA, hst⟩ := Z
  unfold wcase_3 at h
  refine lv_aload_n hx hb dL_law_504 rfl (lv_at hl 2 rfl) ?_
  refine lv_aload_n hx hb dL_law_505 rfl (lv_at hl 1 rfl) ?_
  refine lv_iload hx hb dL_law_506 (lv_at hl 0 rfl) ?_
  refine lv_iconst (v := 1) hx hb dL_law_508 (by decide) ?_
  refine lv_iadd hx hb dL_law_509 ?_
  have b1 := h.1
  have h := h.2
  refine va_sld hx hb hX hbl hbA hW.2.1 b1 dL_law_510 ?_
  refine lv_aload_n hx hb dL_law_511 rfl (lv_at hl 1 rfl) ?_
  refine lv_iload hx hb dL_law_512 (lv_at hl 0 rfl) ?_
  refine lv_iconst (v := 2) hx hb dL_law_514 (by decide) ?_
  refine lv_iadd hx hb dL_law_515 ?_
  have b2 := h.1
  have h := h.2
  refine va_sld hx hb hX hbl hbA hW.2.1 b2 dL_law_516 ?_
  refine lv_aload_n hx hb dL_law_517 rfl (lv_at hl 4 rfl) ?_
  refine sw_k3 (rest := []) (sw_runH (As := [.ref (sw_ad g 0), .int (xs ((i + (1 : Int32))).toNatClampNeg), .int (xs ((i + (2 : Int32))).toNatClampNeg), .ref (sw_ad g 233)]) (rest := []) hx hb hml hown hts (kL_assign l hst g (xs ((i + (1 : Int32))).toNatClampNeg) (xs ((i + (2 : Int32))).toNatClampNeg) M o d _ h) ch_L_assign q_468 rfl rfl ⟨(Nat.le_of_ble_eq_true rfl), (Nat.le_of_ble_eq_true rfl)⟩ hW rfl hl.1 rfl (Nat.le_of_ble_eq_true rfl) dL_law_518 ⟨by show _ ≤ 603072; omega, by show _ ≤ 7211114; omega⟩) hW (fun r3 M4 o5 d6 H locs h hW => ?_)
  refine lv_istore (lv' := [(6, .int r3), (5, .int i), (0, .ref b), (1, .ref (sw_ad g 0)), (2, .ref (sw_ad g 33)), (3, .ref (sw_ad g 233)), (4, .ref (sw_ad g 234))]) hx hb dL_law_521 hl (Nat.le_of_ble_eq_true rfl) rfl (fun ls hl => ?_)
  refine lv_aload_n hx hb dL_law_523 rfl (lv_at hl 4 rfl) ?_
  refine lv_aload_n hx hb dL_law_524 rfl (lv_at hl 2 rfl) ?_
  refine lv_iload hx hb dL_law_525 (lv_at hl 1 rfl) ?_
  refine lv_iconst (v := 1) hx hb dL_law_527 (by decide) ?_
  refine lv_iadd hx hb dL_law_528 ?_
  have b7 := h.1
  have h := h.2
  refine va_sld hx hb hX hbl hbA hW.2.1 b7 dL_law_529 ?_
  refine lv_aload_n hx hb dL_law_530 rfl (lv_at hl 2 rfl) ?_
  refine lv_iload hx hb dL_law_531 (lv_at hl 1 rfl) ?_
  refine lv_iconst (v := 2) hx hb dL_law_533 (by decide) ?_
  refine lv_iadd hx hb dL_law_534 ?_
  have b8 := h.1
  have h := h.2
  refine va_sld hx hb hX hbl hbA hW.2.1 b8 dL_law_535 ?_
  refine sw_ki (rest := []) (sw_runV (As := [.int (xs ((i + (1 : Int32))).toNatClampNeg), .int (xs ((i + (2 : Int32))).toNatClampNeg)]) (rest := []) hx hb hml hown hts (kX7_assign l g o5 d6 (xs ((i + (1 : Int32))).toNatClampNeg) (xs ((i + (2 : Int32))).toNatClampNeg) M4 _ h) cv_X7_assign q_1036 rfl rfl ⟨(Nat.le_of_ble_eq_true rfl), (Nat.le_of_ble_eq_true rfl)⟩ hW (Nat.le_of_ble_eq_true rfl) sl_33 rfl rfl hl.1 rfl (Nat.le_of_ble_eq_true rfl) dL_law_536 ⟨by show _ ≤ 603072; omega, by show _ ≤ 7211114; omega⟩) hW (fun r9 M10 H locs h hW => ?_)
  refine lv_istore (lv' := [(7, .int r9), (6, .int r3), (5, .int i), (0, .ref b), (1, .ref (sw_ad g 0)), (2, .ref (sw_ad g 33)), (3, .ref (sw_ad g 233)), (4, .ref (sw_ad g 234))]) hx hb dL_law_539 hl (Nat.le_of_ble_eq_true rfl) rfl (fun ls hl => ?_)
  refine lv_aload_n hx hb dL_law_541 rfl (lv_at hl 5 rfl) ?_
  refine sw_ki (rest := []) (sw_runV (As := []) (rest := []) hx hb hml hown hts (kX7_thrown l g o5 d6 M10 _ h) cv_X7_thrown q_966 rfl rfl ⟨(Nat.le_of_ble_eq_true rfl), (Nat.le_of_ble_eq_true rfl)⟩ hW (Nat.le_of_ble_eq_true rfl) sl_33 rfl rfl hl.1 rfl (Nat.le_of_ble_eq_true rfl) dL_law_542 ⟨by show _ ≤ 603072; omega, by show _ ≤ 7211114; omega⟩) hW (fun r11 M15 H locs h hW => ?_)
  obtain ⟨h, eM15⟩ := h
  rw [eM15] at hW
  refine lv_iload hx hb dL_law_545 (lv_at hl 1 rfl) ?_
  refine lv_icmp_eq (tgt := 552) hx hb dL_law_547 (by decide) (fun k12 => ?_) (fun k12 => ?_)
  · have h := h.1 k12
    refine lv_iload hx hb dL_law_552 (lv_at hl 1 rfl) ?_
    refine lv_if_ne (tgt := 569) hx hb dL_law_554 (by decide) (fun k13 => ?_) (fun k13 => ?_)
    · have h := h.2 k13
      refine lv_goto (tgt := 2873) hx hb dL_law_569 (by decide) ?_
      exact nx M10 o5 d6 _ _ _ _ _ (by omega) (by omega) (lv_sub hl [2, 3, 4, 5, 6, 7] rfl) hW h
    · have h := h.1 k13
      refine lv_aload_n hx hb dL_law_557 rfl (lv_at hl 6 rfl) ?_
      refine lv_iconst (v := 0) hx hb dL_law_558 (by decide) ?_
      refine sw_ll hx hb hW (vp_in_iff.mpr (by decide)) dL_law_559 ?_
      refine lv_iload hx hb dL_law_560 (lv_at hl 0 rfl) ?_
      refine lv_i2l hx hb dL_law_562 rfl ?_
      refine W.lcmp hx hb dL_law_563 ?_
      refine lv_if_eq (tgt := 569) hx hb dL_law_564 (by decide) (fun k14 => ?_) (fun k14 => ?_)
      · have h := h.1 k14
        refine lv_goto (tgt := 2873) hx hb dL_law_569 (by decide) ?_
        exact nx M10 o5 d6 _ _ _ _ _ (by omega) (by omega) (lv_sub hl [2, 3, 4, 5, 6, 7] rfl) hW h
      · have h := h.2 k14
        refine lv_iconst (v := 0) hx hb dL_law_567 (by decide) ?_
        exact h.elim
  · have h := h.2 k12
    refine lv_iconst (v := 0) hx hb dL_law_550 (by decide) ?_
    exact h.elim
def wcase_4 (L : Nat) (xs : Nat → Int32) (i : Int32) (M : sM) (o : sO) (d : sE) (N : sM → sO → sE → Prop) : Prop :=
  wX6_carryOutPlan M (fun r1 M2 => wX7_carryOutPlan M2 (fun r3 M4 => (r1 = r3 → (N M4 o d)) ∧ (¬ r1 = r3 → (False)))) (fun E9 M9 => False)
set_option maxRecDepth 20000 in
theorem kcase_4 {p : Program} {l : Launch} {e : Env} {s : State} {m : MethodId} {below : List Frame} {meth : Method} {c : Code} {H : Heap} {locs : List Loc} {cells slots : Nat} {Q : State → Prop} {ls : Array Slot} {g : sG} {b L : Nat} {xs : Nat → Int32} (Z : zLw p l s m meth c b L xs g) {i : Int32} {M : sM} {o : sO} {d : sE} {N : sM → sO → sE → Prop} (hl : lv_has ls 9 (zLs g b i)) (hW : sw_Wd g o d M s H locs) (hc : cells + 8 ≤ 603072) (hs : slots + 48 ≤ 7211114) (h : wcase_4 L xs i M o d N)
    (nx : ∀ (M : sM) (o : sO) (d : sE) (H : Heap) (locs : List Loc) (ls : Array Slot) (cells' slots' : Nat), cells' ≤ cells + 8 → slots' ≤ slots + 48 → lv_has ls 9 (zLs g b i) → sw_Wd g o d M s H locs → N M o d → W p l e room_1 s m #[Value.ref b] below meth c H locs cells' slots' Q (F0 m 2873 ls [])) : W p l e room_1 s m #[Value.ref b] below meth c H locs cells slots Q (F0 m 572 ls []) := by
  obtain ⟨hx, hb, hml, hown, hts, hX, hbl, hbA, hst⟩ := Z
  unfold wcase_4 at h
  refine lv_aload_n hx hb dL_law_572 rfl (lv_at hl 2 rfl) ?_
  refine sw_xki (rest := []) (sw_xrunV (As := []) (rest := []) hx hb hml hown hts (kX6_carryOutPlan l hst g o d M _ _ h) cv_X6_carryOutPlan q_153 rfl rfl ⟨(Nat.le_of_ble_eq_true rfl), (Nat.le_of_ble_eq_true rfl)⟩ hW (Nat.le_of_ble_eq_true rfl) sl_0 rfl rfl hl.1 rfl (Nat.le_of_ble_eq_true rfl) dL_law_573 ⟨by show _ ≤ 603072; omega, by show _ ≤ 7211114; omega⟩) hW (fun E9 ce9 q9 M9 H locs h hW f1 f2 f3 => ?_) (fun r1 M2 H locs h hW => ?_)
  · exact h.elim
  · refine lv_aload_n hx hb dL_law_576 rfl (lv_at hl 3 rfl) ?_
    refine sw_ki (rest := [.int r1]) (sw_runV (As := []) (rest := [.int r1]) hx hb hml hown hts (kX7_carryOutPlan l g o d M2 _ h) cv_X7_carryOutPlan q_1052 rfl rfl ⟨(Nat.le_of_ble_eq_true rfl), (Nat.le_of_ble_eq_true rfl)⟩ hW (Nat.le_of_ble_eq_true rfl) sl_33 rfl rfl hl.1 rfl (Nat.le_of_ble_eq_true rfl) dL_law_577 ⟨by show _ ≤ 603072; omega, by show _ ≤ 7211114; omega⟩) hW (fun r3 M4 H locs h hW => ?_)
    refine lv_icmp_eq (tgt := 2873) hx hb dL_law_580 (by decide) (fun k5 => ?_) (fun k5 => ?_)
    · have h := h.1 k5
      exact nx M4 o d _ _ _ _ _ (by omega) (by omega) (lv_sub hl [0, 1, 2, 3, 4, 5] rfl) hW h
    · have h := h.2 k5
      refine lv_iconst (v := 0) hx hb dL_law_583 (by decide) ?_
      exact h.elim
def wcase_5 (L : Nat) (xs : Nat → Int32) (i : Int32) (M : sM) (o : sO) (d : sE) (N : sM → sO → sE → Prop) : Prop :=
  vp_in (i + (1 : Int32)) L ∧ (vp_in (i + (2 : Int32)) L ∧ (vp_in (i + (3 : Int32)) L ∧ (wL_grade (xs ((i + (1 : Int32))).toNatClampNeg) (xs ((i + (2 : Int32))).toNatClampNeg) (xs ((i + (3 : Int32))).toNatClampNeg) M o d (fun r4 M5 o6 d7 => vp_in (i + (1 : Int32)) L ∧ (vp_in (i + (2 : Int32)) L ∧ (vp_in (i + (3 : Int32)) L ∧ (wX7_grade (xs ((i + (1 : Int32))).toNatClampNeg) (xs ((i + (2 : Int32))).toNatClampNeg) (xs ((i + (3 : Int32))).toNatClampNeg) M5 (fun r11 M12 => wX7_thrown M12 (fun r13 => (r13 = r4 → ((r4 = 0 → (((lg_cmp (o6 ((0 : Int32)).toNatClampNeg) (r11).toInt64) = 0 → (N M12 o6 d7)) ∧ (¬ (lg_cmp (o6 ((0 : Int32)).toNatClampNeg) (r11).toInt64) = 0 → (False)))) ∧ (¬ r4 = 0 → (N M12 o6 d7)))) ∧ (¬ r13 = r4 → (False)))))))))))
set_option maxRecDepth 20000 in
theorem kcase_5 {p : Program} {l : Launch} {e : Env} {s : State} {m : MethodId} {below : List Frame} {meth : Method} {c : Code} {H : Heap} {locs : List Loc} {cells slots : Nat} {Q : State → Prop} {ls : Array Slot} {g : sG} {b L : Nat} {xs : Nat → Int32} (Z : zLw p l s m meth c b L xs g) {i : Int32} {M : sM} {o : sO} {d : sE} {N : sM → sO → sE → Prop} (hl : lv_has ls 9 (zLs g b i)) (hW : sw_Wd g o d M s H locs) (hc : cells + 8 ≤ 603072) (hs : slots + 48 ≤ 7211114) (h : wcase_5 L xs i M o d N)
    (nx : ∀ (M : sM) (o : sO) (d : sE) (H : Heap) (locs : List Loc) (ls : Array Slot) (cells' slots' : Nat), cells' ≤ cells + 8 → slots' ≤ slots + 48 → lv_has ls 9 (zLs g b i) → sw_Wd g o d M s H locs → N M o d → W p l e room_1 s m #[Value.ref b] below meth c H locs cells' slots' Q (F0 m 2873 ls [])) : W p l e room_1 s m #[Value.ref b] below meth c H locs cells slots Q (F0 m 585 ls []) := by
  obtain ⟨hx, hb, hml, hown, hts, hX, hbl, hbA, hst⟩ := Z
  unfold wcase_5 at h
  refine lv_aload_n hx hb dL_law_585 rfl (lv_at hl 2 rfl) ?_
  refine lv_aload_n hx hb dL_law_586 rfl (lv_at hl 1 rfl) ?_
  refine lv_iload hx hb dL_law_587 (lv_at hl 0 rfl) ?_
  refine lv_iconst (v := 1) hx hb dL_law_589 (by decide) ?_
  refine lv_iadd hx hb dL_law_590 ?_
  have b1 := h.1
  have h := h.2
  refine va_sld hx hb hX hbl hbA hW.2.1 b1 dL_law_591 ?_
  refine lv_aload_n hx hb dL_law_592 rfl (lv_at hl 1 rfl) ?_
  refine lv_iload hx hb dL_law_593 (lv_at hl 0 rfl) ?_
  refine lv_iconst (v := 2) hx hb dL_law_595 (by decide) ?_
  refine lv_iadd hx hb dL_law_596 ?_
  have b2 := h.1
  have h := h.2
  refine va_sld hx hb hX hbl hbA hW.2.1 b2 dL_law_597 ?_
  refine lv_aload_n hx hb dL_law_598 rfl (lv_at hl 1 rfl) ?_
  refine lv_iload hx hb dL_law_599 (lv_at hl 0 rfl) ?_
  refine lv_iconst (v := 3) hx hb dL_law_601 (by decide) ?_
  refine lv_iadd hx hb dL_law_602 ?_
  have b3 := h.1
  have h := h.2
  refine va_sld hx hb hX hbl hbA hW.2.1 b3 dL_law_603 ?_
  refine lv_aload_n hx hb dL_law_604 rfl (lv_at hl 4 rfl) ?_
  refine sw_k3 (rest := []) (sw_runH (As := [.ref (sw_ad g 0), .int (xs ((i + (1 : Int32))).toNatClampNeg), .int (xs ((i + (2 : Int32))).toNatClampNeg), .int (xs ((i + (3 : Int32))).toNatClampNeg), .ref (sw_ad g 233)]) (rest := []) hx hb hml hown hts (kL_grade l hst g (xs ((i + (1 : Int32))).toNatClampNeg) (xs ((i + (2 : Int32))).toNatClampNeg) (xs ((i + (3 : Int32))).toNatClampNeg) M o d _ h) ch_L_grade q_482 rfl rfl ⟨(Nat.le_of_ble_eq_true rfl), (Nat.le_of_ble_eq_true rfl)⟩ hW rfl hl.1 rfl (Nat.le_of_ble_eq_true rfl) dL_law_605 ⟨by show _ ≤ 603072; omega, by show _ ≤ 7211114; omega⟩) hW (fun r4 M5 o6 d7 H locs h hW => ?_)
  refine lv_istore (lv' := [(6, .int r4), (5, .int i), (0, .ref b), (1, .ref (sw_ad g 0)), (2, .ref (sw_ad g 33)), (3, .ref (sw_ad g 233)), (4, .ref (sw_ad g 234))]) hx hb dL_law_608 hl (Nat.le_of_ble_eq_true rfl) rfl (fun ls hl => ?_)
  refine lv_aload_n hx hb dL_law_610 rfl (lv_at hl 4 rfl) ?_
  refine lv_aload_n hx hb dL_law_611 rfl (lv_at hl 2 rfl) ?_
  refine lv_iload hx hb dL_law_612 (lv_at hl 1 rfl) ?_
  refine lv_iconst (v := 1) hx hb dL_law_614 (by decide) ?_
  refine lv_iadd hx hb dL_law_615 ?_
  have b8 := h.1
  have h := h.2
  refine va_sld hx hb hX hbl hbA hW.2.1 b8 dL_law_616 ?_
  refine lv_aload_n hx hb dL_law_617 rfl (lv_at hl 2 rfl) ?_
  refine lv_iload hx hb dL_law_618 (lv_at hl 1 rfl) ?_
  refine lv_iconst (v := 2) hx hb dL_law_620 (by decide) ?_
  refine lv_iadd hx hb dL_law_621 ?_
  have b9 := h.1
  have h := h.2
  refine va_sld hx hb hX hbl hbA hW.2.1 b9 dL_law_622 ?_
  refine lv_aload_n hx hb dL_law_623 rfl (lv_at hl 2 rfl) ?_
  refine lv_iload hx hb dL_law_624 (lv_at hl 1 rfl) ?_
  refine lv_iconst (v := 3) hx hb dL_law_626 (by decide) ?_
  refine lv_iadd hx hb dL_law_627 ?_
  have b10 := h.1
  have h := h.2
  refine va_sld hx hb hX hbl hbA hW.2.1 b10 dL_law_628 ?_
  refine sw_ki (rest := []) (sw_runV (As := [.int (xs ((i + (1 : Int32))).toNatClampNeg), .int (xs ((i + (2 : Int32))).toNatClampNeg), .int (xs ((i + (3 : Int32))).toNatClampNeg)]) (rest := []) hx hb hml hown hts (kX7_grade l g o6 d7 (xs ((i + (1 : Int32))).toNatClampNeg) (xs ((i + (2 : Int32))).toNatClampNeg) (xs ((i + (3 : Int32))).toNatClampNeg) M5 _ h) cv_X7_grade q_1074 rfl rfl ⟨(Nat.le_of_ble_eq_true rfl), (Nat.le_of_ble_eq_true rfl)⟩ hW (Nat.le_of_ble_eq_true rfl) sl_33 rfl rfl hl.1 rfl (Nat.le_of_ble_eq_true rfl) dL_law_629 ⟨by show _ ≤ 603072; omega, by show _ ≤ 7211114; omega⟩) hW (fun r11 M12 H locs h hW => ?_)
  refine lv_istore (lv' := [(7, .int r11), (6, .int r4), (5, .int i), (0, .ref b), (1, .ref (sw_ad g 0)), (2, .ref (sw_ad g 33)), (3, .ref (sw_ad g 233)), (4, .ref (sw_ad g 234))]) hx hb dL_law_632 hl (Nat.le_of_ble_eq_true rfl) rfl (fun ls hl => ?_)
  refine lv_aload_n hx hb dL_law_634 rfl (lv_at hl 5 rfl) ?_
  refine sw_ki (rest := []) (sw_runV (As := []) (rest := []) hx hb hml hown hts (kX7_thrown l g o6 d7 M12 _ h) cv_X7_thrown q_966 rfl rfl ⟨(Nat.le_of_ble_eq_true rfl), (Nat.le_of_ble_eq_true rfl)⟩ hW (Nat.le_of_ble_eq_true rfl) sl_33 rfl rfl hl.1 rfl (Nat.le_of_ble_eq_true rfl) dL_law_635 ⟨by show _ ≤ 603072; omega, by show _ ≤ 7211114; omega⟩) hW (fun r13 M17 H locs h hW => ?_)
  obtain ⟨h, eM17⟩ := h
  rw [eM17] at hW
  refine lv_iload hx hb dL_law_638 (lv_at hl 1 rfl) ?_
  refine lv_icmp_eq (tgt := 645) hx hb dL_law_640 (by decide) (fun k14 => ?_) (fun k14 => ?_)
  · have h := h.1 k14
    refine lv_iload hx hb dL_law_645 (lv_at hl 1 rfl) ?_
    refine lv_if_ne (tgt := 662) hx hb dL_law_647 (by decide) (fun k15 => ?_) (fun k15 => ?_)
    · have h := h.2 k15
      refine lv_goto (tgt := 2873) hx hb dL_law_662 (by decide) ?_
      exact nx M12 o6 d7 _ _ _ _ _ (by omega) (by omega) (lv_sub hl [2, 3, 4, 5, 6, 7] rfl) hW h
    · have h := h.1 k15
      refine lv_aload_n hx hb dL_law_650 rfl (lv_at hl 6 rfl) ?_
      refine lv_iconst (v := 0) hx hb dL_law_651 (by decide) ?_
      refine sw_ll hx hb hW (vp_in_iff.mpr (by decide)) dL_law_652 ?_
      refine lv_iload hx hb dL_law_653 (lv_at hl 0 rfl) ?_
      refine lv_i2l hx hb dL_law_655 rfl ?_
      refine W.lcmp hx hb dL_law_656 ?_
      refine lv_if_eq (tgt := 662) hx hb dL_law_657 (by decide) (fun k16 => ?_) (fun k16 => ?_)
      · have h := h.1 k16
        refine lv_goto (tgt := 2873) hx hb dL_law_662 (by decide) ?_
        exact nx M12 o6 d7 _ _ _ _ _ (by omega) (by omega) (lv_sub hl [2, 3, 4, 5, 6, 7] rfl) hW h
      · have h := h.2 k16
        refine lv_iconst (v := 0) hx hb dL_law_660 (by decide) ?_
        exact h.elim
  · have h := h.2 k14
    refine lv_iconst (v := 0) hx hb dL_law_643 (by decide) ?_
    exact h.elim
def wcase_6 (L : Nat) (xs : Nat → Int32) (i : Int32) (M : sM) (o : sO) (d : sE) (N : sM → sO → sE → Prop) : Prop :=
  vp_in (i + (1 : Int32)) L ∧ (wL_setThreshold (xs ((i + (1 : Int32))).toNatClampNeg) M o d (fun r2 M3 o4 d5 => vp_in (i + (1 : Int32)) L ∧ (wX7_setThreshold (xs ((i + (1 : Int32))).toNatClampNeg) M3 (fun r7 M8 => wX7_thrown M8 (fun r9 => (r9 = r2 → ((r2 = 0 → (((lg_cmp (o4 ((0 : Int32)).toNatClampNeg) (r7).toInt64) = 0 → (N M8 o4 d5)) ∧ (¬ (lg_cmp (o4 ((0 : Int32)).toNatClampNeg) (r7).toInt64) = 0 → (False)))) ∧ (¬ r2 = 0 → (N M8 o4 d5)))) ∧ (¬ r9 = r2 → (False)))))))
set_option maxRecDepth 20000 in
theorem kcase_6 {p : Program} {l : Launch} {e : Env} {s : State} {m : MethodId} {below : List Frame} {meth : Method} {c : Code} {H : Heap} {locs : List Loc} {cells slots : Nat} {Q : State → Prop} {ls : Array Slot} {g : sG} {b L : Nat} {xs : Nat → Int32} (Z : zLw p l s m meth c b L xs g) {i : Int32} {M : sM} {o : sO} {d : sE} {N : sM → sO → sE → Prop} (hl : lv_has ls 9 (zLs g b i)) (hW : sw_Wd g o d M s H locs) (hc : cells + 8 ≤ 603072) (hs : slots + 48 ≤ 7211114) (h : wcase_6 L xs i M o d N)
    (nx : ∀ (M : sM) (o : sO) (d : sE) (H : Heap) (locs : List Loc) (ls : Array Slot) (cells' slots' : Nat), cells' ≤ cells + 8 → slots' ≤ slots + 48 → lv_has ls 9 (zLs g b i) → sw_Wd g o d M s H locs → N M o d → W p l e room_1 s m #[Value.ref b] below meth c H locs cells' slots' Q (F0 m 2873 ls [])) : W p l e room_1 s m #[Value.ref b] below meth c H locs cells slots Q (F0 m 665 ls []) := by
  obtain ⟨hx, hb, hml, hown, hts, hX, hbl, hbA, hst⟩ := Z
  unfold wcase_6 at h
  refine lv_aload_n hx hb dL_law_665 rfl (lv_at hl 2 rfl) ?_
  refine lv_aload_n hx hb dL_law_666 rfl (lv_at hl 1 rfl) ?_
  refine lv_iload hx hb dL_law_667 (lv_at hl 0 rfl) ?_
  refine lv_iconst (v := 1) hx hb dL_law_669 (by decide) ?_
  refine lv_iadd hx hb dL_law_670 ?_
  have b1 := h.1
  have h := h.2
  refine va_sld hx hb hX hbl hbA hW.2.1 b1 dL_law_671 ?_
  refine lv_aload_n hx hb dL_law_672 rfl (lv_at hl 4 rfl) ?_
  refine sw_k3 (rest := []) (sw_runH (As := [.ref (sw_ad g 0), .int (xs ((i + (1 : Int32))).toNatClampNeg), .ref (sw_ad g 233)]) (rest := []) hx hb hml hown hts (kL_setThreshold l hst g (xs ((i + (1 : Int32))).toNatClampNeg) M o d _ h) ch_L_setThreshold q_496 rfl rfl ⟨(Nat.le_of_ble_eq_true rfl), (Nat.le_of_ble_eq_true rfl)⟩ hW rfl hl.1 rfl (Nat.le_of_ble_eq_true rfl) dL_law_673 ⟨by show _ ≤ 603072; omega, by show _ ≤ 7211114; omega⟩) hW (fun r2 M3 o4 d5 H locs h hW => ?_)
  refine lv_istore (lv' := [(6, .int r2), (5, .int i), (0, .ref b), (1, .ref (sw_ad g 0)), (2, .ref (sw_ad g 33)), (3, .ref (sw_ad g 233)), (4, .ref (sw_ad g 234))]) hx hb dL_law_676 hl (Nat.le_of_ble_eq_true rfl) rfl (fun ls hl => ?_)
  refine lv_aload_n hx hb dL_law_678 rfl (lv_at hl 4 rfl) ?_
  refine lv_aload_n hx hb dL_law_679 rfl (lv_at hl 2 rfl) ?_
  refine lv_iload hx hb dL_law_680 (lv_at hl 1 rfl) ?_
  refine lv_iconst (v := 1) hx hb dL_law_682 (by decide) ?_
  refine lv_iadd hx hb dL_law_683 ?_
  have b6 := h.1
  have h := h.2
  refine va_sld hx hb hX hbl hbA hW.2.1 b6 dL_law_684 ?_
  refine sw_ki (rest := []) (sw_runV (As := [.int (xs ((i + (1 : Int32))).toNatClampNeg)]) (rest := []) hx hb hml hown hts (kX7_setThreshold l g o4 d5 (xs ((i + (1 : Int32))).toNatClampNeg) M3 _ h) cv_X7_setThreshold q_1084 rfl rfl ⟨(Nat.le_of_ble_eq_true rfl), (Nat.le_of_ble_eq_true rfl)⟩ hW (Nat.le_of_ble_eq_true rfl) sl_33 rfl rfl hl.1 rfl (Nat.le_of_ble_eq_true rfl) dL_law_685 ⟨by show _ ≤ 603072; omega, by show _ ≤ 7211114; omega⟩) hW (fun r7 M8 H locs h hW => ?_)
  refine lv_istore (lv' := [(7, .int r7), (6, .int r2), (5, .int i), (0, .ref b), (1, .ref (sw_ad g 0)), (2, .ref (sw_ad g 33)), (3, .ref (sw_ad g 233)), (4, .ref (sw_ad g 234))]) hx hb dL_law_688 hl (Nat.le_of_ble_eq_true rfl) rfl (fun ls hl => ?_)
  refine lv_aload_n hx hb dL_law_690 rfl (lv_at hl 5 rfl) ?_
  refine sw_ki (rest := []) (sw_runV (As := []) (rest := []) hx hb hml hown hts (kX7_thrown l g o4 d5 M8 _ h) cv_X7_thrown q_966 rfl rfl ⟨(Nat.le_of_ble_eq_true rfl), (Nat.le_of_ble_eq_true rfl)⟩ hW (Nat.le_of_ble_eq_true rfl) sl_33 rfl rfl hl.1 rfl (Nat.le_of_ble_eq_true rfl) dL_law_691 ⟨by show _ ≤ 603072; omega, by show _ ≤ 7211114; omega⟩) hW (fun r9 M13 H locs h hW => ?_)
  obtain ⟨h, eM13⟩ := h
  rw [eM13] at hW
  refine lv_iload hx hb dL_law_694 (lv_at hl 1 rfl) ?_
  refine lv_icmp_eq (tgt := 701) hx hb dL_law_696 (by decide) (fun k10 => ?_) (fun k10 => ?_)
  · have h := h.1 k10
    refine lv_iload hx hb dL_law_701 (lv_at hl 1 rfl) ?_
    refine lv_if_ne (tgt := 718) hx hb dL_law_703 (by decide) (fun k11 => ?_) (fun k11 => ?_)
    · have h := h.2 k11
      refine lv_goto (tgt := 2873) hx hb dL_law_718 (by decide) ?_
      exact nx M8 o4 d5 _ _ _ _ _ (by omega) (by omega) (lv_sub hl [2, 3, 4, 5, 6, 7] rfl) hW h
    · have h := h.1 k11
      refine lv_aload_n hx hb dL_law_706 rfl (lv_at hl 6 rfl) ?_
      refine lv_iconst (v := 0) hx hb dL_law_707 (by decide) ?_
      refine sw_ll hx hb hW (vp_in_iff.mpr (by decide)) dL_law_708 ?_
      refine lv_iload hx hb dL_law_709 (lv_at hl 0 rfl) ?_
      refine lv_i2l hx hb dL_law_711 rfl ?_
      refine W.lcmp hx hb dL_law_712 ?_
      refine lv_if_eq (tgt := 718) hx hb dL_law_713 (by decide) (fun k12 => ?_) (fun k12 => ?_)
      · have h := h.1 k12
        refine lv_goto (tgt := 2873) hx hb dL_law_718 (by decide) ?_
        exact nx M8 o4 d5 _ _ _ _ _ (by omega) (by omega) (lv_sub hl [2, 3, 4, 5, 6, 7] rfl) hW h
      · have h := h.2 k12
        refine lv_iconst (v := 0) hx hb dL_law_716 (by decide) ?_
        exact h.elim
  · have h := h.2 k10
    refine lv_iconst (v := 0) hx hb dL_law_699 (by decide) ?_
    exact h.elim
def wcase_7 (L : Nat) (xs : Nat → Int32) (i : Int32) (M : sM) (o : sO) (d : sE) (N : sM → sO → sE → Prop) : Prop :=
  vp_in (i + (1 : Int32)) L ∧ (wL_appeal (xs ((i + (1 : Int32))).toNatClampNeg) M o d (fun r2 M3 o4 d5 => vp_in (i + (1 : Int32)) L ∧ (wX7_appeal (xs ((i + (1 : Int32))).toNatClampNeg) M3 (fun r7 M8 => wX7_thrown M8 (fun r9 => (r9 = r2 → ((r2 = 0 → (((lg_cmp (o4 ((0 : Int32)).toNatClampNeg) (r7).toInt64) = 0 → (N M8 o4 d5)) ∧ (¬ (lg_cmp (o4 ((0 : Int32)).toNatClampNeg) (r7).toInt64) = 0 → (False)))) ∧ (¬ r2 = 0 → (N M8 o4 d5)))) ∧ (¬ r9 = r2 → (False)))))))
set_option maxRecDepth 20000 in
theorem kcase_7 {p : Program} {l : Launch} {e : Env} {s : State} {m : MethodId} {below : List Frame} {meth : Method} {c : Code} {H : Heap} {locs : List Loc} {cells slots : Nat} {Q : State → Prop} {ls : Array Slot} {g : sG} {b L : Nat} {xs : Nat → Int32} (Z : zLw p l s m meth c b L xs g) {i : Int32} {M : sM} {o : sO} {d : sE} {N : sM → sO → sE → Prop} (hl : lv_has ls 9 (zLs g b i)) (hW : sw_Wd g o d M s H locs) (hc : cells + 8 ≤ 603072) (hs : slots + 48 ≤ 7211114) (h : wcase_7 L xs i M o d N)
    (nx : ∀ (M : sM) (o : sO) (d : sE) (H : Heap) (locs : List Loc) (ls : Array Slot) (cells' slots' : Nat), cells' ≤ cells + 8 → slots' ≤ slots + 48 → lv_has ls 9 (zLs g b i) → sw_Wd g o d M s H locs → N M o d → W p l e room_1 s m #[Value.ref b] below meth c H locs cells' slots' Q (F0 m 2873 ls [])) : W p l e room_1 s m #[Value.ref b] below meth c H locs cells slots Q (F0 m 721 ls []) := by
  obtain ⟨hx, hb, hml, hown, hts, hX, hbl, hbA, hst⟩ := Z
  unfold wcase_7 at h
  refine lv_aload_n hx hb dL_law_721 rfl (lv_at hl 2 rfl) ?_
  refine lv_aload_n hx hb dL_law_722 rfl (lv_at hl 1 rfl) ?_
  refine lv_iload hx hb dL_law_723 (lv_at hl 0 rfl) ?_
  refine lv_iconst (v := 1) hx hb dL_law_725 (by decide) ?_
  refine lv_iadd hx hb dL_law_726 ?_
  have b1 := h.1
  have h := h.2
  refine va_sld hx hb hX hbl hbA hW.2.1 b1 dL_law_727 ?_
  refine lv_aload_n hx hb dL_law_728 rfl (lv_at hl 4 rfl) ?_
  refine sw_k3 (rest := []) (sw_runH (As := [.ref (sw_ad g 0), .int (xs ((i + (1 : Int32))).toNatClampNeg), .ref (sw_ad g 233)]) (rest := []) hx hb hml hown hts (kL_appeal l hst g (xs ((i + (1 : Int32))).toNatClampNeg) M o d _ h) ch_L_appeal q_506 rfl rfl ⟨(Nat.le_of_ble_eq_true rfl), (Nat.le_of_ble_eq_true rfl)⟩ hW rfl hl.1 rfl (Nat.le_of_ble_eq_true rfl) dL_law_729 ⟨by show _ ≤ 603072; omega, by show _ ≤ 7211114; omega⟩) hW (fun r2 M3 o4 d5 H locs h hW => ?_)
  refine lv_istore (lv' := [(6, .int r2), (5, .int i), (0, .ref b), (1, .ref (sw_ad g 0)), (2, .ref (sw_ad g 33)), (3, .ref (sw_ad g 233)), (4, .ref (sw_ad g 234))]) hx hb dL_law_732 hl (Nat.le_of_ble_eq_true rfl) rfl (fun ls hl => ?_)
  refine lv_aload_n hx hb dL_law_734 rfl (lv_at hl 4 rfl) ?_
  refine lv_aload_n hx hb dL_law_735 rfl (lv_at hl 2 rfl) ?_
  refine lv_iload hx hb dL_law_736 (lv_at hl 1 rfl) ?_
  refine lv_iconst (v := 1) hx hb dL_law_738 (by decide) ?_
  refine lv_iadd hx hb dL_law_739 ?_
  have b6 := h.1
  have h := h.2
  refine va_sld hx hb hX hbl hbA hW.2.1 b6 dL_law_740 ?_
  refine sw_ki (rest := []) (sw_runV (As := [.int (xs ((i + (1 : Int32))).toNatClampNeg)]) (rest := []) hx hb hml hown hts (kX7_appeal l g o4 d5 (xs ((i + (1 : Int32))).toNatClampNeg) M3 _ h) cv_X7_appeal q_1091 rfl rfl ⟨(Nat.le_of_ble_eq_true rfl), (Nat.le_of_ble_eq_true rfl)⟩ hW (Nat.le_of_ble_eq_true rfl) sl_33 rfl rfl hl.1 rfl (Nat.le_of_ble_eq_true rfl) dL_law_741 ⟨by show _ ≤ 603072; omega, by show _ ≤ 7211114; omega⟩) hW (fun r7 M8 H locs h hW => ?_)
  refine lv_istore (lv' := [(7, .int r7), (6, .int r2), (5, .int i), (0, .ref b), (1, .ref (sw_ad g 0)), (2, .ref (sw_ad g 33)), (3, .ref (sw_ad g 233)), (4, .ref (sw_ad g 234))]) hx hb dL_law_744 hl (Nat.le_of_ble_eq_true rfl) rfl (fun ls hl => ?_)
  refine lv_aload_n hx hb dL_law_746 rfl (lv_at hl 5 rfl) ?_
  refine sw_ki (rest := []) (sw_runV (As := []) (rest := []) hx hb hml hown hts (kX7_thrown l g o4 d5 M8 _ h) cv_X7_thrown q_966 rfl rfl ⟨(Nat.le_of_ble_eq_true rfl), (Nat.le_of_ble_eq_true rfl)⟩ hW (Nat.le_of_ble_eq_true rfl) sl_33 rfl rfl hl.1 rfl (Nat.le_of_ble_eq_true rfl) dL_law_747 ⟨by show _ ≤ 603072; omega, by show _ ≤ 7211114; omega⟩) hW (fun r9 M13 H locs h hW => ?_)
  obtain ⟨h, eM13⟩ := h
  rw [eM13] at hW
  refine lv_iload hx hb dL_law_750 (lv_at hl 1 rfl) ?_
  refine lv_icmp_eq (tgt := 757) hx hb dL_law_752 (by decide) (fun k10 => ?_) (fun k10 => ?_)
  · have h := h.1 k10
    refine lv_iload hx hb dL_law_757 (lv_at hl 1 rfl) ?_
    refine lv_if_ne (tgt := 774) hx hb dL_law_759 (by decide) (fun k11 => ?_) (fun k11 => ?_)
    · have h := h.2 k11
      refine lv_goto (tgt := 2873) hx hb dL_law_774 (by decide) ?_
      exact nx M8 o4 d5 _ _ _ _ _ (by omega) (by omega) (lv_sub hl [2, 3, 4, 5, 6, 7] rfl) hW h
    · have h := h.1 k11
      refine lv_aload_n hx hb dL_law_762 rfl (lv_at hl 6 rfl) ?_
      refine lv_iconst (v := 0) hx hb dL_law_763 (by decide) ?_
      refine sw_ll hx hb hW (vp_in_iff.mpr (by decide)) dL_law_764 ?_
      refine lv_iload hx hb dL_law_765 (lv_at hl 0 rfl) ?_
      refine lv_i2l hx hb dL_law_767 rfl ?_
      refine W.lcmp hx hb dL_law_768 ?_
      refine lv_if_eq (tgt := 774) hx hb dL_law_769 (by decide) (fun k12 => ?_) (fun k12 => ?_)
      · have h := h.1 k12
        refine lv_goto (tgt := 2873) hx hb dL_law_774 (by decide) ?_
        exact nx M8 o4 d5 _ _ _ _ _ (by omega) (by omega) (lv_sub hl [2, 3, 4, 5, 6, 7] rfl) hW h
      · have h := h.2 k12
        refine lv_iconst (v := 0) hx hb dL_law_772 (by decide) ?_
        exact h.elim
  · have h := h.2 k10
    refine lv_iconst (v := 0) hx hb dL_law_755 (by decide) ?_
    exact h.elim
def wcase_8 (L : Nat) (xs : Nat → Int32) (i : Int32) (M : sM) (o : sO) (d : sE) (N : sM → sO → sE → Prop) : Prop :=
  vp_in (i + (1 : Int32)) L ∧ (wL_award (xs ((i + (1 : Int32))).toNatClampNeg) M o d (fun r2 M3 o4 d5 => vp_in (i + (1 : Int32)) L ∧ (wX7_award (xs ((i + (1 : Int32))).toNatClampNeg) M3 (fun r7 M8 => wX7_thrown M8 (fun r9 => (r9 = r2 → ((r2 = 0 → (((lg_cmp (o4 ((0 : Int32)).toNatClampNeg) (r7).toInt64) = 0 → (N M8 o4 d5)) ∧ (¬ (lg_cmp (o4 ((0 : Int32)).toNatClampNeg) (r7).toInt64) = 0 → (False)))) ∧ (¬ r2 = 0 → (N M8 o4 d5)))) ∧ (¬ r9 = r2 → (False)))))))
set_option maxRecDepth 20000 in
theorem kcase_8 {p : Program} {l : Launch} {e : Env} {s : State} {m : MethodId} {below : List Frame} {meth : Method} {c : Code} {H : Heap} {locs : List Loc} {cells slots : Nat} {Q : State → Prop} {ls : Array Slot} {g : sG} {b L : Nat} {xs : Nat → Int32} (Z : zLw p l s m meth c b L xs g) {i : Int32} {M : sM} {o : sO} {d : sE} {N : sM → sO → sE → Prop} (hl : lv_has ls 9 (zLs g b i)) (hW : sw_Wd g o d M s H locs) (hc : cells + 8 ≤ 603072) (hs : slots + 48 ≤ 7211114) (h : wcase_8 L xs i M o d N)
    (nx : ∀ (M : sM) (o : sO) (d : sE) (H : Heap) (locs : List Loc) (ls : Array Slot) (cells' slots' : Nat), cells' ≤ cells + 8 → slots' ≤ slots + 48 → lv_has ls 9 (zLs g b i) → sw_Wd g o d M s H locs → N M o d → W p l e room_1 s m #[Value.ref b] below meth c H locs cells' slots' Q (F0 m 2873 ls [])) : W p l e room_1 s m #[Value.ref b] below meth c H locs cells slots Q (F0 m 777 ls []) := by
  obtain ⟨hx, hb, hml, hown, hts, hX, hbl, hbA, hst⟩ := Z
  unfold wcase_8 at h
  refine lv_aload_n hx hb dL_law_777 rfl (lv_at hl 2 rfl) ?_
  refine lv_aload_n hx hb dL_law_778 rfl (lv_at hl 1 rfl) ?_
  refine lv_iload hx hb dL_law_779 (lv_at hl 0 rfl) ?_
  refine lv_iconst (v := 1) hx hb dL_law_781 (by decide) ?_
  refine lv_iadd hx hb dL_law_782 ?_
  have b1 := h.1
  have h := h.2
  refine va_sld hx hb hX hbl hbA hW.2.1 b1 dL_law_783 ?_
  refine lv_aload_n hx hb dL_law_784 rfl (lv_at hl 4 rfl) ?_
  refine sw_k3 (rest := []) (sw_runH (As := [.ref (sw_ad g 0), .int (xs ((i + (1 : Int32))).toNatClampNeg), .ref (sw_ad g 233)]) (rest := []) hx hb hml hown hts (kL_award l hst g (xs ((i + (1 : Int32))).toNatClampNeg) M o d _ h) ch_L_award q_531 rfl rfl ⟨(Nat.le_of_ble_eq_true rfl), (Nat.le_of_ble_eq_true rfl)⟩ hW rfl hl.1 rfl (Nat.le_of_ble_eq_true rfl) dL_law_785 ⟨by show _ ≤ 603072; omega, by show _ ≤ 7211114; omega⟩) hW (fun r2 M3 o4 d5 H locs h hW => ?_)
  refine lv_istore (lv' := [(6, .int r2), (5, .int i), (0, .ref b), (1, .ref (sw_ad g 0)), (2, .ref (sw_ad g 33)), (3, .ref (sw_ad g 233)), (4, .ref (sw_ad g 234))]) hx hb dL_law_788 hl (Nat.le_of_ble_eq_true rfl) rfl (fun ls hl => ?_)
  refine lv_aload_n hx hb dL_law_790 rfl (lv_at hl 4 rfl) ?_
  refine lv_aload_n hx hb dL_law_791 rfl (lv_at hl 2 rfl) ?_
  refine lv_iload hx hb dL_law_792 (lv_at hl 1 rfl) ?_
  refine lv_iconst (v := 1) hx hb dL_law_794 (by decide) ?_
  refine lv_iadd hx hb dL_law_795 ?_
  have b6 := h.1
  have h := h.2
  refine va_sld hx hb hX hbl hbA hW.2.1 b6 dL_law_796 ?_
  refine sw_ki (rest := []) (sw_runV (As := [.int (xs ((i + (1 : Int32))).toNatClampNeg)]) (rest := []) hx hb hml hown hts (kX7_award l g o4 d5 (xs ((i + (1 : Int32))).toNatClampNeg) M3 _ h) cv_X7_award q_1112 rfl rfl ⟨(Nat.le_of_ble_eq_true rfl), (Nat.le_of_ble_eq_true rfl)⟩ hW (Nat.le_of_ble_eq_true rfl) sl_33 rfl rfl hl.1 rfl (Nat.le_of_ble_eq_true rfl) dL_law_797 ⟨by show _ ≤ 603072; omega, by show _ ≤ 7211114; omega⟩) hW (fun r7 M8 H locs h hW => ?_)
  refine lv_istore (lv' := [(7, .int r7), (6, .int r2), (5, .int i), (0, .ref b), (1, .ref (sw_ad g 0)), (2, .ref (sw_ad g 33)), (3, .ref (sw_ad g 233)), (4, .ref (sw_ad g 234))]) hx hb dL_law_800 hl (Nat.le_of_ble_eq_true rfl) rfl (fun ls hl => ?_)
  refine lv_aload_n hx hb dL_law_802 rfl (lv_at hl 5 rfl) ?_
  refine sw_ki (rest := []) (sw_runV (As := []) (rest := []) hx hb hml hown hts (kX7_thrown l g o4 d5 M8 _ h) cv_X7_thrown q_966 rfl rfl ⟨(Nat.le_of_ble_eq_true rfl), (Nat.le_of_ble_eq_true rfl)⟩ hW (Nat.le_of_ble_eq_true rfl) sl_33 rfl rfl hl.1 rfl (Nat.le_of_ble_eq_true rfl) dL_law_803 ⟨by show _ ≤ 603072; omega, by show _ ≤ 7211114; omega⟩) hW (fun r9 M13 H locs h hW => ?_)
  obtain ⟨h, eM13⟩ := h
  rw [eM13] at hW
  refine lv_iload hx hb dL_law_806 (lv_at hl 1 rfl) ?_
  refine lv_icmp_eq (tgt := 813) hx hb dL_law_808 (by decide) (fun k10 => ?_) (fun k10 => ?_)
  · have h := h.1 k10
    refine lv_iload hx hb dL_law_813 (lv_at hl 1 rfl) ?_
    refine lv_if_ne (tgt := 830) hx hb dL_law_815 (by decide) (fun k11 => ?_) (fun k11 => ?_)
    · have h := h.2 k11
      refine lv_goto (tgt := 2873) hx hb dL_law_830 (by decide) ?_
      exact nx M8 o4 d5 _ _ _ _ _ (by omega) (by omega) (lv_sub hl [2, 3, 4, 5, 6, 7] rfl) hW h
    · have h := h.1 k11
      refine lv_aload_n hx hb dL_law_818 rfl (lv_at hl 6 rfl) ?_
      refine lv_iconst (v := 0) hx hb dL_law_819 (by decide) ?_
      refine sw_ll hx hb hW (vp_in_iff.mpr (by decide)) dL_law_820 ?_
      refine lv_iload hx hb dL_law_821 (lv_at hl 0 rfl) ?_
      refine lv_i2l hx hb dL_law_823 rfl ?_
      refine W.lcmp hx hb dL_law_824 ?_
      refine lv_if_eq (tgt := 830) hx hb dL_law_825 (by decide) (fun k12 => ?_) (fun k12 => ?_)
      · have h := h.1 k12
        refine lv_goto (tgt := 2873) hx hb dL_law_830 (by decide) ?_
        exact nx M8 o4 d5 _ _ _ _ _ (by omega) (by omega) (lv_sub hl [2, 3, 4, 5, 6, 7] rfl) hW h
      · have h := h.2 k12
        refine lv_iconst (v := 0) hx hb dL_law_828 (by decide) ?_
        exact h.elim
  · have h := h.2 k10
    refine lv_iconst (v := 0) hx hb dL_law_811 (by decide) ?_
    exact h.elim
def wcase_9 (L : Nat) (xs : Nat → Int32) (i : Int32) (M : sM) (o : sO) (d : sE) (N : sM → sO → sE → Prop) : Prop :=
  vp_in (i + (1 : Int32)) L ∧ (wL_revoke (xs ((i + (1 : Int32))).toNatClampNeg) M o d (fun r2 M3 o4 d5 => vp_in (i + (1 : Int32)) L ∧ (wX7_revoke (xs ((i + (1 : Int32))).toNatClampNeg) M3 (fun r7 M8 => wX7_thrown M8 (fun r9 => (r9 = r2 → ((r2 = 0 → (((lg_cmp (o4 ((0 : Int32)).toNatClampNeg) (r7).toInt64) = 0 → (N M8 o4 d5)) ∧ (¬ (lg_cmp (o4 ((0 : Int32)).toNatClampNeg) (r7).toInt64) = 0 → (False)))) ∧ (¬ r2 = 0 → (N M8 o4 d5)))) ∧ (¬ r9 = r2 → (False)))))))
set_option maxRecDepth 20000 in
theorem kcase_9 {p : Program} {l : Launch} {e : Env} {s : State} {m : MethodId} {below : List Frame} {meth : Method} {c : Code} {H : Heap} {locs : List Loc} {cells slots : Nat} {Q : State → Prop} {ls : Array Slot} {g : sG} {b L : Nat} {xs : Nat → Int32} (Z : zLw p l s m meth c b L xs g) {i : Int32} {M : sM} {o : sO} {d : sE} {N : sM → sO → sE → Prop} (hl : lv_has ls 9 (zLs g b i)) (hW : sw_Wd g o d M s H locs) (hc : cells + 8 ≤ 603072) (hs : slots + 48 ≤ 7211114) (h : wcase_9 L xs i M o d N)
    (nx : ∀ (M : sM) (o : sO) (d : sE) (H : Heap) (locs : List Loc) (ls : Array Slot) (cells' slots' : Nat), cells' ≤ cells + 8 → slots' ≤ slots + 48 → lv_has ls 9 (zLs g b i) → sw_Wd g o d M s H locs → N M o d → W p l e room_1 s m #[Value.ref b] below meth c H locs cells' slots' Q (F0 m 2873 ls [])) : W p l e room_1 s m #[Value.ref b] below meth c H locs cells slots Q (F0 m 833 ls []) := by
  obtain ⟨hx, hb, hml, hown, hts, hX, hbl, hbA, hst⟩ := Z
  unfold wcase_9 at h
  refine lv_aload_n hx hb dL_law_833 rfl (lv_at hl 2 rfl) ?_
  refine lv_aload_n hx hb dL_law_834 rfl (lv_at hl 1 rfl) ?_
  refine lv_iload hx hb dL_law_835 (lv_at hl 0 rfl) ?_
  refine lv_iconst (v := 1) hx hb dL_law_837 (by decide) ?_
  refine lv_iadd hx hb dL_law_838 ?_
  have b1 := h.1
  have h := h.2
  refine va_sld hx hb hX hbl hbA hW.2.1 b1 dL_law_839 ?_
  refine lv_aload_n hx hb dL_law_840 rfl (lv_at hl 4 rfl) ?_
  refine sw_k3 (rest := []) (sw_runH (As := [.ref (sw_ad g 0), .int (xs ((i + (1 : Int32))).toNatClampNeg), .ref (sw_ad g 233)]) (rest := []) hx hb hml hown hts (kL_revoke l hst g (xs ((i + (1 : Int32))).toNatClampNeg) M o d _ h) ch_L_revoke q_554 rfl rfl ⟨(Nat.le_of_ble_eq_true rfl), (Nat.le_of_ble_eq_true rfl)⟩ hW rfl hl.1 rfl (Nat.le_of_ble_eq_true rfl) dL_law_841 ⟨by show _ ≤ 603072; omega, by show _ ≤ 7211114; omega⟩) hW (fun r2 M3 o4 d5 H locs h hW => ?_)
  refine lv_istore (lv' := [(6, .int r2), (5, .int i), (0, .ref b), (1, .ref (sw_ad g 0)), (2, .ref (sw_ad g 33)), (3, .ref (sw_ad g 233)), (4, .ref (sw_ad g 234))]) hx hb dL_law_844 hl (Nat.le_of_ble_eq_true rfl) rfl (fun ls hl => ?_)
  refine lv_aload_n hx hb dL_law_846 rfl (lv_at hl 4 rfl) ?_
  refine lv_aload_n hx hb dL_law_847 rfl (lv_at hl 2 rfl) ?_
  refine lv_iload hx hb dL_law_848 (lv_at hl 1 rfl) ?_
  refine lv_iconst (v := 1) hx hb dL_law_850 (by decide) ?_
  refine lv_iadd hx hb dL_law_851 ?_
  have b6 := h.1
  have h := h.2
  refine va_sld hx hb hX hbl hbA hW.2.1 b6 dL_law_852 ?_
  refine sw_ki (rest := []) (sw_runV (As := [.int (xs ((i + (1 : Int32))).toNatClampNeg)]) (rest := []) hx hb hml hown hts (kX7_revoke l g o4 d5 (xs ((i + (1 : Int32))).toNatClampNeg) M3 _ h) cv_X7_revoke q_1122 rfl rfl ⟨(Nat.le_of_ble_eq_true rfl), (Nat.le_of_ble_eq_true rfl)⟩ hW (Nat.le_of_ble_eq_true rfl) sl_33 rfl rfl hl.1 rfl (Nat.le_of_ble_eq_true rfl) dL_law_853 ⟨by show _ ≤ 603072; omega, by show _ ≤ 7211114; omega⟩) hW (fun r7 M8 H locs h hW => ?_)
  refine lv_istore (lv' := [(7, .int r7), (6, .int r2), (5, .int i), (0, .ref b), (1, .ref (sw_ad g 0)), (2, .ref (sw_ad g 33)), (3, .ref (sw_ad g 233)), (4, .ref (sw_ad g 234))]) hx hb dL_law_856 hl (Nat.le_of_ble_eq_true rfl) rfl (fun ls hl => ?_)
  refine lv_aload_n hx hb dL_law_858 rfl (lv_at hl 5 rfl) ?_
  refine sw_ki (rest := []) (sw_runV (As := []) (rest := []) hx hb hml hown hts (kX7_thrown l g o4 d5 M8 _ h) cv_X7_thrown q_966 rfl rfl ⟨(Nat.le_of_ble_eq_true rfl), (Nat.le_of_ble_eq_true rfl)⟩ hW (Nat.le_of_ble_eq_true rfl) sl_33 rfl rfl hl.1 rfl (Nat.le_of_ble_eq_true rfl) dL_law_859 ⟨by show _ ≤ 603072; omega, by show _ ≤ 7211114; omega⟩) hW (fun r9 M13 H locs h hW => ?_)
  obtain ⟨h, eM13⟩ := h
  rw [eM13] at hW
  refine lv_iload hx hb dL_law_862 (lv_at hl 1 rfl) ?_
  refine lv_icmp_eq (tgt := 869) hx hb dL_law_864 (by decide) (fun k10 => ?_) (fun k10 => ?_)
  · have h := h.1 k10
    refine lv_iload hx hb dL_law_869 (lv_at hl 1 rfl) ?_
    refine lv_if_ne (tgt := 886) hx hb dL_law_871 (by decide) (fun k11 => ?_) (fun k11 => ?_)
    · have h := h.2 k11
      refine lv_goto (tgt := 2873) hx hb dL_law_886 (by decide) ?_
      exact nx M8 o4 d5 _ _ _ _ _ (by omega) (by omega) (lv_sub hl [2, 3, 4, 5, 6, 7] rfl) hW h
    · have h := h.1 k11
      refine lv_aload_n hx hb dL_law_874 rfl (lv_at hl 6 rfl) ?_
      refine lv_iconst (v := 0) hx hb dL_law_875 (by decide) ?_
      refine sw_ll hx hb hW (vp_in_iff.mpr (by decide)) dL_law_876 ?_
      refine lv_iload hx hb dL_law_877 (lv_at hl 0 rfl) ?_
      refine lv_i2l hx hb dL_law_879 rfl ?_
      refine W.lcmp hx hb dL_law_880 ?_
      refine lv_if_eq (tgt := 886) hx hb dL_law_881 (by decide) (fun k12 => ?_) (fun k12 => ?_)
      · have h := h.1 k12
        refine lv_goto (tgt := 2873) hx hb dL_law_886 (by decide) ?_
        exact nx M8 o4 d5 _ _ _ _ _ (by omega) (by omega) (lv_sub hl [2, 3, 4, 5, 6, 7] rfl) hW h
      · have h := h.2 k12
        refine lv_iconst (v := 0) hx hb dL_law_884 (by decide) ?_
        exact h.elim
  · have h := h.2 k10
    refine lv_iconst (v := 0) hx hb dL_law_867 (by decide) ?_
    exact h.elim
def wcase_10 (L : Nat) (xs : Nat → Int32) (i : Int32) (M : sM) (o : sO) (d : sE) (N : sM → sO → sE → Prop) : Prop :=
  wX6_doorCount M (fun r1 => wX7_doorCount M (fun r2 M3 => (r1 = r2 → (N M3 o d)) ∧ (¬ r1 = r2 → (False))))
set_option maxRecDepth 20000 in
theorem kcase_10 {p : Program} {l : Launch} {e : Env} {s : State} {m : MethodId} {below : List Frame} {meth : Method} {c : Code} {H : Heap} {locs : List Loc} {cells slots : Nat} {Q : State → Prop} {ls : Array Slot} {g : sG} {b L : Nat} {xs : Nat → Int32} (Z : zLw p l s m meth c b L xs g) {i : Int32} {M : sM} {o : sO} {d : sE} {N : sM → sO → sE → Prop} (hl : lv_has ls 9 (zLs g b i)) (hW : sw_Wd g o d M s H locs) (hc : cells + 8 ≤ 603072) (hs : slots + 48 ≤ 7211114) (h : wcase_10 L xs i M o d N)
    (nx : ∀ (M : sM) (o : sO) (d : sE) (H : Heap) (locs : List Loc) (ls : Array Slot) (cells' slots' : Nat), cells' ≤ cells + 8 → slots' ≤ slots + 48 → lv_has ls 9 (zLs g b i) → sw_Wd g o d M s H locs → N M o d → W p l e room_1 s m #[Value.ref b] below meth c H locs cells' slots' Q (F0 m 2873 ls [])) : W p l e room_1 s m #[Value.ref b] below meth c H locs cells slots Q (F0 m 889 ls []) := by
  obtain ⟨hx, hb, hml, hown, hts, hX, hbl, hbA, hst⟩ := Z
  unfold wcase_10 at h
  refine lv_aload_n hx hb dL_law_889 rfl (lv_at hl 2 rfl) ?_
  refine sw_ki (rest := []) (sw_runV (As := []) (rest := []) hx hb hml hown hts (kX6_doorCount l g o d M _ h) cv_X6_doorCount q_308 rfl rfl ⟨(Nat.le_of_ble_eq_true rfl), (Nat.le_of_ble_eq_true rfl)⟩ hW (Nat.le_of_ble_eq_true rfl) sl_0 rfl rfl hl.1 rfl (Nat.le_of_ble_eq_true rfl) dL_law_890 ⟨by show _ ≤ 603072; omega, by show _ ≤ 7211114; omega⟩) hW (fun r1 M5 H locs h hW => ?_)
  obtain ⟨h, eM5⟩ := h
  rw [eM5] at hW
  refine lv_aload_n hx hb dL_law_893 rfl (lv_at hl 3 rfl) ?_
  refine sw_ki (rest := [.int r1]) (sw_runV (As := []) (rest := [.int r1]) hx hb hml hown hts (kX7_doorCount l g o d M _ h) cv_X7_doorCount q_1135 rfl rfl ⟨(Nat.le_of_ble_eq_true rfl), (Nat.le_of_ble_eq_true rfl)⟩ hW (Nat.le_of_ble_eq_true rfl) sl_33 rfl rfl hl.1 rfl (Nat.le_of_ble_eq_true rfl) dL_law_894 ⟨by show _ ≤ 603072; omega, by show _ ≤ 7211114; omega⟩) hW (fun r2 M3 H locs h hW => ?_)
  refine lv_icmp_eq (tgt := 2873) hx hb dL_law_897 (by decide) (fun k4 => ?_) (fun k4 => ?_)
  · have h := h.1 k4
    exact nx M3 o d _ _ _ _ _ (by omega) (by omega) (lv_sub hl [0, 1, 2, 3, 4, 5] rfl) hW h
  · have h := h.2 k4
    refine lv_iconst (v := 0) hx hb dL_law_900 (by decide) ?_
    exact h.elim
def wcase_11 (L : Nat) (xs : Nat → Int32) (i : Int32) (M : sM) (o : sO) (d : sE) (N : sM → sO → sE → Prop) : Prop :=
  vp_in (i + (1 : Int32)) L ∧ (wL_frameOfDoor (xs ((i + (1 : Int32))).toNatClampNeg) M o d (fun r2 M3 o4 d5 => vp_in (i + (1 : Int32)) L ∧ (wX7_frameOfDoor (xs ((i + (1 : Int32))).toNatClampNeg) M3 (fun r7 M8 => wX7_thrown M8 (fun r9 => (r9 = r2 → ((r2 = 0 → (((lg_cmp (o4 ((0 : Int32)).toNatClampNeg) (r7).toInt64) = 0 → (N M8 o4 d5)) ∧ (¬ (lg_cmp (o4 ((0 : Int32)).toNatClampNeg) (r7).toInt64) = 0 → (False)))) ∧ (¬ r2 = 0 → (N M8 o4 d5)))) ∧ (¬ r9 = r2 → (False)))))))
set_option maxRecDepth 20000 in
theorem kcase_11 {p : Program} {l : Launch} {e : Env} {s : State} {m : MethodId} {below : List Frame} {meth : Method} {c : Code} {H : Heap} {locs : List Loc} {cells slots : Nat} {Q : State → Prop} {ls : Array Slot} {g : sG} {b L : Nat} {xs : Nat → Int32} (Z : zLw p l s m meth c b L xs g) {i : Int32} {M : sM} {o : sO} {d : sE} {N : sM → sO → sE → Prop} (hl : lv_has ls 9 (zLs g b i)) (hW : sw_Wd g o d M s H locs) (hc : cells + 8 ≤ 603072) (hs : slots + 48 ≤ 7211114) (h : wcase_11 L xs i M o d N)
    (nx : ∀ (M : sM) (o : sO) (d : sE) (H : Heap) (locs : List Loc) (ls : Array Slot) (cells' slots' : Nat), cells' ≤ cells + 8 → slots' ≤ slots + 48 → lv_has ls 9 (zLs g b i) → sw_Wd g o d M s H locs → N M o d → W p l e room_1 s m #[Value.ref b] below meth c H locs cells' slots' Q (F0 m 2873 ls [])) : W p l e room_1 s m #[Value.ref b] below meth c H locs cells slots Q (F0 m 902 ls []) := by
  obtain ⟨hx, hb, hml, hown, hts, hX, hbl, hbA, hst⟩ := Z
  unfold wcase_11 at h
  refine lv_aload_n hx hb dL_law_902 rfl (lv_at hl 2 rfl) ?_
  refine lv_aload_n hx hb dL_law_903 rfl (lv_at hl 1 rfl) ?_
  refine lv_iload hx hb dL_law_904 (lv_at hl 0 rfl) ?_
  refine lv_iconst (v := 1) hx hb dL_law_906 (by decide) ?_
  refine lv_iadd hx hb dL_law_907 ?_
  have b1 := h.1
  have h := h.2
  refine va_sld hx hb hX hbl hbA hW.2.1 b1 dL_law_908 ?_
  refine lv_aload_n hx hb dL_law_909 rfl (lv_at hl 4 rfl) ?_
  refine sw_k3 (rest := []) (sw_runH (As := [.ref (sw_ad g 0), .int (xs ((i + (1 : Int32))).toNatClampNeg), .ref (sw_ad g 233)]) (rest := []) hx hb hml hown hts (kL_frameOfDoor l hst g (xs ((i + (1 : Int32))).toNatClampNeg) M o d _ h) ch_L_frameOfDoor q_569 rfl rfl ⟨(Nat.le_of_ble_eq_true rfl), (Nat.le_of_ble_eq_true rfl)⟩ hW rfl hl.1 rfl (Nat.le_of_ble_eq_true rfl) dL_law_910 ⟨by show _ ≤ 603072; omega, by show _ ≤ 7211114; omega⟩) hW (fun r2 M3 o4 d5 H locs h hW => ?_)
  refine lv_istore (lv' := [(6, .int r2), (5, .int i), (0, .ref b), (1, .ref (sw_ad g 0)), (2, .ref (sw_ad g 33)), (3, .ref (sw_ad g 233)), (4, .ref (sw_ad g 234))]) hx hb dL_law_913 hl (Nat.le_of_ble_eq_true rfl) rfl (fun ls hl => ?_)
  refine lv_aload_n hx hb dL_law_915 rfl (lv_at hl 4 rfl) ?_
  refine lv_aload_n hx hb dL_law_916 rfl (lv_at hl 2 rfl) ?_
  refine lv_iload hx hb dL_law_917 (lv_at hl 1 rfl) ?_
  refine lv_iconst (v := 1) hx hb dL_law_919 (by decide) ?_
  refine lv_iadd hx hb dL_law_920 ?_
  have b6 := h.1
  have h := h.2
  refine va_sld hx hb hX hbl hbA hW.2.1 b6 dL_law_921 ?_
  refine sw_ki (rest := []) (sw_runV (As := [.int (xs ((i + (1 : Int32))).toNatClampNeg)]) (rest := []) hx hb hml hown hts (kX7_frameOfDoor l g o4 d5 (xs ((i + (1 : Int32))).toNatClampNeg) M3 _ h) cv_X7_frameOfDoor q_1139 rfl rfl ⟨(Nat.le_of_ble_eq_true rfl), (Nat.le_of_ble_eq_true rfl)⟩ hW (Nat.le_of_ble_eq_true rfl) sl_33 rfl rfl hl.1 rfl (Nat.le_of_ble_eq_true rfl) dL_law_922 ⟨by show _ ≤ 603072; omega, by show _ ≤ 7211114; omega⟩) hW (fun r7 M8 H locs h hW => ?_)
  refine lv_istore (lv' := [(7, .int r7), (6, .int r2), (5, .int i), (0, .ref b), (1, .ref (sw_ad g 0)), (2, .ref (sw_ad g 33)), (3, .ref (sw_ad g 233)), (4, .ref (sw_ad g 234))]) hx hb dL_law_925 hl (Nat.le_of_ble_eq_true rfl) rfl (fun ls hl => ?_)
  refine lv_aload_n hx hb dL_law_927 rfl (lv_at hl 5 rfl) ?_
  refine sw_ki (rest := []) (sw_runV (As := []) (rest := []) hx hb hml hown hts (kX7_thrown l g o4 d5 M8 _ h) cv_X7_thrown q_966 rfl rfl ⟨(Nat.le_of_ble_eq_true rfl), (Nat.le_of_ble_eq_true rfl)⟩ hW (Nat.le_of_ble_eq_true rfl) sl_33 rfl rfl hl.1 rfl (Nat.le_of_ble_eq_true rfl) dL_law_928 ⟨by show _ ≤ 603072; omega, by show _ ≤ 7211114; omega⟩) hW (fun r9 M13 H locs h hW => ?_)
  obtain ⟨h, eM13⟩ := h
  rw [eM13] at hW
  refine lv_iload hx hb dL_law_931 (lv_at hl 1 rfl) ?_
  refine lv_icmp_eq (tgt := 938) hx hb dL_law_933 (by decide) (fun k10 => ?_) (fun k10 => ?_)
  · have h := h.1 k10
    refine lv_iload hx hb dL_law_938 (lv_at hl 1 rfl) ?_
    refine lv_if_ne (tgt := 955) hx hb dL_law_940 (by decide) (fun k11 => ?_) (fun k11 => ?_)
    · have h := h.2 k11
      refine lv_goto (tgt := 2873) hx hb dL_law_955 (by decide) ?_
      exact nx M8 o4 d5 _ _ _ _ _ (by omega) (by omega) (lv_sub hl [2, 3, 4, 5, 6, 7] rfl) hW h
    · have h := h.1 k11
      refine lv_aload_n hx hb dL_law_943 rfl (lv_at hl 6 rfl) ?_
      refine lv_iconst (v := 0) hx hb dL_law_944 (by decide) ?_
      refine sw_ll hx hb hW (vp_in_iff.mpr (by decide)) dL_law_945 ?_
      refine lv_iload hx hb dL_law_946 (lv_at hl 0 rfl) ?_
      refine lv_i2l hx hb dL_law_948 rfl ?_
      refine W.lcmp hx hb dL_law_949 ?_
      refine lv_if_eq (tgt := 955) hx hb dL_law_950 (by decide) (fun k12 => ?_) (fun k12 => ?_)
      · have h := h.1 k12
        refine lv_goto (tgt := 2873) hx hb dL_law_955 (by decide) ?_
        exact nx M8 o4 d5 _ _ _ _ _ (by omega) (by omega) (lv_sub hl [2, 3, 4, 5, 6, 7] rfl) hW h
      · have h := h.2 k12
        refine lv_iconst (v := 0) hx hb dL_law_953 (by decide) ?_
        exact h.elim
  · have h := h.2 k10
    refine lv_iconst (v := 0) hx hb dL_law_936 (by decide) ?_
    exact h.elim
def wcase_12 (L : Nat) (xs : Nat → Int32) (i : Int32) (M : sM) (o : sO) (d : sE) (N : sM → sO → sE → Prop) : Prop :=
  vp_in (i + (1 : Int32)) L ∧ (wL_topic (xs ((i + (1 : Int32))).toNatClampNeg) M o d (fun r2 M3 o4 d5 => vp_in (i + (1 : Int32)) L ∧ (wX7_topic (xs ((i + (1 : Int32))).toNatClampNeg) M3 (fun r7 M8 => wX7_thrown M8 (fun r9 => (r9 = r2 → ((r2 = 0 → (((lg_cmp (o4 ((0 : Int32)).toNatClampNeg) (r7).toInt64) = 0 → (N M8 o4 d5)) ∧ (¬ (lg_cmp (o4 ((0 : Int32)).toNatClampNeg) (r7).toInt64) = 0 → (False)))) ∧ (¬ r2 = 0 → (N M8 o4 d5)))) ∧ (¬ r9 = r2 → (False)))))))
set_option maxRecDepth 20000 in
theorem kcase_12 {p : Program} {l : Launch} {e : Env} {s : State} {m : MethodId} {below : List Frame} {meth : Method} {c : Code} {H : Heap} {locs : List Loc} {cells slots : Nat} {Q : State → Prop} {ls : Array Slot} {g : sG} {b L : Nat} {xs : Nat → Int32} (Z : zLw p l s m meth c b L xs g) {i : Int32} {M : sM} {o : sO} {d : sE} {N : sM → sO → sE → Prop} (hl : lv_has ls 9 (zLs g b i)) (hW : sw_Wd g o d M s H locs) (hc : cells + 8 ≤ 603072) (hs : slots + 48 ≤ 7211114) (h : wcase_12 L xs i M o d N)
    (nx : ∀ (M : sM) (o : sO) (d : sE) (H : Heap) (locs : List Loc) (ls : Array Slot) (cells' slots' : Nat), cells' ≤ cells + 8 → slots' ≤ slots + 48 → lv_has ls 9 (zLs g b i) → sw_Wd g o d M s H locs → N M o d → W p l e room_1 s m #[Value.ref b] below meth c H locs cells' slots' Q (F0 m 2873 ls [])) : W p l e room_1 s m #[Value.ref b] below meth c H locs cells slots Q (F0 m 958 ls []) := by
  obtain ⟨hx, hb, hml, hown, hts, hX, hbl, hbA, hst⟩ := Z
  unfold wcase_12 at h
  refine lv_aload_n hx hb dL_law_958 rfl (lv_at hl 2 rfl) ?_
  refine lv_aload_n hx hb dL_law_959 rfl (lv_at hl 1 rfl) ?_
  refine lv_iload hx hb dL_law_960 (lv_at hl 0 rfl) ?_
  refine lv_iconst (v := 1) hx hb dL_law_962 (by decide) ?_
  refine lv_iadd hx hb dL_law_963 ?_
  have b1 := h.1
  have h := h.2
  refine va_sld hx hb hX hbl hbA hW.2.1 b1 dL_law_964 ?_
  refine lv_aload_n hx hb dL_law_965 rfl (lv_at hl 4 rfl) ?_
  refine sw_k3 (rest := []) (sw_runH (As := [.ref (sw_ad g 0), .int (xs ((i + (1 : Int32))).toNatClampNeg), .ref (sw_ad g 233)]) (rest := []) hx hb hml hown hts (kL_topic l hst g (xs ((i + (1 : Int32))).toNatClampNeg) M o d _ h) ch_L_topic q_579 rfl rfl ⟨(Nat.le_of_ble_eq_true rfl), (Nat.le_of_ble_eq_true rfl)⟩ hW rfl hl.1 rfl (Nat.le_of_ble_eq_true rfl) dL_law_966 ⟨by show _ ≤ 603072; omega, by show _ ≤ 7211114; omega⟩) hW (fun r2 M3 o4 d5 H locs h hW => ?_)
  refine lv_istore (lv' := [(6, .int r2), (5, .int i), (0, .ref b), (1, .ref (sw_ad g 0)), (2, .ref (sw_ad g 33)), (3, .ref (sw_ad g 233)), (4, .ref (sw_ad g 234))]) hx hb dL_law_969 hl (Nat.le_of_ble_eq_true rfl) rfl (fun ls hl => ?_)
  refine lv_aload_n hx hb dL_law_971 rfl (lv_at hl 4 rfl) ?_
  refine lv_aload_n hx hb dL_law_972 rfl (lv_at hl 2 rfl) ?_
  refine lv_iload hx hb dL_law_973 (lv_at hl 1 rfl) ?_
  refine lv_iconst (v := 1) hx hb dL_law_975 (by decide) ?_
  refine lv_iadd hx hb dL_law_976 ?_
  have b6 := h.1
  have h := h.2
  refine va_sld hx hb hX hbl hbA hW.2.1 b6 dL_law_977 ?_
  refine sw_ki (rest := []) (sw_runV (As := [.int (xs ((i + (1 : Int32))).toNatClampNeg)]) (rest := []) hx hb hml hown hts (kX7_topic l g o4 d5 (xs ((i + (1 : Int32))).toNatClampNeg) M3 _ h) cv_X7_topic q_1146 rfl rfl ⟨(Nat.le_of_ble_eq_true rfl), (Nat.le_of_ble_eq_true rfl)⟩ hW (Nat.le_of_ble_eq_true rfl) sl_33 rfl rfl hl.1 rfl (Nat.le_of_ble_eq_true rfl) dL_law_978 ⟨by show _ ≤ 603072; omega, by show _ ≤ 7211114; omega⟩) hW (fun r7 M8 H locs h hW => ?_)
  refine lv_istore (lv' := [(7, .int r7), (6, .int r2), (5, .int i), (0, .ref b), (1, .ref (sw_ad g 0)), (2, .ref (sw_ad g 33)), (3, .ref (sw_ad g 233)), (4, .ref (sw_ad g 234))]) hx hb dL_law_981 hl (Nat.le_of_ble_eq_true rfl) rfl (fun ls hl => ?_)
  refine lv_aload_n hx hb dL_law_983 rfl (lv_at hl 5 rfl) ?_
  refine sw_ki (rest := []) (sw_runV (As := []) (rest := []) hx hb hml hown hts (kX7_thrown l g o4 d5 M8 _ h) cv_X7_thrown q_966 rfl rfl ⟨(Nat.le_of_ble_eq_true rfl), (Nat.le_of_ble_eq_true rfl)⟩ hW (Nat.le_of_ble_eq_true rfl) sl_33 rfl rfl hl.1 rfl (Nat.le_of_ble_eq_true rfl) dL_law_984 ⟨by show _ ≤ 603072; omega, by show _ ≤ 7211114; omega⟩) hW (fun r9 M13 H locs h hW => ?_)
  obtain ⟨h, eM13⟩ := h
  rw [eM13] at hW
  refine lv_iload hx hb dL_law_987 (lv_at hl 1 rfl) ?_
  refine lv_icmp_eq (tgt := 994) hx hb dL_law_989 (by decide) (fun k10 => ?_) (fun k10 => ?_)
  · have h := h.1 k10
    refine lv_iload hx hb dL_law_994 (lv_at hl 1 rfl) ?_
    refine lv_if_ne (tgt := 1011) hx hb dL_law_996 (by decide) (fun k11 => ?_) (fun k11 => ?_)
    · have h := h.2 k11
      refine lv_goto (tgt := 2873) hx hb dL_law_1011 (by decide) ?_
      exact nx M8 o4 d5 _ _ _ _ _ (by omega) (by omega) (lv_sub hl [2, 3, 4, 5, 6, 7] rfl) hW h
    · have h := h.1 k11
      refine lv_aload_n hx hb dL_law_999 rfl (lv_at hl 6 rfl) ?_
      refine lv_iconst (v := 0) hx hb dL_law_1000 (by decide) ?_
      refine sw_ll hx hb hW (vp_in_iff.mpr (by decide)) dL_law_1001 ?_
      refine lv_iload hx hb dL_law_1002 (lv_at hl 0 rfl) ?_
      refine lv_i2l hx hb dL_law_1004 rfl ?_
      refine W.lcmp hx hb dL_law_1005 ?_
      refine lv_if_eq (tgt := 1011) hx hb dL_law_1006 (by decide) (fun k12 => ?_) (fun k12 => ?_)
      · have h := h.1 k12
        refine lv_goto (tgt := 2873) hx hb dL_law_1011 (by decide) ?_
        exact nx M8 o4 d5 _ _ _ _ _ (by omega) (by omega) (lv_sub hl [2, 3, 4, 5, 6, 7] rfl) hW h
      · have h := h.2 k12
        refine lv_iconst (v := 0) hx hb dL_law_1009 (by decide) ?_
        exact h.elim
  · have h := h.2 k10
    refine lv_iconst (v := 0) hx hb dL_law_992 (by decide) ?_
    exact h.elim
def wcase_13 (L : Nat) (xs : Nat → Int32) (i : Int32) (M : sM) (o : sO) (d : sE) (N : sM → sO → sE → Prop) : Prop :=
  vp_in (i + (1 : Int32)) L ∧ (wL_examinersOf (xs ((i + (1 : Int32))).toNatClampNeg) M o d (fun r2 M3 o4 d5 => vp_in (i + (1 : Int32)) L ∧ (wX7_examinersOf (xs ((i + (1 : Int32))).toNatClampNeg) M3 (fun r7 M8 => wX7_thrown M8 (fun r9 => (r9 = r2 → ((r2 = 0 → (((lg_cmp (o4 ((0 : Int32)).toNatClampNeg) (r7).toInt64) = 0 → (N M8 o4 d5)) ∧ (¬ (lg_cmp (o4 ((0 : Int32)).toNatClampNeg) (r7).toInt64) = 0 → (False)))) ∧ (¬ r2 = 0 → (N M8 o4 d5)))) ∧ (¬ r9 = r2 → (False)))))))
set_option maxRecDepth 20000 in
theorem kcase_13 {p : Program} {l : Launch} {e : Env} {s : State} {m : MethodId} {below : List Frame} {meth : Method} {c : Code} {H : Heap} {locs : List Loc} {cells slots : Nat} {Q : State → Prop} {ls : Array Slot} {g : sG} {b L : Nat} {xs : Nat → Int32} (Z : zLw p l s m meth c b L xs g) {i : Int32} {M : sM} {o : sO} {d : sE} {N : sM → sO → sE → Prop} (hl : lv_has ls 9 (zLs g b i)) (hW : sw_Wd g o d M s H locs) (hc : cells + 8 ≤ 603072) (hs : slots + 48 ≤ 7211114) (h : wcase_13 L xs i M o d N)
    (nx : ∀ (M : sM) (o : sO) (d : sE) (H : Heap) (locs : List Loc) (ls : Array Slot) (cells' slots' : Nat), cells' ≤ cells + 8 → slots' ≤ slots + 48 → lv_has ls 9 (zLs g b i) → sw_Wd g o d M s H locs → N M o d → W p l e room_1 s m #[Value.ref b] below meth c H locs cells' slots' Q (F0 m 2873 ls [])) : W p l e room_1 s m #[Value.ref b] below meth c H locs cells slots Q (F0 m 1014 ls []) := by
  obtain ⟨hx, hb, hml, hown, hts, hX, hbl, hbA, hst⟩ := Z
  unfold wcase_13 at h
  refine lv_aload_n hx hb dL_law_1014 rfl (lv_at hl 2 rfl) ?_
  refine lv_aload_n hx hb dL_law_1015 rfl (lv_at hl 1 rfl) ?_
  refine lv_iload hx hb dL_law_1016 (lv_at hl 0 rfl) ?_
  refine lv_iconst (v := 1) hx hb dL_law_1018 (by decide) ?_
  refine lv_iadd hx hb dL_law_1019 ?_
  have b1 := h.1
  have h := h.2
  refine va_sld hx hb hX hbl hbA hW.2.1 b1 dL_law_1020 ?_
  refine lv_aload_n hx hb dL_law_1021 rfl (lv_at hl 4 rfl) ?_
  refine sw_k3 (rest := []) (sw_runH (As := [.ref (sw_ad g 0), .int (xs ((i + (1 : Int32))).toNatClampNeg), .ref (sw_ad g 233)]) (rest := []) hx hb hml hown hts (kL_examinersOf l hst g (xs ((i + (1 : Int32))).toNatClampNeg) M o d _ h) ch_L_examinersOf q_585 rfl rfl ⟨(Nat.le_of_ble_eq_true rfl), (Nat.le_of_ble_eq_true rfl)⟩ hW rfl hl.1 rfl (Nat.le_of_ble_eq_true rfl) dL_law_1022 ⟨by show _ ≤ 603072; omega, by show _ ≤ 7211114; omega⟩) hW (fun r2 M3 o4 d5 H locs h hW => ?_)
  refine lv_istore (lv' := [(6, .int r2), (5, .int i), (0, .ref b), (1, .ref (sw_ad g 0)), (2, .ref (sw_ad g 33)), (3, .ref (sw_ad g 233)), (4, .ref (sw_ad g 234))]) hx hb dL_law_1025 hl (Nat.le_of_ble_eq_true rfl) rfl (fun ls hl => ?_)
  refine lv_aload_n hx hb dL_law_1027 rfl (lv_at hl 4 rfl) ?_
  refine lv_aload_n hx hb dL_law_1028 rfl (lv_at hl 2 rfl) ?_
  refine lv_iload hx hb dL_law_1029 (lv_at hl 1 rfl) ?_
  refine lv_iconst (v := 1) hx hb dL_law_1031 (by decide) ?_
  refine lv_iadd hx hb dL_law_1032 ?_
  have b6 := h.1
  have h := h.2
  refine va_sld hx hb hX hbl hbA hW.2.1 b6 dL_law_1033 ?_
  refine sw_ki (rest := []) (sw_runV (As := [.int (xs ((i + (1 : Int32))).toNatClampNeg)]) (rest := []) hx hb hml hown hts (kX7_examinersOf l g o4 d5 (xs ((i + (1 : Int32))).toNatClampNeg) M3 _ h) cv_X7_examinersOf q_1150 rfl rfl ⟨(Nat.le_of_ble_eq_true rfl), (Nat.le_of_ble_eq_true rfl)⟩ hW (Nat.le_of_ble_eq_true rfl) sl_33 rfl rfl hl.1 rfl (Nat.le_of_ble_eq_true rfl) dL_law_1034 ⟨by show _ ≤ 603072; omega, by show _ ≤ 7211114; omega⟩) hW (fun r7 M8 H locs h hW => ?_)
  refine lv_istore (lv' := [(7, .int r7), (6, .int r2), (5, .int i), (0, .ref b), (1, .ref (sw_ad g 0)), (2, .ref (sw_ad g 33)), (3, .ref (sw_ad g 233)), (4, .ref (sw_ad g 234))]) hx hb dL_law_1037 hl (Nat.le_of_ble_eq_true rfl) rfl (fun ls hl => ?_)
  refine lv_aload_n hx hb dL_law_1039 rfl (lv_at hl 5 rfl) ?_
  refine sw_ki (rest := []) (sw_runV (As := []) (rest := []) hx hb hml hown hts (kX7_thrown l g o4 d5 M8 _ h) cv_X7_thrown q_966 rfl rfl ⟨(Nat.le_of_ble_eq_true rfl), (Nat.le_of_ble_eq_true rfl)⟩ hW (Nat.le_of_ble_eq_true rfl) sl_33 rfl rfl hl.1 rfl (Nat.le_of_ble_eq_true rfl) dL_law_1040 ⟨by show _ ≤ 603072; omega, by show _ ≤ 7211114; omega⟩) hW (fun r9 M13 H locs h hW => ?_)
  obtain ⟨h, eM13⟩ := h
  rw [eM13] at hW
  refine lv_iload hx hb dL_law_1043 (lv_at hl 1 rfl) ?_
  refine lv_icmp_eq (tgt := 1050) hx hb dL_law_1045 (by decide) (fun k10 => ?_) (fun k10 => ?_)
  · have h := h.1 k10
    refine lv_iload hx hb dL_law_1050 (lv_at hl 1 rfl) ?_
    refine lv_if_ne (tgt := 1067) hx hb dL_law_1052 (by decide) (fun k11 => ?_) (fun k11 => ?_)
    · have h := h.2 k11
      refine lv_goto (tgt := 2873) hx hb dL_law_1067 (by decide) ?_
      exact nx M8 o4 d5 _ _ _ _ _ (by omega) (by omega) (lv_sub hl [2, 3, 4, 5, 6, 7] rfl) hW h
    · have h := h.1 k11
      refine lv_aload_n hx hb dL_law_1055 rfl (lv_at hl 6 rfl) ?_
      refine lv_iconst (v := 0) hx hb dL_law_1056 (by decide) ?_
      refine sw_ll hx hb hW (vp_in_iff.mpr (by decide)) dL_law_1057 ?_
      refine lv_iload hx hb dL_law_1058 (lv_at hl 0 rfl) ?_
      refine lv_i2l hx hb dL_law_1060 rfl ?_
      refine W.lcmp hx hb dL_law_1061 ?_
      refine lv_if_eq (tgt := 1067) hx hb dL_law_1062 (by decide) (fun k12 => ?_) (fun k12 => ?_)
      · have h := h.1 k12
        refine lv_goto (tgt := 2873) hx hb dL_law_1067 (by decide) ?_
        exact nx M8 o4 d5 _ _ _ _ _ (by omega) (by omega) (lv_sub hl [2, 3, 4, 5, 6, 7] rfl) hW h
      · have h := h.2 k12
        refine lv_iconst (v := 0) hx hb dL_law_1065 (by decide) ?_
        exact h.elim
  · have h := h.2 k10
    refine lv_iconst (v := 0) hx hb dL_law_1048 (by decide) ?_
    exact h.elim
def wcase_14 (L : Nat) (xs : Nat → Int32) (i : Int32) (M : sM) (o : sO) (d : sE) (N : sM → sO → sE → Prop) : Prop :=
  vp_in (i + (1 : Int32)) L ∧ (wL_gradesOf (xs ((i + (1 : Int32))).toNatClampNeg) M o d (fun r2 M3 o4 d5 => vp_in (i + (1 : Int32)) L ∧ (wX7_gradesOf (xs ((i + (1 : Int32))).toNatClampNeg) M3 (fun r7 M8 => wX7_thrown M8 (fun r9 => (r9 = r2 → ((r2 = 0 → (((lg_cmp (o4 ((0 : Int32)).toNatClampNeg) (r7).toInt64) = 0 → (N M8 o4 d5)) ∧ (¬ (lg_cmp (o4 ((0 : Int32)).toNatClampNeg) (r7).toInt64) = 0 → (False)))) ∧ (¬ r2 = 0 → (N M8 o4 d5)))) ∧ (¬ r9 = r2 → (False)))))))
set_option maxRecDepth 20000 in
theorem kcase_14 {p : Program} {l : Launch} {e : Env} {s : State} {m : MethodId} {below : List Frame} {meth : Method} {c : Code} {H : Heap} {locs : List Loc} {cells slots : Nat} {Q : State → Prop} {ls : Array Slot} {g : sG} {b L : Nat} {xs : Nat → Int32} (Z : zLw p l s m meth c b L xs g) {i : Int32} {M : sM} {o : sO} {d : sE} {N : sM → sO → sE → Prop} (hl : lv_has ls 9 (zLs g b i)) (hW : sw_Wd g o d M s H locs) (hc : cells + 8 ≤ 603072) (hs : slots + 48 ≤ 7211114) (h : wcase_14 L xs i M o d N)
    (nx : ∀ (M : sM) (o : sO) (d : sE) (H : Heap) (locs : List Loc) (ls : Array Slot) (cells' slots' : Nat), cells' ≤ cells + 8 → slots' ≤ slots + 48 → lv_has ls 9 (zLs g b i) → sw_Wd g o d M s H locs → N M o d → W p l e room_1 s m #[Value.ref b] below meth c H locs cells' slots' Q (F0 m 2873 ls [])) : W p l e room_1 s m #[Value.ref b] below meth c H locs cells slots Q (F0 m 1070 ls []) := by
  obtain ⟨hx, hb, hml, hown, hts, hX, hbl, hbA, hst⟩ := Z
  unfold wcase_14 at h
  refine lv_aload_n hx hb dL_law_1070 rfl (lv_at hl 2 rfl) ?_
  refine lv_aload_n hx hb dL_law_1071 rfl (lv_at hl 1 rfl) ?_
  refine lv_iload hx hb dL_law_1072 (lv_at hl 0 rfl) ?_
  refine lv_iconst (v := 1) hx hb dL_law_1074 (by decide) ?_
  refine lv_iadd hx hb dL_law_1075 ?_
  have b1 := h.1
  have h := h.2
  refine va_sld hx hb hX hbl hbA hW.2.1 b1 dL_law_1076 ?_
  refine lv_aload_n hx hb dL_law_1077 rfl (lv_at hl 4 rfl) ?_
  refine sw_k3 (rest := []) (sw_runH (As := [.ref (sw_ad g 0), .int (xs ((i + (1 : Int32))).toNatClampNeg), .ref (sw_ad g 233)]) (rest := []) hx hb hml hown hts (kL_gradesOf l hst g (xs ((i + (1 : Int32))).toNatClampNeg) M o d _ h) ch_L_gradesOf q_591 rfl rfl ⟨(Nat.le_of_ble_eq_true rfl), (Nat.le_of_ble_eq_true rfl)⟩ hW rfl hl.1 rfl (Nat.le_of_ble_eq_true rfl) dL_law_1078 ⟨by show _ ≤ 603072; omega, by show _ ≤ 7211114; omega⟩) hW (fun r2 M3 o4 d5 H locs h hW => ?_)
  refine lv_istore (lv' := [(6, .int r2), (5, .int i), (0, .ref b), (1, .ref (sw_ad g 0)), (2, .ref (sw_ad g 33)), (3, .ref (sw_ad g 233)), (4, .ref (sw_ad g 234))]) hx hb dL_law_1081 hl (Nat.le_of_ble_eq_true rfl) rfl (fun ls hl => ?_)
  refine lv_aload_n hx hb dL_law_1083 rfl (lv_at hl 4 rfl) ?_
  refine lv_aload_n hx hb dL_law_1084 rfl (lv_at hl 2 rfl) ?_
  refine lv_iload hx hb dL_law_1085 (lv_at hl 1 rfl) ?_
  refine lv_iconst (v := 1) hx hb dL_law_1087 (by decide) ?_
  refine lv_iadd hx hb dL_law_1088 ?_
  have b6 := h.1
  have h := h.2
  refine va_sld hx hb hX hbl hbA hW.2.1 b6 dL_law_1089 ?_
  refine sw_ki (rest := []) (sw_runV (As := [.int (xs ((i + (1 : Int32))).toNatClampNeg)]) (rest := []) hx hb hml hown hts (kX7_gradesOf l g o4 d5 (xs ((i + (1 : Int32))).toNatClampNeg) M3 _ h) cv_X7_gradesOf q_1154 rfl rfl ⟨(Nat.le_of_ble_eq_true rfl), (Nat.le_of_ble_eq_true rfl)⟩ hW (Nat.le_of_ble_eq_true rfl) sl_33 rfl rfl hl.1 rfl (Nat.le_of_ble_eq_true rfl) dL_law_1090 ⟨by show _ ≤ 603072; omega, by show _ ≤ 7211114; omega⟩) hW (fun r7 M8 H locs h hW => ?_)
  refine lv_istore (lv' := [(7, .int r7), (6, .int r2), (5, .int i), (0, .ref b), (1, .ref (sw_ad g 0)), (2, .ref (sw_ad g 33)), (3, .ref (sw_ad g 233)), (4, .ref (sw_ad g 234))]) hx hb dL_law_1093 hl (Nat.le_of_ble_eq_true rfl) rfl (fun ls hl => ?_)
  refine lv_aload_n hx hb dL_law_1095 rfl (lv_at hl 5 rfl) ?_
  refine sw_ki (rest := []) (sw_runV (As := []) (rest := []) hx hb hml hown hts (kX7_thrown l g o4 d5 M8 _ h) cv_X7_thrown q_966 rfl rfl ⟨(Nat.le_of_ble_eq_true rfl), (Nat.le_of_ble_eq_true rfl)⟩ hW (Nat.le_of_ble_eq_true rfl) sl_33 rfl rfl hl.1 rfl (Nat.le_of_ble_eq_true rfl) dL_law_1096 ⟨by show _ ≤ 603072; omega, by show _ ≤ 7211114; omega⟩) hW (fun r9 M13 H locs h hW => ?_)
  obtain ⟨h, eM13⟩ := h
  rw [eM13] at hW
  refine lv_iload hx hb dL_law_1099 (lv_at hl 1 rfl) ?_
  refine lv_icmp_eq (tgt := 1106) hx hb dL_law_1101 (by decide) (fun k10 => ?_) (fun k10 => ?_)
  · have h := h.1 k10
    refine lv_iload hx hb dL_law_1106 (lv_at hl 1 rfl) ?_
    refine lv_if_ne (tgt := 1123) hx hb dL_law_1108 (by decide) (fun k11 => ?_) (fun k11 => ?_)
    · have h := h.2 k11
      refine lv_goto (tgt := 2873) hx hb dL_law_1123 (by decide) ?_
      exact nx M8 o4 d5 _ _ _ _ _ (by omega) (by omega) (lv_sub hl [2, 3, 4, 5, 6, 7] rfl) hW h
    · have h := h.1 k11
      refine lv_aload_n hx hb dL_law_1111 rfl (lv_at hl 6 rfl) ?_
      refine lv_iconst (v := 0) hx hb dL_law_1112 (by decide) ?_
      refine sw_ll hx hb hW (vp_in_iff.mpr (by decide)) dL_law_1113 ?_
      refine lv_iload hx hb dL_law_1114 (lv_at hl 0 rfl) ?_
      refine lv_i2l hx hb dL_law_1116 rfl ?_
      refine W.lcmp hx hb dL_law_1117 ?_
      refine lv_if_eq (tgt := 1123) hx hb dL_law_1118 (by decide) (fun k12 => ?_) (fun k12 => ?_)
      · have h := h.1 k12
        refine lv_goto (tgt := 2873) hx hb dL_law_1123 (by decide) ?_
        exact nx M8 o4 d5 _ _ _ _ _ (by omega) (by omega) (lv_sub hl [2, 3, 4, 5, 6, 7] rfl) hW h
      · have h := h.2 k12
        refine lv_iconst (v := 0) hx hb dL_law_1121 (by decide) ?_
        exact h.elim
  · have h := h.2 k10
    refine lv_iconst (v := 0) hx hb dL_law_1104 (by decide) ?_
    exact h.elim
def wcase_15 (L : Nat) (xs : Nat → Int32) (i : Int32) (M : sM) (o : sO) (d : sE) (N : sM → sO → sE → Prop) : Prop :=
  vp_in (i + (1 : Int32)) L ∧ (wL_result (xs ((i + (1 : Int32))).toNatClampNeg) M o d (fun r2 M3 o4 d5 => vp_in (i + (1 : Int32)) L ∧ (wX7_result (xs ((i + (1 : Int32))).toNatClampNeg) M3 (fun r7 M8 => wX7_thrown M8 (fun r9 => (r9 = r2 → ((r2 = 0 → (((lg_cmp (o4 ((0 : Int32)).toNatClampNeg) (r7).toInt64) = 0 → (N M8 o4 d5)) ∧ (¬ (lg_cmp (o4 ((0 : Int32)).toNatClampNeg) (r7).toInt64) = 0 → (False)))) ∧ (¬ r2 = 0 → (N M8 o4 d5)))) ∧ (¬ r9 = r2 → (False)))))))
set_option maxRecDepth 20000 in
theorem kcase_15 {p : Program} {l : Launch} {e : Env} {s : State} {m : MethodId} {below : List Frame} {meth : Method} {c : Code} {H : Heap} {locs : List Loc} {cells slots : Nat} {Q : State → Prop} {ls : Array Slot} {g : sG} {b L : Nat} {xs : Nat → Int32} (Z : zLw p l s m meth c b L xs g) {i : Int32} {M : sM} {o : sO} {d : sE} {N : sM → sO → sE → Prop} (hl : lv_has ls 9 (zLs g b i)) (hW : sw_Wd g o d M s H locs) (hc : cells + 8 ≤ 603072) (hs : slots + 48 ≤ 7211114) (h : wcase_15 L xs i M o d N)
    (nx : ∀ (M : sM) (o : sO) (d : sE) (H : Heap) (locs : List Loc) (ls : Array Slot) (cells' slots' : Nat), cells' ≤ cells + 8 → slots' ≤ slots + 48 → lv_has ls 9 (zLs g b i) → sw_Wd g o d M s H locs → N M o d → W p l e room_1 s m #[Value.ref b] below meth c H locs cells' slots' Q (F0 m 2873 ls [])) : W p l e room_1 s m #[Value.ref b] below meth c H locs cells slots Q (F0 m 1126 ls []) := by
  obtain ⟨hx, hb, hml, hown, hts, hX, hbl, hbA, hst⟩ := Z
  unfold wcase_15 at h
  refine lv_aload_n hx hb dL_law_1126 rfl (lv_at hl 2 rfl) ?_
  refine lv_aload_n hx hb dL_law_1127 rfl (lv_at hl 1 rfl) ?_
  refine lv_iload hx hb dL_law_1128 (lv_at hl 0 rfl) ?_
  refine lv_iconst (v := 1) hx hb dL_law_1130 (by decide) ?_
  refine lv_iadd hx hb dL_law_1131 ?_
  have b1 := h.1
  have h := h.2
  refine va_sld hx hb hX hbl hbA hW.2.1 b1 dL_law_1132 ?_
  refine lv_aload_n hx hb dL_law_1133 rfl (lv_at hl 4 rfl) ?_
  refine sw_k3 (rest := []) (sw_runH (As := [.ref (sw_ad g 0), .int (xs ((i + (1 : Int32))).toNatClampNeg), .ref (sw_ad g 233)]) (rest := []) hx hb hml hown hts (kL_result l hst g (xs ((i + (1 : Int32))).toNatClampNeg) M o d _ h) ch_L_result q_598 rfl rfl ⟨(Nat.le_of_ble_eq_true rfl), (Nat.le_of_ble_eq_true rfl)⟩ hW rfl hl.1 rfl (Nat.le_of_ble_eq_true rfl) dL_law_1134 ⟨by show _ ≤ 603072; omega, by show _ ≤ 7211114; omega⟩) hW (fun r2 M3 o4 d5 H locs h hW => ?_)
  refine lv_istore (lv' := [(6, .int r2), (5, .int i), (0, .ref b), (1, .ref (sw_ad g 0)), (2, .ref (sw_ad g 33)), (3, .ref (sw_ad g 233)), (4, .ref (sw_ad g 234))]) hx hb dL_law_1137 hl (Nat.le_of_ble_eq_true rfl) rfl (fun ls hl => ?_)
  refine lv_aload_n hx hb dL_law_1139 rfl (lv_at hl 4 rfl) ?_
  refine lv_aload_n hx hb dL_law_1140 rfl (lv_at hl 2 rfl) ?_
  refine lv_iload hx hb dL_law_1141 (lv_at hl 1 rfl) ?_
  refine lv_iconst (v := 1) hx hb dL_law_1143 (by decide) ?_
  refine lv_iadd hx hb dL_law_1144 ?_
  have b6 := h.1
  have h := h.2
  refine va_sld hx hb hX hbl hbA hW.2.1 b6 dL_law_1145 ?_
  refine sw_ki (rest := []) (sw_runV (As := [.int (xs ((i + (1 : Int32))).toNatClampNeg)]) (rest := []) hx hb hml hown hts (kX7_result l g o4 d5 (xs ((i + (1 : Int32))).toNatClampNeg) M3 _ h) cv_X7_result q_1158 rfl rfl ⟨(Nat.le_of_ble_eq_true rfl), (Nat.le_of_ble_eq_true rfl)⟩ hW (Nat.le_of_ble_eq_true rfl) sl_33 rfl rfl hl.1 rfl (Nat.le_of_ble_eq_true rfl) dL_law_1146 ⟨by show _ ≤ 603072; omega, by show _ ≤ 7211114; omega⟩) hW (fun r7 M8 H locs h hW => ?_)
  refine lv_istore (lv' := [(7, .int r7), (6, .int r2), (5, .int i), (0, .ref b), (1, .ref (sw_ad g 0)), (2, .ref (sw_ad g 33)), (3, .ref (sw_ad g 233)), (4, .ref (sw_ad g 234))]) hx hb dL_law_1149 hl (Nat.le_of_ble_eq_true rfl) rfl (fun ls hl => ?_)
  refine lv_aload_n hx hb dL_law_1151 rfl (lv_at hl 5 rfl) ?_
  refine sw_ki (rest := []) (sw_runV (As := []) (rest := []) hx hb hml hown hts (kX7_thrown l g o4 d5 M8 _ h) cv_X7_thrown q_966 rfl rfl ⟨(Nat.le_of_ble_eq_true rfl), (Nat.le_of_ble_eq_true rfl)⟩ hW (Nat.le_of_ble_eq_true rfl) sl_33 rfl rfl hl.1 rfl (Nat.le_of_ble_eq_true rfl) dL_law_1152 ⟨by show _ ≤ 603072; omega, by show _ ≤ 7211114; omega⟩) hW (fun r9 M13 H locs h hW => ?_)
  obtain ⟨h, eM13⟩ := h
  rw [eM13] at hW
  refine lv_iload hx hb dL_law_1155 (lv_at hl 1 rfl) ?_
  refine lv_icmp_eq (tgt := 1162) hx hb dL_law_1157 (by decide) (fun k10 => ?_) (fun k10 => ?_)
  · have h := h.1 k10
    refine lv_iload hx hb dL_law_1162 (lv_at hl 1 rfl) ?_
    refine lv_if_ne (tgt := 1179) hx hb dL_law_1164 (by decide) (fun k11 => ?_) (fun k11 => ?_)
    · have h := h.2 k11
      refine lv_goto (tgt := 2873) hx hb dL_law_1179 (by decide) ?_
      exact nx M8 o4 d5 _ _ _ _ _ (by omega) (by omega) (lv_sub hl [2, 3, 4, 5, 6, 7] rfl) hW h
    · have h := h.1 k11
      refine lv_aload_n hx hb dL_law_1167 rfl (lv_at hl 6 rfl) ?_
      refine lv_iconst (v := 0) hx hb dL_law_1168 (by decide) ?_
      refine sw_ll hx hb hW (vp_in_iff.mpr (by decide)) dL_law_1169 ?_
      refine lv_iload hx hb dL_law_1170 (lv_at hl 0 rfl) ?_
      refine lv_i2l hx hb dL_law_1172 rfl ?_
      refine W.lcmp hx hb dL_law_1173 ?_
      refine lv_if_eq (tgt := 1179) hx hb dL_law_1174 (by decide) (fun k12 => ?_) (fun k12 => ?_)
      · have h := h.1 k12
        refine lv_goto (tgt := 2873) hx hb dL_law_1179 (by decide) ?_
        exact nx M8 o4 d5 _ _ _ _ _ (by omega) (by omega) (lv_sub hl [2, 3, 4, 5, 6, 7] rfl) hW h
      · have h := h.2 k12
        refine lv_iconst (v := 0) hx hb dL_law_1177 (by decide) ?_
        exact h.elim
  · have h := h.2 k10
    refine lv_iconst (v := 0) hx hb dL_law_1160 (by decide) ?_
    exact h.elim
def wcase_16 (L : Nat) (xs : Nat → Int32) (i : Int32) (M : sM) (o : sO) (d : sE) (N : sM → sO → sE → Prop) : Prop :=
  vp_in (i + (1 : Int32)) L ∧ (wL_passes (xs ((i + (1 : Int32))).toNatClampNeg) M o d (fun r2 M3 o4 d5 => vp_in (i + (1 : Int32)) L ∧ (wX7_passes (xs ((i + (1 : Int32))).toNatClampNeg) M3 (fun r7 M8 => wX7_thrown M8 (fun r9 => (r9 = r2 → ((r2 = 0 → ((r7 = 0 → (((lg_cmp (o4 ((0 : Int32)).toNatClampNeg) (0 : Int64)) = 0 → (N M8 o4 d5)) ∧ (¬ (lg_cmp (o4 ((0 : Int32)).toNatClampNeg) (0 : Int64)) = 0 → (False)))) ∧ (¬ r7 = 0 → (((lg_cmp (o4 ((0 : Int32)).toNatClampNeg) (1 : Int64)) = 0 → (N M8 o4 d5)) ∧ (¬ (lg_cmp (o4 ((0 : Int32)).toNatClampNeg) (1 : Int64)) = 0 → (False)))))) ∧ (¬ r2 = 0 → (N M8 o4 d5)))) ∧ (¬ r9 = r2 → (False)))))))
set_option maxRecDepth 20000 in
theorem kcase_16 {p : Program} {l : Launch} {e : Env} {s : State} {m : MethodId} {below : List Frame} {meth : Method} {c : Code} {H : Heap} {locs : List Loc} {cells slots : Nat} {Q : State → Prop} {ls : Array Slot} {g : sG} {b L : Nat} {xs : Nat → Int32} (Z : zLw p l s m meth c b L xs g) {i : Int32} {M : sM} {o : sO} {d : sE} {N : sM → sO → sE → Prop} (hl : lv_has ls 9 (zLs g b i)) (hW : sw_Wd g o d M s H locs) (hc : cells + 8 ≤ 603072) (hs : slots + 48 ≤ 7211114) (h : wcase_16 L xs i M o d N)
    (nx : ∀ (M : sM) (o : sO) (d : sE) (H : Heap) (locs : List Loc) (ls : Array Slot) (cells' slots' : Nat), cells' ≤ cells + 8 → slots' ≤ slots + 48 → lv_has ls 9 (zLs g b i) → sw_Wd g o d M s H locs → N M o d → W p l e room_1 s m #[Value.ref b] below meth c H locs cells' slots' Q (F0 m 2873 ls [])) : W p l e room_1 s m #[Value.ref b] below meth c H locs cells slots Q (F0 m 1182 ls []) := by
  obtain ⟨hx, hb, hml, hown, hts, hX, hbl, hbA, hst⟩ := Z
  unfold wcase_16 at h
  refine lv_aload_n hx hb dL_law_1182 rfl (lv_at hl 2 rfl) ?_
  refine lv_aload_n hx hb dL_law_1183 rfl (lv_at hl 1 rfl) ?_
  refine lv_iload hx hb dL_law_1184 (lv_at hl 0 rfl) ?_
  refine lv_iconst (v := 1) hx hb dL_law_1186 (by decide) ?_
  refine lv_iadd hx hb dL_law_1187 ?_
  have b1 := h.1
  have h := h.2
  refine va_sld hx hb hX hbl hbA hW.2.1 b1 dL_law_1188 ?_
  refine lv_aload_n hx hb dL_law_1189 rfl (lv_at hl 4 rfl) ?_
  refine sw_k3 (rest := []) (sw_runH (As := [.ref (sw_ad g 0), .int (xs ((i + (1 : Int32))).toNatClampNeg), .ref (sw_ad g 233)]) (rest := []) hx hb hml hown hts (kL_passes l hst g (xs ((i + (1 : Int32))).toNatClampNeg) M o d _ h) ch_L_passes q_608 rfl rfl ⟨(Nat.le_of_ble_eq_true rfl), (Nat.le_of_ble_eq_true rfl)⟩ hW rfl hl.1 rfl (Nat.le_of_ble_eq_true rfl) dL_law_1190 ⟨by show _ ≤ 603072; omega, by show _ ≤ 7211114; omega⟩) hW (fun r2 M3 o4 d5 H locs h hW => ?_)
  refine lv_istore (lv' := [(6, .int r2), (5, .int i), (0, .ref b), (1, .ref (sw_ad g 0)), (2, .ref (sw_ad g 33)), (3, .ref (sw_ad g 233)), (4, .ref (sw_ad g 234))]) hx hb dL_law_1193 hl (Nat.le_of_ble_eq_true rfl) rfl (fun ls hl => ?_)
  refine lv_aload_n hx hb dL_law_1195 rfl (lv_at hl 4 rfl) ?_
  refine lv_aload_n hx hb dL_law_1196 rfl (lv_at hl 2 rfl) ?_
  refine lv_iload hx hb dL_law_1197 (lv_at hl 1 rfl) ?_
  refine lv_iconst (v := 1) hx hb dL_law_1199 (by decide) ?_
  refine lv_iadd hx hb dL_law_1200 ?_
  have b6 := h.1
  have h := h.2
  refine va_sld hx hb hX hbl hbA hW.2.1 b6 dL_law_1201 ?_
  refine sw_ki (rest := []) (sw_runV (As := [.int (xs ((i + (1 : Int32))).toNatClampNeg)]) (rest := []) hx hb hml hown hts (kX7_passes l g o4 d5 (xs ((i + (1 : Int32))).toNatClampNeg) M3 _ h) cv_X7_passes q_1162 rfl rfl ⟨(Nat.le_of_ble_eq_true rfl), (Nat.le_of_ble_eq_true rfl)⟩ hW (Nat.le_of_ble_eq_true rfl) sl_33 rfl rfl hl.1 rfl (Nat.le_of_ble_eq_true rfl) dL_law_1202 ⟨by show _ ≤ 603072; omega, by show _ ≤ 7211114; omega⟩) hW (fun r7 M8 H locs h hW => ?_)
  refine lv_istore (lv' := [(7, .int r7), (6, .int r2), (5, .int i), (0, .ref b), (1, .ref (sw_ad g 0)), (2, .ref (sw_ad g 33)), (3, .ref (sw_ad g 233)), (4, .ref (sw_ad g 234))]) hx hb dL_law_1205 hl (Nat.le_of_ble_eq_true rfl) rfl (fun ls hl => ?_)
  refine lv_aload_n hx hb dL_law_1207 rfl (lv_at hl 5 rfl) ?_
  refine sw_ki (rest := []) (sw_runV (As := []) (rest := []) hx hb hml hown hts (kX7_thrown l g o4 d5 M8 _ h) cv_X7_thrown q_966 rfl rfl ⟨(Nat.le_of_ble_eq_true rfl), (Nat.le_of_ble_eq_true rfl)⟩ hW (Nat.le_of_ble_eq_true rfl) sl_33 rfl rfl hl.1 rfl (Nat.le_of_ble_eq_true rfl) dL_law_1208 ⟨by show _ ≤ 603072; omega, by show _ ≤ 7211114; omega⟩) hW (fun r9 M15 H locs h hW => ?_)
  obtain ⟨h, eM15⟩ := h
  rw [eM15] at hW
  refine lv_iload hx hb dL_law_1211 (lv_at hl 1 rfl) ?_
  refine lv_icmp_eq (tgt := 1218) hx hb dL_law_1213 (by decide) (fun k10 => ?_) (fun k10 => ?_)
  · have h := h.1 k10
    refine lv_iload hx hb dL_law_1218 (lv_at hl 1 rfl) ?_
    refine lv_if_ne (tgt := 1242) hx hb dL_law_1220 (by decide) (fun k11 => ?_) (fun k11 => ?_)
    · have h := h.2 k11
      refine lv_goto (tgt := 2873) hx hb dL_law_1242 (by decide) ?_
      exact nx M8 o4 d5 _ _ _ _ _ (by omega) (by omega) (lv_sub hl [2, 3, 4, 5, 6, 7] rfl) hW h
    · have h := h.1 k11
      refine lv_aload_n hx hb dL_law_1223 rfl (lv_at hl 6 rfl) ?_
      refine lv_iconst (v := 0) hx hb dL_law_1224 (by decide) ?_
      refine sw_ll hx hb hW (vp_in_iff.mpr (by decide)) dL_law_1225 ?_
      refine lv_iload hx hb dL_law_1226 (lv_at hl 0 rfl) ?_
      refine lv_if_eq (tgt := 1235) hx hb dL_law_1228 (by decide) (fun k12 => ?_) (fun k12 => ?_)
      · have h := h.1 k12
        refine lv_lconst (v := 0) hx hb dL_law_1235 (by decide) ?_
        refine W.lcmp hx hb dL_law_1236 ?_
        refine lv_if_eq (tgt := 1242) hx hb dL_law_1237 (by decide) (fun k13 => ?_) (fun k13 => ?_)
        · have h := h.1 k13
          refine lv_goto (tgt := 2873) hx hb dL_law_1242 (by decide) ?_
          exact nx M8 o4 d5 _ _ _ _ _ (by omega) (by omega) (lv_sub hl [2, 3, 4, 5, 6, 7] rfl) hW h
        · have h := h.2 k13
          refine lv_iconst (v := 0) hx hb dL_law_1240 (by decide) ?_
          exact h.elim
      · have h := h.2 k12
        refine lv_lconst (v := 1) hx hb dL_law_1231 (by decide) ?_
        refine lv_goto (tgt := 1236) hx hb dL_law_1232 (by decide) ?_
        refine W.lcmp hx hb dL_law_1236 ?_
        refine lv_if_eq (tgt := 1242) hx hb dL_law_1237 (by decide) (fun k14 => ?_) (fun k14 => ?_)
        · have h := h.1 k14
          refine lv_goto (tgt := 2873) hx hb dL_law_1242 (by decide) ?_
          exact nx M8 o4 d5 _ _ _ _ _ (by omega) (by omega) (lv_sub hl [2, 3, 4, 5, 6, 7] rfl) hW h
        · have h := h.2 k14
          refine lv_iconst (v := 0) hx hb dL_law_1240 (by decide) ?_
          exact h.elim
  · have h := h.2 k10
    refine lv_iconst (v := 0) hx hb dL_law_1216 (by decide) ?_
    exact h.elim
def wcase_17 (L : Nat) (xs : Nat → Int32) (i : Int32) (M : sM) (o : sO) (d : sE) (N : sM → sO → sE → Prop) : Prop :=
  vp_in (i + (1 : Int32)) L ∧ (wL_wasGranted (xs ((i + (1 : Int32))).toNatClampNeg) M o d (fun r2 M3 o4 d5 => vp_in (i + (1 : Int32)) L ∧ (wX7_wasGranted (xs ((i + (1 : Int32))).toNatClampNeg) M3 (fun r7 M8 => wX7_thrown M8 (fun r9 => (r9 = r2 → ((r2 = 0 → ((r7 = 0 → (((lg_cmp (o4 ((0 : Int32)).toNatClampNeg) (0 : Int64)) = 0 → (N M8 o4 d5)) ∧ (¬ (lg_cmp (o4 ((0 : Int32)).toNatClampNeg) (0 : Int64)) = 0 → (False)))) ∧ (¬ r7 = 0 → (((lg_cmp (o4 ((0 : Int32)).toNatClampNeg) (1 : Int64)) = 0 → (N M8 o4 d5)) ∧ (¬ (lg_cmp (o4 ((0 : Int32)).toNatClampNeg) (1 : Int64)) = 0 → (False)))))) ∧ (¬ r2 = 0 → (N M8 o4 d5)))) ∧ (¬ r9 = r2 → (False)))))))
set_option maxRecDepth 20000 in
theorem kcase_17 {p : Program} {l : Launch} {e : Env} {s : State} {m : MethodId} {below : List Frame} {meth : Method} {c : Code} {H : Heap} {locs : List Loc} {cells slots : Nat} {Q : State → Prop} {ls : Array Slot} {g : sG} {b L : Nat} {xs : Nat → Int32} (Z : zLw p l s m meth c b L xs g) {i : Int32} {M : sM} {o : sO} {d : sE} {N : sM → sO → sE → Prop} (hl : lv_has ls 9 (zLs g b i)) (hW : sw_Wd g o d M s H locs) (hc : cells + 8 ≤ 603072) (hs : slots + 48 ≤ 7211114) (h : wcase_17 L xs i M o d N)
    (nx : ∀ (M : sM) (o : sO) (d : sE) (H : Heap) (locs : List Loc) (ls : Array Slot) (cells' slots' : Nat), cells' ≤ cells + 8 → slots' ≤ slots + 48 → lv_has ls 9 (zLs g b i) → sw_Wd g o d M s H locs → N M o d → W p l e room_1 s m #[Value.ref b] below meth c H locs cells' slots' Q (F0 m 2873 ls [])) : W p l e room_1 s m #[Value.ref b] below meth c H locs cells slots Q (F0 m 1245 ls []) := by
  obtain ⟨hx, hb, hml, hown, hts, hX, hbl, hbA, hst⟩ := Z
  unfold wcase_17 at h
  refine lv_aload_n hx hb dL_law_1245 rfl (lv_at hl 2 rfl) ?_
  refine lv_aload_n hx hb dL_law_1246 rfl (lv_at hl 1 rfl) ?_
  refine lv_iload hx hb dL_law_1247 (lv_at hl 0 rfl) ?_
  refine lv_iconst (v := 1) hx hb dL_law_1249 (by decide) ?_
  refine lv_iadd hx hb dL_law_1250 ?_
  have b1 := h.1
  have h := h.2
  refine va_sld hx hb hX hbl hbA hW.2.1 b1 dL_law_1251 ?_
  refine lv_aload_n hx hb dL_law_1252 rfl (lv_at hl 4 rfl) ?_
  refine sw_k3 (rest := []) (sw_runH (As := [.ref (sw_ad g 0), .int (xs ((i + (1 : Int32))).toNatClampNeg), .ref (sw_ad g 233)]) (rest := []) hx hb hml hown hts (kL_wasGranted l hst g (xs ((i + (1 : Int32))).toNatClampNeg) M o d _ h) ch_L_wasGranted q_615 rfl rfl ⟨(Nat.le_of_ble_eq_true rfl), (Nat.le_of_ble_eq_true rfl)⟩ hW rfl hl.1 rfl (Nat.le_of_ble_eq_true rfl) dL_law_1253 ⟨by show _ ≤ 603072; omega, by show _ ≤ 7211114; omega⟩) hW (fun r2 M3 o4 d5 H locs h hW => ?_)
  refine lv_istore (lv' := [(6, .int r2), (5, .int i), (0, .ref b), (1, .ref (sw_ad g 0)), (2, .ref (sw_ad g 33)), (3, .ref (sw_ad g 233)), (4, .ref (sw_ad g 234))]) hx hb dL_law_1256 hl (Nat.le_of_ble_eq_true rfl) rfl (fun ls hl => ?_)
  refine lv_aload_n hx hb dL_law_1258 rfl (lv_at hl 4 rfl) ?_
  refine lv_aload_n hx hb dL_law_1259 rfl (lv_at hl 2 rfl) ?_
  refine lv_iload hx hb dL_law_1260 (lv_at hl 1 rfl) ?_
  refine lv_iconst (v := 1) hx hb dL_law_1262 (by decide) ?_
  refine lv_iadd hx hb dL_law_1263 ?_
  have b6 := h.1
  have h := h.2
  refine va_sld hx hb hX hbl hbA hW.2.1 b6 dL_law_1264 ?_
  refine sw_ki (rest := []) (sw_runV (As := [.int (xs ((i + (1 : Int32))).toNatClampNeg)]) (rest := []) hx hb hml hown hts (kX7_wasGranted l g o4 d5 (xs ((i + (1 : Int32))).toNatClampNeg) M3 _ h) cv_X7_wasGranted q_1166 rfl rfl ⟨(Nat.le_of_ble_eq_true rfl), (Nat.le_of_ble_eq_true rfl)⟩ hW (Nat.le_of_ble_eq_true rfl) sl_33 rfl rfl hl.1 rfl (Nat.le_of_ble_eq_true rfl) dL_law_1265 ⟨by show _ ≤ 603072; omega, by show _ ≤ 7211114; omega⟩) hW (fun r7 M8 H locs h hW => ?_)
  refine lv_istore (lv' := [(7, .int r7), (6, .int r2), (5, .int i), (0, .ref b), (1, .ref (sw_ad g 0)), (2, .ref (sw_ad g 33)), (3, .ref (sw_ad g 233)), (4, .ref (sw_ad g 234))]) hx hb dL_law_1268 hl (Nat.le_of_ble_eq_true rfl) rfl (fun ls hl => ?_)
  refine lv_aload_n hx hb dL_law_1270 rfl (lv_at hl 5 rfl) ?_
  refine sw_ki (rest := []) (sw_runV (As := []) (rest := []) hx hb hml hown hts (kX7_thrown l g o4 d5 M8 _ h) cv_X7_thrown q_966 rfl rfl ⟨(Nat.le_of_ble_eq_true rfl), (Nat.le_of_ble_eq_true rfl)⟩ hW (Nat.le_of_ble_eq_true rfl) sl_33 rfl rfl hl.1 rfl (Nat.le_of_ble_eq_true rfl) dL_law_1271 ⟨by show _ ≤ 603072; omega, by show _ ≤ 7211114; omega⟩) hW (fun r9 M15 H locs h hW => ?_)
  obtain ⟨h, eM15⟩ := h
  rw [eM15] at hW
  refine lv_iload hx hb dL_law_1274 (lv_at hl 1 rfl) ?_
  refine lv_icmp_eq (tgt := 1281) hx hb dL_law_1276 (by decide) (fun k10 => ?_) (fun k10 => ?_)
  · have h := h.1 k10
    refine lv_iload hx hb dL_law_1281 (lv_at hl 1 rfl) ?_
    refine lv_if_ne (tgt := 1305) hx hb dL_law_1283 (by decide) (fun k11 => ?_) (fun k11 => ?_)
    · have h := h.2 k11
      refine lv_goto (tgt := 2873) hx hb dL_law_1305 (by decide) ?_
      exact nx M8 o4 d5 _ _ _ _ _ (by omega) (by omega) (lv_sub hl [2, 3, 4, 5, 6, 7] rfl) hW h
    · have h := h.1 k11
      refine lv_aload_n hx hb dL_law_1286 rfl (lv_at hl 6 rfl) ?_
      refine lv_iconst (v := 0) hx hb dL_law_1287 (by decide) ?_
      refine sw_ll hx hb hW (vp_in_iff.mpr (by decide)) dL_law_1288 ?_
      refine lv_iload hx hb dL_law_1289 (lv_at hl 0 rfl) ?_
      refine lv_if_eq (tgt := 1298) hx hb dL_law_1291 (by decide) (fun k12 => ?_) (fun k12 => ?_)
      · have h := h.1 k12
        refine lv_lconst (v := 0) hx hb dL_law_1298 (by decide) ?_
        refine W.lcmp hx hb dL_law_1299 ?_
        refine lv_if_eq (tgt := 1305) hx hb dL_law_1300 (by decide) (fun k13 => ?_) (fun k13 => ?_)
        · have h := h.1 k13
          refine lv_goto (tgt := 2873) hx hb dL_law_1305 (by decide) ?_
          exact nx M8 o4 d5 _ _ _ _ _ (by omega) (by omega) (lv_sub hl [2, 3, 4, 5, 6, 7] rfl) hW h
        · have h := h.2 k13
          refine lv_iconst (v := 0) hx hb dL_law_1303 (by decide) ?_
          exact h.elim
      · have h := h.2 k12
        refine lv_lconst (v := 1) hx hb dL_law_1294 (by decide) ?_
        refine lv_goto (tgt := 1299) hx hb dL_law_1295 (by decide) ?_
        refine W.lcmp hx hb dL_law_1299 ?_
        refine lv_if_eq (tgt := 1305) hx hb dL_law_1300 (by decide) (fun k14 => ?_) (fun k14 => ?_)
        · have h := h.1 k14
          refine lv_goto (tgt := 2873) hx hb dL_law_1305 (by decide) ?_
          exact nx M8 o4 d5 _ _ _ _ _ (by omega) (by omega) (lv_sub hl [2, 3, 4, 5, 6, 7] rfl) hW h
        · have h := h.2 k14
          refine lv_iconst (v := 0) hx hb dL_law_1303 (by decide) ?_
          exact h.elim
  · have h := h.2 k10
    refine lv_iconst (v := 0) hx hb dL_law_1279 (by decide) ?_
    exact h.elim
def wcase_18 (L : Nat) (xs : Nat → Int32) (i : Int32) (M : sM) (o : sO) (d : sE) (N : sM → sO → sE → Prop) : Prop :=
  vp_in (i + (1 : Int32)) L ∧ (wL_isEntitled (xs ((i + (1 : Int32))).toNatClampNeg) M o d (fun r2 M3 o4 d5 => vp_in (i + (1 : Int32)) L ∧ (wX7_isEntitled (xs ((i + (1 : Int32))).toNatClampNeg) M3 (fun r7 M8 => wX7_thrown M8 (fun r9 => (r9 = r2 → ((r2 = 0 → ((r7 = 0 → (((lg_cmp (o4 ((0 : Int32)).toNatClampNeg) (0 : Int64)) = 0 → (N M8 o4 d5)) ∧ (¬ (lg_cmp (o4 ((0 : Int32)).toNatClampNeg) (0 : Int64)) = 0 → (False)))) ∧ (¬ r7 = 0 → (((lg_cmp (o4 ((0 : Int32)).toNatClampNeg) (1 : Int64)) = 0 → (N M8 o4 d5)) ∧ (¬ (lg_cmp (o4 ((0 : Int32)).toNatClampNeg) (1 : Int64)) = 0 → (False)))))) ∧ (¬ r2 = 0 → (N M8 o4 d5)))) ∧ (¬ r9 = r2 → (False)))))))
set_option maxRecDepth 20000 in
theorem kcase_18 {p : Program} {l : Launch} {e : Env} {s : State} {m : MethodId} {below : List Frame} {meth : Method} {c : Code} {H : Heap} {locs : List Loc} {cells slots : Nat} {Q : State → Prop} {ls : Array Slot} {g : sG} {b L : Nat} {xs : Nat → Int32} (Z : zLw p l s m meth c b L xs g) {i : Int32} {M : sM} {o : sO} {d : sE} {N : sM → sO → sE → Prop} (hl : lv_has ls 9 (zLs g b i)) (hW : sw_Wd g o d M s H locs) (hc : cells + 8 ≤ 603072) (hs : slots + 48 ≤ 7211114) (h : wcase_18 L xs i M o d N)
    (nx : ∀ (M : sM) (o : sO) (d : sE) (H : Heap) (locs : List Loc) (ls : Array Slot) (cells' slots' : Nat), cells' ≤ cells + 8 → slots' ≤ slots + 48 → lv_has ls 9 (zLs g b i) → sw_Wd g o d M s H locs → N M o d → W p l e room_1 s m #[Value.ref b] below meth c H locs cells' slots' Q (F0 m 2873 ls [])) : W p l e room_1 s m #[Value.ref b] below meth c H locs cells slots Q (F0 m 1308 ls []) := by
  obtain ⟨hx, hb, hml, hown, hts, hX, hbl, hbA, hst⟩ := Z
  unfold wcase_18 at h
  refine lv_aload_n hx hb dL_law_1308 rfl (lv_at hl 2 rfl) ?_
  refine lv_aload_n hx hb dL_law_1309 rfl (lv_at hl 1 rfl) ?_
  refine lv_iload hx hb dL_law_1310 (lv_at hl 0 rfl) ?_
  refine lv_iconst (v := 1) hx hb dL_law_1312 (by decide) ?_
  refine lv_iadd hx hb dL_law_1313 ?_
  have b1 := h.1
  have h := h.2
  refine va_sld hx hb hX hbl hbA hW.2.1 b1 dL_law_1314 ?_
  refine lv_aload_n hx hb dL_law_1315 rfl (lv_at hl 4 rfl) ?_
  refine sw_k3 (rest := []) (sw_runH (As := [.ref (sw_ad g 0), .int (xs ((i + (1 : Int32))).toNatClampNeg), .ref (sw_ad g 233)]) (rest := []) hx hb hml hown hts (kL_isEntitled l hst g (xs ((i + (1 : Int32))).toNatClampNeg) M o d _ h) ch_L_isEntitled q_622 rfl rfl ⟨(Nat.le_of_ble_eq_true rfl), (Nat.le_of_ble_eq_true rfl)⟩ hW rfl hl.1 rfl (Nat.le_of_ble_eq_true rfl) dL_law_1316 ⟨by show _ ≤ 603072; omega, by show _ ≤ 7211114; omega⟩) hW (fun r2 M3 o4 d5 H locs h hW => ?_)
  refine lv_istore (lv' := [(6, .int r2), (5, .int i), (0, .ref b), (1, .ref (sw_ad g 0)), (2, .ref (sw_ad g 33)), (3, .ref (sw_ad g 233)), (4, .ref (sw_ad g 234))]) hx hb dL_law_1319 hl (Nat.le_of_ble_eq_true rfl) rfl (fun ls hl => ?_)
  refine lv_aload_n hx hb dL_law_1321 rfl (lv_at hl 4 rfl) ?_
  refine lv_aload_n hx hb dL_law_1322 rfl (lv_at hl 2 rfl) ?_
  refine lv_iload hx hb dL_law_1323 (lv_at hl 1 rfl) ?_
  refine lv_iconst (v := 1) hx hb dL_law_1325 (by decide) ?_
  refine lv_iadd hx hb dL_law_1326 ?_
  have b6 := h.1
  have h := h.2
  refine va_sld hx hb hX hbl hbA hW.2.1 b6 dL_law_1327 ?_
  refine sw_ki (rest := []) (sw_runV (As := [.int (xs ((i + (1 : Int32))).toNatClampNeg)]) (rest := []) hx hb hml hown hts (kX7_isEntitled l g o4 d5 (xs ((i + (1 : Int32))).toNatClampNeg) M3 _ h) cv_X7_isEntitled q_1170 rfl rfl ⟨(Nat.le_of_ble_eq_true rfl), (Nat.le_of_ble_eq_true rfl)⟩ hW (Nat.le_of_ble_eq_true rfl) sl_33 rfl rfl hl.1 rfl (Nat.le_of_ble_eq_true rfl) dL_law_1328 ⟨by show _ ≤ 603072; omega, by show _ ≤ 7211114; omega⟩) hW (fun r7 M8 H locs h hW => ?_)
  refine lv_istore (lv' := [(7, .int r7), (6, .int r2), (5, .int i), (0, .ref b), (1, .ref (sw_ad g 0)), (2, .ref (sw_ad g 33)), (3, .ref (sw_ad g 233)), (4, .ref (sw_ad g 234))]) hx hb dL_law_1331 hl (Nat.le_of_ble_eq_true rfl) rfl (fun ls hl => ?_)
  refine lv_aload_n hx hb dL_law_1333 rfl (lv_at hl 5 rfl) ?_
  refine sw_ki (rest := []) (sw_runV (As := []) (rest := []) hx hb hml hown hts (kX7_thrown l g o4 d5 M8 _ h) cv_X7_thrown q_966 rfl rfl ⟨(Nat.le_of_ble_eq_true rfl), (Nat.le_of_ble_eq_true rfl)⟩ hW (Nat.le_of_ble_eq_true rfl) sl_33 rfl rfl hl.1 rfl (Nat.le_of_ble_eq_true rfl) dL_law_1334 ⟨by show _ ≤ 603072; omega, by show _ ≤ 7211114; omega⟩) hW (fun r9 M15 H locs h hW => ?_)
  obtain ⟨h, eM15⟩ := h
  rw [eM15] at hW
  refine lv_iload hx hb dL_law_1337 (lv_at hl 1 rfl) ?_
  refine lv_icmp_eq (tgt := 1344) hx hb dL_law_1339 (by decide) (fun k10 => ?_) (fun k10 => ?_)
  · have h := h.1 k10
    refine lv_iload hx hb dL_law_1344 (lv_at hl 1 rfl) ?_
    refine lv_if_ne (tgt := 1368) hx hb dL_law_1346 (by decide) (fun k11 => ?_) (fun k11 => ?_)
    · have h := h.2 k11
      refine lv_goto (tgt := 2873) hx hb dL_law_1368 (by decide) ?_
      exact nx M8 o4 d5 _ _ _ _ _ (by omega) (by omega) (lv_sub hl [2, 3, 4, 5, 6, 7] rfl) hW h
    · have h := h.1 k11
      refine lv_aload_n hx hb dL_law_1349 rfl (lv_at hl 6 rfl) ?_
      refine lv_iconst (v := 0) hx hb dL_law_1350 (by decide) ?_
      refine sw_ll hx hb hW (vp_in_iff.mpr (by decide)) dL_law_1351 ?_
      refine lv_iload hx hb dL_law_1352 (lv_at hl 0 rfl) ?_
      refine lv_if_eq (tgt := 1361) hx hb dL_law_1354 (by decide) (fun k12 => ?_) (fun k12 => ?_)
      · have h := h.1 k12
        refine lv_lconst (v := 0) hx hb dL_law_1361 (by decide) ?_
        refine W.lcmp hx hb dL_law_1362 ?_
        refine lv_if_eq (tgt := 1368) hx hb dL_law_1363 (by decide) (fun k13 => ?_) (fun k13 => ?_)
        · have h := h.1 k13
          refine lv_goto (tgt := 2873) hx hb dL_law_1368 (by decide) ?_
          exact nx M8 o4 d5 _ _ _ _ _ (by omega) (by omega) (lv_sub hl [2, 3, 4, 5, 6, 7] rfl) hW h
        · have h := h.2 k13
          refine lv_iconst (v := 0) hx hb dL_law_1366 (by decide) ?_
          exact h.elim
      · have h := h.2 k12
        refine lv_lconst (v := 1) hx hb dL_law_1357 (by decide) ?_
        refine lv_goto (tgt := 1362) hx hb dL_law_1358 (by decide) ?_
        refine W.lcmp hx hb dL_law_1362 ?_
        refine lv_if_eq (tgt := 1368) hx hb dL_law_1363 (by decide) (fun k14 => ?_) (fun k14 => ?_)
        · have h := h.1 k14
          refine lv_goto (tgt := 2873) hx hb dL_law_1368 (by decide) ?_
          exact nx M8 o4 d5 _ _ _ _ _ (by omega) (by omega) (lv_sub hl [2, 3, 4, 5, 6, 7] rfl) hW h
        · have h := h.2 k14
          refine lv_iconst (v := 0) hx hb dL_law_1366 (by decide) ?_
          exact h.elim
  · have h := h.2 k10
    refine lv_iconst (v := 0) hx hb dL_law_1342 (by decide) ?_
    exact h.elim
def wcase_19 (L : Nat) (xs : Nat → Int32) (i : Int32) (M : sM) (o : sO) (d : sE) (N : sM → sO → sE → Prop) : Prop :=
  vp_in (i + (1 : Int32)) L ∧ (wL_doorAtRank (xs ((i + (1 : Int32))).toNatClampNeg) M o d (fun r2 M3 o4 d5 => vp_in (i + (1 : Int32)) L ∧ (wX7_doorAtRank (xs ((i + (1 : Int32))).toNatClampNeg) M3 (fun r7 M8 => wX7_thrown M8 (fun r9 => (r9 = r2 → ((r2 = 0 → (((lg_cmp (o4 ((0 : Int32)).toNatClampNeg) (r7).toInt64) = 0 → (N M8 o4 d5)) ∧ (¬ (lg_cmp (o4 ((0 : Int32)).toNatClampNeg) (r7).toInt64) = 0 → (False)))) ∧ (¬ r2 = 0 → (N M8 o4 d5)))) ∧ (¬ r9 = r2 → (False)))))))
set_option maxRecDepth 20000 in
theorem kcase_19 {p : Program} {l : Launch} {e : Env} {s : State} {m : MethodId} {below : List Frame} {meth : Method} {c : Code} {H : Heap} {locs : List Loc} {cells slots : Nat} {Q : State → Prop} {ls : Array Slot} {g : sG} {b L : Nat} {xs : Nat → Int32} (Z : zLw p l s m meth c b L xs g) {i : Int32} {M : sM} {o : sO} {d : sE} {N : sM → sO → sE → Prop} (hl : lv_has ls 9 (zLs g b i)) (hW : sw_Wd g o d M s H locs) (hc : cells + 8 ≤ 603072) (hs : slots + 48 ≤ 7211114) (h : wcase_19 L xs i M o d N)
    (nx : ∀ (M : sM) (o : sO) (d : sE) (H : Heap) (locs : List Loc) (ls : Array Slot) (cells' slots' : Nat), cells' ≤ cells + 8 → slots' ≤ slots + 48 → lv_has ls 9 (zLs g b i) → sw_Wd g o d M s H locs → N M o d → W p l e room_1 s m #[Value.ref b] below meth c H locs cells' slots' Q (F0 m 2873 ls [])) : W p l e room_1 s m #[Value.ref b] below meth c H locs cells slots Q (F0 m 1371 ls []) := by
  obtain ⟨hx, hb, hml, hown, hts, hX, hbl, hbA, hst⟩ := Z
  unfold wcase_19 at h
  refine lv_aload_n hx hb dL_law_1371 rfl (lv_at hl 2 rfl) ?_
  refine lv_aload_n hx hb dL_law_1372 rfl (lv_at hl 1 rfl) ?_
  refine lv_iload hx hb dL_law_1373 (lv_at hl 0 rfl) ?_
  refine lv_iconst (v := 1) hx hb dL_law_1375 (by decide) ?_
  refine lv_iadd hx hb dL_law_1376 ?_
  have b1 := h.1
  have h := h.2
  refine va_sld hx hb hX hbl hbA hW.2.1 b1 dL_law_1377 ?_
  refine lv_aload_n hx hb dL_law_1378 rfl (lv_at hl 4 rfl) ?_
  refine sw_k3 (rest := []) (sw_runH (As := [.ref (sw_ad g 0), .int (xs ((i + (1 : Int32))).toNatClampNeg), .ref (sw_ad g 233)]) (rest := []) hx hb hml hown hts (kL_doorAtRank l hst g (xs ((i + (1 : Int32))).toNatClampNeg) M o d _ h) ch_L_doorAtRank q_629 rfl rfl ⟨(Nat.le_of_ble_eq_true rfl), (Nat.le_of_ble_eq_true rfl)⟩ hW rfl hl.1 rfl (Nat.le_of_ble_eq_true rfl) dL_law_1379 ⟨by show _ ≤ 603072; omega, by show _ ≤ 7211114; omega⟩) hW (fun r2 M3 o4 d5 H locs h hW => ?_)
  refine lv_istore (lv' := [(6, .int r2), (5, .int i), (0, .ref b), (1, .ref (sw_ad g 0)), (2, .ref (sw_ad g 33)), (3, .ref (sw_ad g 233)), (4, .ref (sw_ad g 234))]) hx hb dL_law_1382 hl (Nat.le_of_ble_eq_true rfl) rfl (fun ls hl => ?_)
  refine lv_aload_n hx hb dL_law_1384 rfl (lv_at hl 4 rfl) ?_
  refine lv_aload_n hx hb dL_law_1385 rfl (lv_at hl 2 rfl) ?_
  refine lv_iload hx hb dL_law_1386 (lv_at hl 1 rfl) ?_
  refine lv_iconst (v := 1) hx hb dL_law_1388 (by decide) ?_
  refine lv_iadd hx hb dL_law_1389 ?_
  have b6 := h.1
  have h := h.2
  refine va_sld hx hb hX hbl hbA hW.2.1 b6 dL_law_1390 ?_
  refine sw_ki (rest := []) (sw_runV (As := [.int (xs ((i + (1 : Int32))).toNatClampNeg)]) (rest := []) hx hb hml hown hts (kX7_doorAtRank l g o4 d5 (xs ((i + (1 : Int32))).toNatClampNeg) M3 _ h) cv_X7_doorAtRank q_1174 rfl rfl ⟨(Nat.le_of_ble_eq_true rfl), (Nat.le_of_ble_eq_true rfl)⟩ hW (Nat.le_of_ble_eq_true rfl) sl_33 rfl rfl hl.1 rfl (Nat.le_of_ble_eq_true rfl) dL_law_1391 ⟨by show _ ≤ 603072; omega, by show _ ≤ 7211114; omega⟩) hW (fun r7 M8 H locs h hW => ?_)
  refine lv_istore (lv' := [(7, .int r7), (6, .int r2), (5, .int i), (0, .ref b), (1, .ref (sw_ad g 0)), (2, .ref (sw_ad g 33)), (3, .ref (sw_ad g 233)), (4, .ref (sw_ad g 234))]) hx hb dL_law_1394 hl (Nat.le_of_ble_eq_true rfl) rfl (fun ls hl => ?_)
  refine lv_aload_n hx hb dL_law_1396 rfl (lv_at hl 5 rfl) ?_
  refine sw_ki (rest := []) (sw_runV (As := []) (rest := []) hx hb hml hown hts (kX7_thrown l g o4 d5 M8 _ h) cv_X7_thrown q_966 rfl rfl ⟨(Nat.le_of_ble_eq_true rfl), (Nat.le_of_ble_eq_true rfl)⟩ hW (Nat.le_of_ble_eq_true rfl) sl_33 rfl rfl hl.1 rfl (Nat.le_of_ble_eq_true rfl) dL_law_1397 ⟨by show _ ≤ 603072; omega, by show _ ≤ 7211114; omega⟩) hW (fun r9 M13 H locs h hW => ?_)
  obtain ⟨h, eM13⟩ := h
  rw [eM13] at hW
  refine lv_iload hx hb dL_law_1400 (lv_at hl 1 rfl) ?_
  refine lv_icmp_eq (tgt := 1407) hx hb dL_law_1402 (by decide) (fun k10 => ?_) (fun k10 => ?_)
  · have h := h.1 k10
    refine lv_iload hx hb dL_law_1407 (lv_at hl 1 rfl) ?_
    refine lv_if_ne (tgt := 1424) hx hb dL_law_1409 (by decide) (fun k11 => ?_) (fun k11 => ?_)
    · have h := h.2 k11
      refine lv_goto (tgt := 2873) hx hb dL_law_1424 (by decide) ?_
      exact nx M8 o4 d5 _ _ _ _ _ (by omega) (by omega) (lv_sub hl [2, 3, 4, 5, 6, 7] rfl) hW h
    · have h := h.1 k11
      refine lv_aload_n hx hb dL_law_1412 rfl (lv_at hl 6 rfl) ?_
      refine lv_iconst (v := 0) hx hb dL_law_1413 (by decide) ?_
      refine sw_ll hx hb hW (vp_in_iff.mpr (by decide)) dL_law_1414 ?_
      refine lv_iload hx hb dL_law_1415 (lv_at hl 0 rfl) ?_
      refine lv_i2l hx hb dL_law_1417 rfl ?_
      refine W.lcmp hx hb dL_law_1418 ?_
      refine lv_if_eq (tgt := 1424) hx hb dL_law_1419 (by decide) (fun k12 => ?_) (fun k12 => ?_)
      · have h := h.1 k12
        refine lv_goto (tgt := 2873) hx hb dL_law_1424 (by decide) ?_
        exact nx M8 o4 d5 _ _ _ _ _ (by omega) (by omega) (lv_sub hl [2, 3, 4, 5, 6, 7] rfl) hW h
      · have h := h.2 k12
        refine lv_iconst (v := 0) hx hb dL_law_1422 (by decide) ?_
        exact h.elim
  · have h := h.2 k10
    refine lv_iconst (v := 0) hx hb dL_law_1405 (by decide) ?_
    exact h.elim
def wcase_20 (L : Nat) (xs : Nat → Int32) (i : Int32) (M : sM) (o : sO) (d : sE) (N : sM → sO → sE → Prop) : Prop :=
  wX6_examinerCount M (fun r1 => wX7_examinerCount M (fun r2 M3 => (r1 = r2 → (N M3 o d)) ∧ (¬ r1 = r2 → (False))))
set_option maxRecDepth 20000 in
theorem kcase_20 {p : Program} {l : Launch} {e : Env} {s : State} {m : MethodId} {below : List Frame} {meth : Method} {c : Code} {H : Heap} {locs : List Loc} {cells slots : Nat} {Q : State → Prop} {ls : Array Slot} {g : sG} {b L : Nat} {xs : Nat → Int32} (Z : zLw p l s m meth c b L xs g) {i : Int32} {M : sM} {o : sO} {d : sE} {N : sM → sO → sE → Prop} (hl : lv_has ls 9 (zLs g b i)) (hW : sw_Wd g o d M s H locs) (hc : cells + 8 ≤ 603072) (hs : slots + 48 ≤ 7211114) (h : wcase_20 L xs i M o d N)
    (nx : ∀ (M : sM) (o : sO) (d : sE) (H : Heap) (locs : List Loc) (ls : Array Slot) (cells' slots' : Nat), cells' ≤ cells + 8 → slots' ≤ slots + 48 → lv_has ls 9 (zLs g b i) → sw_Wd g o d M s H locs → N M o d → W p l e room_1 s m #[Value.ref b] below meth c H locs cells' slots' Q (F0 m 2873 ls [])) : W p l e room_1 s m #[Value.ref b] below meth c H locs cells slots Q (F0 m 1427 ls []) := by
  obtain ⟨hx, hb, hml, hown, hts, hX, hbl, hbA, hst⟩ := Z
  unfold wcase_20 at h
  refine lv_aload_n hx hb dL_law_1427 rfl (lv_at hl 2 rfl) ?_
  refine sw_ki (rest := []) (sw_runV (As := []) (rest := []) hx hb hml hown hts (kX6_examinerCount l g o d M _ h) cv_X6_examinerCount q_312 rfl rfl ⟨(Nat.le_of_ble_eq_true rfl), (Nat.le_of_ble_eq_true rfl)⟩ hW (Nat.le_of_ble_eq_true rfl) sl_0 rfl rfl hl.1 rfl (Nat.le_of_ble_eq_true rfl) dL_law_1428 ⟨by show _ ≤ 603072; omega, by show _ ≤ 7211114; omega⟩) hW (fun r1 M5 H locs h hW => ?_)
  obtain ⟨h, eM5⟩ := h
  rw [eM5] at hW
  refine lv_aload_n hx hb dL_law_1431 rfl (lv_at hl 3 rfl) ?_
  refine sw_ki (rest := [.int r1]) (sw_runV (As := []) (rest := [.int r1]) hx hb hml hown hts (kX7_examinerCount l g o d M _ h) cv_X7_examinerCount q_1178 rfl rfl ⟨(Nat.le_of_ble_eq_true rfl), (Nat.le_of_ble_eq_true rfl)⟩ hW (Nat.le_of_ble_eq_true rfl) sl_33 rfl rfl hl.1 rfl (Nat.le_of_ble_eq_true rfl) dL_law_1432 ⟨by show _ ≤ 603072; omega, by show _ ≤ 7211114; omega⟩) hW (fun r2 M3 H locs h hW => ?_)
  refine lv_icmp_eq (tgt := 2873) hx hb dL_law_1435 (by decide) (fun k4 => ?_) (fun k4 => ?_)
  · have h := h.1 k4
    exact nx M3 o d _ _ _ _ _ (by omega) (by omega) (lv_sub hl [0, 1, 2, 3, 4, 5] rfl) hW h
  · have h := h.2 k4
    refine lv_iconst (v := 0) hx hb dL_law_1438 (by decide) ?_
    exact h.elim
def wcase_21 (L : Nat) (xs : Nat → Int32) (i : Int32) (M : sM) (o : sO) (d : sE) (N : sM → sO → sE → Prop) : Prop :=
  vp_in (i + (1 : Int32)) L ∧ (wL_frameOfExaminer (xs ((i + (1 : Int32))).toNatClampNeg) M o d (fun r2 M3 o4 d5 => vp_in (i + (1 : Int32)) L ∧ (wX7_frameOfExaminer (xs ((i + (1 : Int32))).toNatClampNeg) M3 (fun r7 M8 => wX7_thrown M8 (fun r9 => (r9 = r2 → ((r2 = 0 → (((lg_cmp (o4 ((0 : Int32)).toNatClampNeg) (r7).toInt64) = 0 → (N M8 o4 d5)) ∧ (¬ (lg_cmp (o4 ((0 : Int32)).toNatClampNeg) (r7).toInt64) = 0 → (False)))) ∧ (¬ r2 = 0 → (N M8 o4 d5)))) ∧ (¬ r9 = r2 → (False)))))))
set_option maxRecDepth 20000 in
theorem kcase_21 {p : Program} {l : Launch} {e : Env} {s : State} {m : MethodId} {below : List Frame} {meth : Method} {c : Code} {H : Heap} {locs : List Loc} {cells slots : Nat} {Q : State → Prop} {ls : Array Slot} {g : sG} {b L : Nat} {xs : Nat → Int32} (Z : zLw p l s m meth c b L xs g) {i : Int32} {M : sM} {o : sO} {d : sE} {N : sM → sO → sE → Prop} (hl : lv_has ls 9 (zLs g b i)) (hW : sw_Wd g o d M s H locs) (hc : cells + 8 ≤ 603072) (hs : slots + 48 ≤ 7211114) (h : wcase_21 L xs i M o d N)
    (nx : ∀ (M : sM) (o : sO) (d : sE) (H : Heap) (locs : List Loc) (ls : Array Slot) (cells' slots' : Nat), cells' ≤ cells + 8 → slots' ≤ slots + 48 → lv_has ls 9 (zLs g b i) → sw_Wd g o d M s H locs → N M o d → W p l e room_1 s m #[Value.ref b] below meth c H locs cells' slots' Q (F0 m 2873 ls [])) : W p l e room_1 s m #[Value.ref b] below meth c H locs cells slots Q (F0 m 1440 ls []) := by
  obtain ⟨hx, hb, hml, hown, hts, hX, hbl, hbA, hst⟩ := Z
  unfold wcase_21 at h
  refine lv_aload_n hx hb dL_law_1440 rfl (lv_at hl 2 rfl) ?_
  refine lv_aload_n hx hb dL_law_1441 rfl (lv_at hl 1 rfl) ?_
  refine lv_iload hx hb dL_law_1442 (lv_at hl 0 rfl) ?_
  refine lv_iconst (v := 1) hx hb dL_law_1444 (by decide) ?_
  refine lv_iadd hx hb dL_law_1445 ?_
  have b1 := h.1
  have h := h.2
  refine va_sld hx hb hX hbl hbA hW.2.1 b1 dL_law_1446 ?_
  refine lv_aload_n hx hb dL_law_1447 rfl (lv_at hl 4 rfl) ?_
  refine sw_k3 (rest := []) (sw_runH (As := [.ref (sw_ad g 0), .int (xs ((i + (1 : Int32))).toNatClampNeg), .ref (sw_ad g 233)]) (rest := []) hx hb hml hown hts (kL_frameOfExaminer l hst g (xs ((i + (1 : Int32))).toNatClampNeg) M o d _ h) ch_L_frameOfExaminer q_647 rfl rfl ⟨(Nat.le_of_ble_eq_true rfl), (Nat.le_of_ble_eq_true rfl)⟩ hW rfl hl.1 rfl (Nat.le_of_ble_eq_true rfl) dL_law_1448 ⟨by show _ ≤ 603072; omega, by show _ ≤ 7211114; omega⟩) hW (fun r2 M3 o4 d5 H locs h hW => ?_)
  refine lv_istore (lv' := [(6, .int r2), (5, .int i), (0, .ref b), (1, .ref (sw_ad g 0)), (2, .ref (sw_ad g 33)), (3, .ref (sw_ad g 233)), (4, .ref (sw_ad g 234))]) hx hb dL_law_1451 hl (Nat.le_of_ble_eq_true rfl) rfl (fun ls hl => ?_)
  refine lv_aload_n hx hb dL_law_1453 rfl (lv_at hl 4 rfl) ?_
  refine lv_aload_n hx hb dL_law_1454 rfl (lv_at hl 2 rfl) ?_
  refine lv_iload hx hb dL_law_1455 (lv_at hl 1 rfl) ?_
  refine lv_iconst (v := 1) hx hb dL_law_1457 (by decide) ?_
  refine lv_iadd hx hb dL_law_1458 ?_
  have b6 := h.1
  have h := h.2
  refine va_sld hx hb hX hbl hbA hW.2.1 b6 dL_law_1459 ?_
  refine sw_ki (rest := []) (sw_runV (As := [.int (xs ((i + (1 : Int32))).toNatClampNeg)]) (rest := []) hx hb hml hown hts (kX7_frameOfExaminer l g o4 d5 (xs ((i + (1 : Int32))).toNatClampNeg) M3 _ h) cv_X7_frameOfExaminer q_1182 rfl rfl ⟨(Nat.le_of_ble_eq_true rfl), (Nat.le_of_ble_eq_true rfl)⟩ hW (Nat.le_of_ble_eq_true rfl) sl_33 rfl rfl hl.1 rfl (Nat.le_of_ble_eq_true rfl) dL_law_1460 ⟨by show _ ≤ 603072; omega, by show _ ≤ 7211114; omega⟩) hW (fun r7 M8 H locs h hW => ?_)
  refine lv_istore (lv' := [(7, .int r7), (6, .int r2), (5, .int i), (0, .ref b), (1, .ref (sw_ad g 0)), (2, .ref (sw_ad g 33)), (3, .ref (sw_ad g 233)), (4, .ref (sw_ad g 234))]) hx hb dL_law_1463 hl (Nat.le_of_ble_eq_true rfl) rfl (fun ls hl => ?_)
  refine lv_aload_n hx hb dL_law_1465 rfl (lv_at hl 5 rfl) ?_
  refine sw_ki (rest := []) (sw_runV (As := []) (rest := []) hx hb hml hown hts (kX7_thrown l g o4 d5 M8 _ h) cv_X7_thrown q_966 rfl rfl ⟨(Nat.le_of_ble_eq_true rfl), (Nat.le_of_ble_eq_true rfl)⟩ hW (Nat.le_of_ble_eq_true rfl) sl_33 rfl rfl hl.1 rfl (Nat.le_of_ble_eq_true rfl) dL_law_1466 ⟨by show _ ≤ 603072; omega, by show _ ≤ 7211114; omega⟩) hW (fun r9 M13 H locs h hW => ?_)
  obtain ⟨h, eM13⟩ := h
  rw [eM13] at hW
  refine lv_iload hx hb dL_law_1469 (lv_at hl 1 rfl) ?_
  refine lv_icmp_eq (tgt := 1476) hx hb dL_law_1471 (by decide) (fun k10 => ?_) (fun k10 => ?_)
  · have h := h.1 k10
    refine lv_iload hx hb dL_law_1476 (lv_at hl 1 rfl) ?_
    refine lv_if_ne (tgt := 1493) hx hb dL_law_1478 (by decide) (fun k11 => ?_) (fun k11 => ?_)
    · have h := h.2 k11
      refine lv_goto (tgt := 2873) hx hb dL_law_1493 (by decide) ?_
      exact nx M8 o4 d5 _ _ _ _ _ (by omega) (by omega) (lv_sub hl [2, 3, 4, 5, 6, 7] rfl) hW h
    · have h := h.1 k11
      refine lv_aload_n hx hb dL_law_1481 rfl (lv_at hl 6 rfl) ?_
      refine lv_iconst (v := 0) hx hb dL_law_1482 (by decide) ?_
      refine sw_ll hx hb hW (vp_in_iff.mpr (by decide)) dL_law_1483 ?_
      refine lv_iload hx hb dL_law_1484 (lv_at hl 0 rfl) ?_
      refine lv_i2l hx hb dL_law_1486 rfl ?_
      refine W.lcmp hx hb dL_law_1487 ?_
      refine lv_if_eq (tgt := 1493) hx hb dL_law_1488 (by decide) (fun k12 => ?_) (fun k12 => ?_)
      · have h := h.1 k12
        refine lv_goto (tgt := 2873) hx hb dL_law_1493 (by decide) ?_
        exact nx M8 o4 d5 _ _ _ _ _ (by omega) (by omega) (lv_sub hl [2, 3, 4, 5, 6, 7] rfl) hW h
      · have h := h.2 k12
        refine lv_iconst (v := 0) hx hb dL_law_1491 (by decide) ?_
        exact h.elim
  · have h := h.2 k10
    refine lv_iconst (v := 0) hx hb dL_law_1474 (by decide) ?_
    exact h.elim
def wcase_22 (L : Nat) (xs : Nat → Int32) (i : Int32) (M : sM) (o : sO) (d : sE) (N : sM → sO → sE → Prop) : Prop :=
  vp_in (i + (1 : Int32)) L ∧ (wL_load (xs ((i + (1 : Int32))).toNatClampNeg) M o d (fun r2 M3 o4 d5 => vp_in (i + (1 : Int32)) L ∧ (wX7_load (xs ((i + (1 : Int32))).toNatClampNeg) M3 (fun r7 M8 => wX7_thrown M8 (fun r9 => (r9 = r2 → ((r2 = 0 → (((lg_cmp (o4 ((0 : Int32)).toNatClampNeg) (r7).toInt64) = 0 → (N M8 o4 d5)) ∧ (¬ (lg_cmp (o4 ((0 : Int32)).toNatClampNeg) (r7).toInt64) = 0 → (False)))) ∧ (¬ r2 = 0 → (N M8 o4 d5)))) ∧ (¬ r9 = r2 → (False)))))))
set_option maxRecDepth 20000 in
theorem kcase_22 {p : Program} {l : Launch} {e : Env} {s : State} {m : MethodId} {below : List Frame} {meth : Method} {c : Code} {H : Heap} {locs : List Loc} {cells slots : Nat} {Q : State → Prop} {ls : Array Slot} {g : sG} {b L : Nat} {xs : Nat → Int32} (Z : zLw p l s m meth c b L xs g) {i : Int32} {M : sM} {o : sO} {d : sE} {N : sM → sO → sE → Prop} (hl : lv_has ls 9 (zLs g b i)) (hW : sw_Wd g o d M s H locs) (hc : cells + 8 ≤ 603072) (hs : slots + 48 ≤ 7211114) (h : wcase_22 L xs i M o d N)
    (nx : ∀ (M : sM) (o : sO) (d : sE) (H : Heap) (locs : List Loc) (ls : Array Slot) (cells' slots' : Nat), cells' ≤ cells + 8 → slots' ≤ slots + 48 → lv_has ls 9 (zLs g b i) → sw_Wd g o d M s H locs → N M o d → W p l e room_1 s m #[Value.ref b] below meth c H locs cells' slots' Q (F0 m 2873 ls [])) : W p l e room_1 s m #[Value.ref b] below meth c H locs cells slots Q (F0 m 1496 ls []) := by
  obtain ⟨hx, hb, hml, hown, hts, hX, hbl, hbA, hst⟩ := Z
  unfold wcase_22 at h
  refine lv_aload_n hx hb dL_law_1496 rfl (lv_at hl 2 rfl) ?_
  refine lv_aload_n hx hb dL_law_1497 rfl (lv_at hl 1 rfl) ?_
  refine lv_iload hx hb dL_law_1498 (lv_at hl 0 rfl) ?_
  refine lv_iconst (v := 1) hx hb dL_law_1500 (by decide) ?_
  refine lv_iadd hx hb dL_law_1501 ?_
  have b1 := h.1
  have h := h.2
  refine va_sld hx hb hX hbl hbA hW.2.1 b1 dL_law_1502 ?_
  refine lv_aload_n hx hb dL_law_1503 rfl (lv_at hl 4 rfl) ?_
  refine sw_k3 (rest := []) (sw_runH (As := [.ref (sw_ad g 0), .int (xs ((i + (1 : Int32))).toNatClampNeg), .ref (sw_ad g 233)]) (rest := []) hx hb hml hown hts (kL_load l hst g (xs ((i + (1 : Int32))).toNatClampNeg) M o d _ h) ch_L_load q_657 rfl rfl ⟨(Nat.le_of_ble_eq_true rfl), (Nat.le_of_ble_eq_true rfl)⟩ hW rfl hl.1 rfl (Nat.le_of_ble_eq_true rfl) dL_law_1504 ⟨by show _ ≤ 603072; omega, by show _ ≤ 7211114; omega⟩) hW (fun r2 M3 o4 d5 H locs h hW => ?_)
  refine lv_istore (lv' := [(6, .int r2), (5, .int i), (0, .ref b), (1, .ref (sw_ad g 0)), (2, .ref (sw_ad g 33)), (3, .ref (sw_ad g 233)), (4, .ref (sw_ad g 234))]) hx hb dL_law_1507 hl (Nat.le_of_ble_eq_true rfl) rfl (fun ls hl => ?_)
  refine lv_aload_n hx hb dL_law_1509 rfl (lv_at hl 4 rfl) ?_
  refine lv_aload_n hx hb dL_law_1510 rfl (lv_at hl 2 rfl) ?_
  refine lv_iload hx hb dL_law_1511 (lv_at hl 1 rfl) ?_
  refine lv_iconst (v := 1) hx hb dL_law_1513 (by decide) ?_
  refine lv_iadd hx hb dL_law_1514 ?_
  have b6 := h.1
  have h := h.2
  refine va_sld hx hb hX hbl hbA hW.2.1 b6 dL_law_1515 ?_
  refine sw_ki (rest := []) (sw_runV (As := [.int (xs ((i + (1 : Int32))).toNatClampNeg)]) (rest := []) hx hb hml hown hts (kX7_load l g o4 d5 (xs ((i + (1 : Int32))).toNatClampNeg) M3 _ h) cv_X7_load q_1186 rfl rfl ⟨(Nat.le_of_ble_eq_true rfl), (Nat.le_of_ble_eq_true rfl)⟩ hW (Nat.le_of_ble_eq_true rfl) sl_33 rfl rfl hl.1 rfl (Nat.le_of_ble_eq_true rfl) dL_law_1516 ⟨by show _ ≤ 603072; omega, by show _ ≤ 7211114; omega⟩) hW (fun r7 M8 H locs h hW => ?_)
  refine lv_istore (lv' := [(7, .int r7), (6, .int r2), (5, .int i), (0, .ref b), (1, .ref (sw_ad g 0)), (2, .ref (sw_ad g 33)), (3, .ref (sw_ad g 233)), (4, .ref (sw_ad g 234))]) hx hb dL_law_1519 hl (Nat.le_of_ble_eq_true rfl) rfl (fun ls hl => ?_)
  refine lv_aload_n hx hb dL_law_1521 rfl (lv_at hl 5 rfl) ?_
  refine sw_ki (rest := []) (sw_runV (As := []) (rest := []) hx hb hml hown hts (kX7_thrown l g o4 d5 M8 _ h) cv_X7_thrown q_966 rfl rfl ⟨(Nat.le_of_ble_eq_true rfl), (Nat.le_of_ble_eq_true rfl)⟩ hW (Nat.le_of_ble_eq_true rfl) sl_33 rfl rfl hl.1 rfl (Nat.le_of_ble_eq_true rfl) dL_law_1522 ⟨by show _ ≤ 603072; omega, by show _ ≤ 7211114; omega⟩) hW (fun r9 M13 H locs h hW => ?_)
  obtain ⟨h, eM13⟩ := h
  rw [eM13] at hW
  refine lv_iload hx hb dL_law_1525 (lv_at hl 1 rfl) ?_
  refine lv_icmp_eq (tgt := 1532) hx hb dL_law_1527 (by decide) (fun k10 => ?_) (fun k10 => ?_)
  · have h := h.1 k10
    refine lv_iload hx hb dL_law_1532 (lv_at hl 1 rfl) ?_
    refine lv_if_ne (tgt := 1549) hx hb dL_law_1534 (by decide) (fun k11 => ?_) (fun k11 => ?_)
    · have h := h.2 k11
      refine lv_goto (tgt := 2873) hx hb dL_law_1549 (by decide) ?_
      exact nx M8 o4 d5 _ _ _ _ _ (by omega) (by omega) (lv_sub hl [2, 3, 4, 5, 6, 7] rfl) hW h
    · have h := h.1 k11
      refine lv_aload_n hx hb dL_law_1537 rfl (lv_at hl 6 rfl) ?_
      refine lv_iconst (v := 0) hx hb dL_law_1538 (by decide) ?_
      refine sw_ll hx hb hW (vp_in_iff.mpr (by decide)) dL_law_1539 ?_
      refine lv_iload hx hb dL_law_1540 (lv_at hl 0 rfl) ?_
      refine lv_i2l hx hb dL_law_1542 rfl ?_
      refine W.lcmp hx hb dL_law_1543 ?_
      refine lv_if_eq (tgt := 1549) hx hb dL_law_1544 (by decide) (fun k12 => ?_) (fun k12 => ?_)
      · have h := h.1 k12
        refine lv_goto (tgt := 2873) hx hb dL_law_1549 (by decide) ?_
        exact nx M8 o4 d5 _ _ _ _ _ (by omega) (by omega) (lv_sub hl [2, 3, 4, 5, 6, 7] rfl) hW h
      · have h := h.2 k12
        refine lv_iconst (v := 0) hx hb dL_law_1547 (by decide) ?_
        exact h.elim
  · have h := h.2 k10
    refine lv_iconst (v := 0) hx hb dL_law_1530 (by decide) ?_
    exact h.elim
def wcase_23 (L : Nat) (xs : Nat → Int32) (i : Int32) (M : sM) (o : sO) (d : sE) (N : sM → sO → sE → Prop) : Prop :=
  vp_in (i + (1 : Int32)) L ∧ (vp_in (i + (2 : Int32)) L ∧ (wL_isNeutral (xs ((i + (1 : Int32))).toNatClampNeg) (xs ((i + (2 : Int32))).toNatClampNeg) M o d (fun r3 M4 o5 d6 => vp_in (i + (1 : Int32)) L ∧ (vp_in (i + (2 : Int32)) L ∧ (wX7_isNeutral (xs ((i + (1 : Int32))).toNatClampNeg) (xs ((i + (2 : Int32))).toNatClampNeg) M4 (fun r9 M10 => wX7_thrown M10 (fun r11 => (r11 = r3 → ((r3 = 0 → ((r9 = 0 → (((lg_cmp (o5 ((0 : Int32)).toNatClampNeg) (0 : Int64)) = 0 → (N M10 o5 d6)) ∧ (¬ (lg_cmp (o5 ((0 : Int32)).toNatClampNeg) (0 : Int64)) = 0 → (False)))) ∧ (¬ r9 = 0 → (((lg_cmp (o5 ((0 : Int32)).toNatClampNeg) (1 : Int64)) = 0 → (N M10 o5 d6)) ∧ (¬ (lg_cmp (o5 ((0 : Int32)).toNatClampNeg) (1 : Int64)) = 0 → (False)))))) ∧ (¬ r3 = 0 → (N M10 o5 d6)))) ∧ (¬ r11 = r3 → (False)))))))))
set_option maxRecDepth 20000 in
theorem kcase_23 {p : Program} {l : Launch} {e : Env} {s : State} {m : MethodId} {below : List Frame} {meth : Method} {c : Code} {H : Heap} {locs : List Loc} {cells slots : Nat} {Q : State → Prop} {ls : Array Slot} {g : sG} {b L : Nat} {xs : Nat → Int32} (Z : zLw p l s m meth c b L xs g) {i : Int32} {M : sM} {o : sO} {d : sE} {N : sM → sO → sE → Prop} (hl : lv_has ls 9 (zLs g b i)) (hW : sw_Wd g o d M s H locs) (hc : cells + 8 ≤ 603072) (hs : slots + 48 ≤ 7211114) (h : wcase_23 L xs i M o d N)
    (nx : ∀ (M : sM) (o : sO) (d : sE) (H : Heap) (locs : List Loc) (ls : Array Slot) (cells' slots' : Nat), cells' ≤ cells + 8 → slots' ≤ slots + 48 → lv_has ls 9 (zLs g b i) → sw_Wd g o d M s H locs → N M o d → W p l e room_1 s m #[Value.ref b] below meth c H locs cells' slots' Q (F0 m 2873 ls [])) : W p l e room_1 s m #[Value.ref b] below meth c H locs cells slots Q (F0 m 1552 ls []) := by
  obtain ⟨hx, hb, hml, hown, hts, hX, hbl, hbA, hst⟩ := Z
  unfold wcase_23 at h
  refine lv_aload_n hx hb dL_law_1552 rfl (lv_at hl 2 rfl) ?_
  refine lv_aload_n hx hb dL_law_1553 rfl (lv_at hl 1 rfl) ?_
  refine lv_iload hx hb dL_law_1554 (lv_at hl 0 rfl) ?_
  refine lv_iconst (v := 1) hx hb dL_law_1556 (by decide) ?_
  refine lv_iadd hx hb dL_law_1557 ?_
  have b1 := h.1
  have h := h.2
  refine va_sld hx hb hX hbl hbA hW.2.1 b1 dL_law_1558 ?_
  refine lv_aload_n hx hb dL_law_1559 rfl (lv_at hl 1 rfl) ?_
  refine lv_iload hx hb dL_law_1560 (lv_at hl 0 rfl) ?_
  refine lv_iconst (v := 2) hx hb dL_law_1562 (by decide) ?_
  refine lv_iadd hx hb dL_law_1563 ?_
  have b2 := h.1
  have h := h.2
  refine va_sld hx hb hX hbl hbA hW.2.1 b2 dL_law_1564 ?_
  refine lv_aload_n hx hb dL_law_1565 rfl (lv_at hl 4 rfl) ?_
  refine sw_k3 (rest := []) (sw_runH (As := [.ref (sw_ad g 0), .int (xs ((i + (1 : Int32))).toNatClampNeg), .int (xs ((i + (2 : Int32))).toNatClampNeg), .ref (sw_ad g 233)]) (rest := []) hx hb hml hown hts (kL_isNeutral l hst g (xs ((i + (1 : Int32))).toNatClampNeg) (xs ((i + (2 : Int32))).toNatClampNeg) M o d _ h) ch_L_isNeutral q_663 rfl rfl ⟨(Nat.le_of_ble_eq_true rfl), (Nat.le_of_ble_eq_true rfl)⟩ hW rfl hl.1 rfl (Nat.le_of_ble_eq_true rfl) dL_law_1566 ⟨by show _ ≤ 603072; omega, by show _ ≤ 7211114; omega⟩) hW (fun r3 M4 o5 d6 H locs h hW => ?_)
  refine lv_istore (lv' := [(6, .int r3), (5, .int i), (0, .ref b), (1, .ref (sw_ad g 0)), (2, .ref (sw_ad g 33)), (3, .ref (sw_ad g 233)), (4, .ref (sw_ad g 234))]) hx hb dL_law_1569 hl (Nat.le_of_ble_eq_true rfl) rfl (fun ls hl => ?_)
  refine lv_aload_n hx hb dL_law_1571 rfl (lv_at hl 4 rfl) ?_
  refine lv_aload_n hx hb dL_law_1572 rfl (lv_at hl 2 rfl) ?_
  refine lv_iload hx hb dL_law_1573 (lv_at hl 1 rfl) ?_
  refine lv_iconst (v := 1) hx hb dL_law_1575 (by decide) ?_
  refine lv_iadd hx hb dL_law_1576 ?_
  have b7 := h.1
  have h := h.2
  refine va_sld hx hb hX hbl hbA hW.2.1 b7 dL_law_1577 ?_
  refine lv_aload_n hx hb dL_law_1578 rfl (lv_at hl 2 rfl) ?_
  refine lv_iload hx hb dL_law_1579 (lv_at hl 1 rfl) ?_
  refine lv_iconst (v := 2) hx hb dL_law_1581 (by decide) ?_
  refine lv_iadd hx hb dL_law_1582 ?_
  have b8 := h.1
  have h := h.2
  refine va_sld hx hb hX hbl hbA hW.2.1 b8 dL_law_1583 ?_
  refine sw_ki (rest := []) (sw_runV (As := [.int (xs ((i + (1 : Int32))).toNatClampNeg), .int (xs ((i + (2 : Int32))).toNatClampNeg)]) (rest := []) hx hb hml hown hts (kX7_isNeutral l g o5 d6 (xs ((i + (1 : Int32))).toNatClampNeg) (xs ((i + (2 : Int32))).toNatClampNeg) M4 _ h) cv_X7_isNeutral q_1190 rfl rfl ⟨(Nat.le_of_ble_eq_true rfl), (Nat.le_of_ble_eq_true rfl)⟩ hW (Nat.le_of_ble_eq_true rfl) sl_33 rfl rfl hl.1 rfl (Nat.le_of_ble_eq_true rfl) dL_law_1584 ⟨by show _ ≤ 603072; omega, by show _ ≤ 7211114; omega⟩) hW (fun r9 M10 H locs h hW => ?_)
  refine lv_istore (lv' := [(7, .int r9), (6, .int r3), (5, .int i), (0, .ref b), (1, .ref (sw_ad g 0)), (2, .ref (sw_ad g 33)), (3, .ref (sw_ad g 233)), (4, .ref (sw_ad g 234))]) hx hb dL_law_1587 hl (Nat.le_of_ble_eq_true rfl) rfl (fun ls hl => ?_)
  refine lv_aload_n hx hb dL_law_1589 rfl (lv_at hl 5 rfl) ?_
  refine sw_ki (rest := []) (sw_runV (As := []) (rest := []) hx hb hml hown hts (kX7_thrown l g o5 d6 M10 _ h) cv_X7_thrown q_966 rfl rfl ⟨(Nat.le_of_ble_eq_true rfl), (Nat.le_of_ble_eq_true rfl)⟩ hW (Nat.le_of_ble_eq_true rfl) sl_33 rfl rfl hl.1 rfl (Nat.le_of_ble_eq_true rfl) dL_law_1590 ⟨by show _ ≤ 603072; omega, by show _ ≤ 7211114; omega⟩) hW (fun r11 M17 H locs h hW => ?_)
  obtain ⟨h, eM17⟩ := h
  rw [eM17] at hW
  refine lv_iload hx hb dL_law_1593 (lv_at hl 1 rfl) ?_
  refine lv_icmp_eq (tgt := 1600) hx hb dL_law_1595 (by decide) (fun k12 => ?_) (fun k12 => ?_)
  · have h := h.1 k12
    refine lv_iload hx hb dL_law_1600 (lv_at hl 1 rfl) ?_
    refine lv_if_ne (tgt := 1624) hx hb dL_law_1602 (by decide) (fun k13 => ?_) (fun k13 => ?_)
    · have h := h.2 k13
      refine lv_goto (tgt := 2873) hx hb dL_law_1624 (by decide) ?_
      exact nx M10 o5 d6 _ _ _ _ _ (by omega) (by omega) (lv_sub hl [2, 3, 4, 5, 6, 7] rfl) hW h
    · have h := h.1 k13
      refine lv_aload_n hx hb dL_law_1605 rfl (lv_at hl 6 rfl) ?_
      refine lv_iconst (v := 0) hx hb dL_law_1606 (by decide) ?_
      refine sw_ll hx hb hW (vp_in_iff.mpr (by decide)) dL_law_1607 ?_
      refine lv_iload hx hb dL_law_1608 (lv_at hl 0 rfl) ?_
      refine lv_if_eq (tgt := 1617) hx hb dL_law_1610 (by decide) (fun k14 => ?_) (fun k14 => ?_)
      · have h := h.1 k14
        refine lv_lconst (v := 0) hx hb dL_law_1617 (by decide) ?_
        refine W.lcmp hx hb dL_law_1618 ?_
        refine lv_if_eq (tgt := 1624) hx hb dL_law_1619 (by decide) (fun k15 => ?_) (fun k15 => ?_)
        · have h := h.1 k15
          refine lv_goto (tgt := 2873) hx hb dL_law_1624 (by decide) ?_
          exact nx M10 o5 d6 _ _ _ _ _ (by omega) (by omega) (lv_sub hl [2, 3, 4, 5, 6, 7] rfl) hW h
        · have h := h.2 k15
          refine lv_iconst (v := 0) hx hb dL_law_1622 (by decide) ?_
          exact h.elim
      · have h := h.2 k14
        refine lv_lconst (v := 1) hx hb dL_law_1613 (by decide) ?_
        refine lv_goto (tgt := 1618) hx hb dL_law_1614 (by decide) ?_
        refine W.lcmp hx hb dL_law_1618 ?_
        refine lv_if_eq (tgt := 1624) hx hb dL_law_1619 (by decide) (fun k16 => ?_) (fun k16 => ?_)
        · have h := h.1 k16
          refine lv_goto (tgt := 2873) hx hb dL_law_1624 (by decide) ?_
          exact nx M10 o5 d6 _ _ _ _ _ (by omega) (by omega) (lv_sub hl [2, 3, 4, 5, 6, 7] rfl) hW h
        · have h := h.2 k16
          refine lv_iconst (v := 0) hx hb dL_law_1622 (by decide) ?_
          exact h.elim
  · have h := h.2 k12
    refine lv_iconst (v := 0) hx hb dL_law_1598 (by decide) ?_
    exact h.elim
def wcase_24 (L : Nat) (xs : Nat → Int32) (i : Int32) (M : sM) (o : sO) (d : sE) (N : sM → sO → sE → Prop) : Prop :=
  vp_in (i + (1 : Int32)) L ∧ (vp_in (i + (2 : Int32)) L ∧ (wL_mayJudge (xs ((i + (1 : Int32))).toNatClampNeg) (xs ((i + (2 : Int32))).toNatClampNeg) M o d (fun r3 M4 o5 d6 => vp_in (i + (1 : Int32)) L ∧ (vp_in (i + (2 : Int32)) L ∧ (wX7_mayJudge (xs ((i + (1 : Int32))).toNatClampNeg) (xs ((i + (2 : Int32))).toNatClampNeg) M4 (fun r9 M10 => wX7_thrown M10 (fun r11 => (r11 = r3 → ((r3 = 0 → ((r9 = 0 → (((lg_cmp (o5 ((0 : Int32)).toNatClampNeg) (0 : Int64)) = 0 → (N M10 o5 d6)) ∧ (¬ (lg_cmp (o5 ((0 : Int32)).toNatClampNeg) (0 : Int64)) = 0 → (False)))) ∧ (¬ r9 = 0 → (((lg_cmp (o5 ((0 : Int32)).toNatClampNeg) (1 : Int64)) = 0 → (N M10 o5 d6)) ∧ (¬ (lg_cmp (o5 ((0 : Int32)).toNatClampNeg) (1 : Int64)) = 0 → (False)))))) ∧ (¬ r3 = 0 → (N M10 o5 d6)))) ∧ (¬ r11 = r3 → (False)))))))))
set_option maxRecDepth 20000 in
theorem kcase_24 {p : Program} {l : Launch} {e : Env} {s : State} {m : MethodId} {below : List Frame} {meth : Method} {c : Code} {H : Heap} {locs : List Loc} {cells slots : Nat} {Q : State → Prop} {ls : Array Slot} {g : sG} {b L : Nat} {xs : Nat → Int32} (Z : zLw p l s m meth c b L xs g) {i : Int32} {M : sM} {o : sO} {d : sE} {N : sM → sO → sE → Prop} (hl : lv_has ls 9 (zLs g b i)) (hW : sw_Wd g o d M s H locs) (hc : cells + 8 ≤ 603072) (hs : slots + 48 ≤ 7211114) (h : wcase_24 L xs i M o d N)
    (nx : ∀ (M : sM) (o : sO) (d : sE) (H : Heap) (locs : List Loc) (ls : Array Slot) (cells' slots' : Nat), cells' ≤ cells + 8 → slots' ≤ slots + 48 → lv_has ls 9 (zLs g b i) → sw_Wd g o d M s H locs → N M o d → W p l e room_1 s m #[Value.ref b] below meth c H locs cells' slots' Q (F0 m 2873 ls [])) : W p l e room_1 s m #[Value.ref b] below meth c H locs cells slots Q (F0 m 1627 ls []) := by
  obtain ⟨hx, hb, hml, hown, hts, hX, hbl, hbA, hst⟩ := Z
  unfold wcase_24 at h
  refine lv_aload_n hx hb dL_law_1627 rfl (lv_at hl 2 rfl) ?_
  refine lv_aload_n hx hb dL_law_1628 rfl (lv_at hl 1 rfl) ?_
  refine lv_iload hx hb dL_law_1629 (lv_at hl 0 rfl) ?_
  refine lv_iconst (v := 1) hx hb dL_law_1631 (by decide) ?_
  refine lv_iadd hx hb dL_law_1632 ?_
  have b1 := h.1
  have h := h.2
  refine va_sld hx hb hX hbl hbA hW.2.1 b1 dL_law_1633 ?_
  refine lv_aload_n hx hb dL_law_1634 rfl (lv_at hl 1 rfl) ?_
  refine lv_iload hx hb dL_law_1635 (lv_at hl 0 rfl) ?_
  refine lv_iconst (v := 2) hx hb dL_law_1637 (by decide) ?_
  refine lv_iadd hx hb dL_law_1638 ?_
  have b2 := h.1
  have h := h.2
  refine va_sld hx hb hX hbl hbA hW.2.1 b2 dL_law_1639 ?_
  refine lv_aload_n hx hb dL_law_1640 rfl (lv_at hl 4 rfl) ?_
  refine sw_k3 (rest := []) (sw_runH (As := [.ref (sw_ad g 0), .int (xs ((i + (1 : Int32))).toNatClampNeg), .int (xs ((i + (2 : Int32))).toNatClampNeg), .ref (sw_ad g 233)]) (rest := []) hx hb hml hown hts (kL_mayJudge l hst g (xs ((i + (1 : Int32))).toNatClampNeg) (xs ((i + (2 : Int32))).toNatClampNeg) M o d _ h) ch_L_mayJudge q_673 rfl rfl ⟨(Nat.le_of_ble_eq_true rfl), (Nat.le_of_ble_eq_true rfl)⟩ hW rfl hl.1 rfl (Nat.le_of_ble_eq_true rfl) dL_law_1641 ⟨by show _ ≤ 603072; omega, by show _ ≤ 7211114; omega⟩) hW (fun r3 M4 o5 d6 H locs h hW => ?_)
  refine lv_istore (lv' := [(6, .int r3), (5, .int i), (0, .ref b), (1, .ref (sw_ad g 0)), (2, .ref (sw_ad g 33)), (3, .ref (sw_ad g 233)), (4, .ref (sw_ad g 234))]) hx hb dL_law_1644 hl (Nat.le_of_ble_eq_true rfl) rfl (fun ls hl => ?_)
  refine lv_aload_n hx hb dL_law_1646 rfl (lv_at hl 4 rfl) ?_
  refine lv_aload_n hx hb dL_law_1647 rfl (lv_at hl 2 rfl) ?_
  refine lv_iload hx hb dL_law_1648 (lv_at hl 1 rfl) ?_
  refine lv_iconst (v := 1) hx hb dL_law_1650 (by decide) ?_
  refine lv_iadd hx hb dL_law_1651 ?_
  have b7 := h.1
  have h := h.2
  refine va_sld hx hb hX hbl hbA hW.2.1 b7 dL_law_1652 ?_
  refine lv_aload_n hx hb dL_law_1653 rfl (lv_at hl 2 rfl) ?_
  refine lv_iload hx hb dL_law_1654 (lv_at hl 1 rfl) ?_
  refine lv_iconst (v := 2) hx hb dL_law_1656 (by decide) ?_
  refine lv_iadd hx hb dL_law_1657 ?_
  have b8 := h.1
  have h := h.2
  refine va_sld hx hb hX hbl hbA hW.2.1 b8 dL_law_1658 ?_
  refine sw_ki (rest := []) (sw_runV (As := [.int (xs ((i + (1 : Int32))).toNatClampNeg), .int (xs ((i + (2 : Int32))).toNatClampNeg)]) (rest := []) hx hb hml hown hts (kX7_mayJudge l g o5 d6 (xs ((i + (1 : Int32))).toNatClampNeg) (xs ((i + (2 : Int32))).toNatClampNeg) M4 _ h) cv_X7_mayJudge q_1194 rfl rfl ⟨(Nat.le_of_ble_eq_true rfl), (Nat.le_of_ble_eq_true rfl)⟩ hW (Nat.le_of_ble_eq_true rfl) sl_33 rfl rfl hl.1 rfl (Nat.le_of_ble_eq_true rfl) dL_law_1659 ⟨by show _ ≤ 603072; omega, by show _ ≤ 7211114; omega⟩) hW (fun r9 M10 H locs h hW => ?_)
  refine lv_istore (lv' := [(7, .int r9), (6, .int r3), (5, .int i), (0, .ref b), (1, .ref (sw_ad g 0)), (2, .ref (sw_ad g 33)), (3, .ref (sw_ad g 233)), (4, .ref (sw_ad g 234))]) hx hb dL_law_1662 hl (Nat.le_of_ble_eq_true rfl) rfl (fun ls hl => ?_)
  refine lv_aload_n hx hb dL_law_1664 rfl (lv_at hl 5 rfl) ?_
  refine sw_ki (rest := []) (sw_runV (As := []) (rest := []) hx hb hml hown hts (kX7_thrown l g o5 d6 M10 _ h) cv_X7_thrown q_966 rfl rfl ⟨(Nat.le_of_ble_eq_true rfl), (Nat.le_of_ble_eq_true rfl)⟩ hW (Nat.le_of_ble_eq_true rfl) sl_33 rfl rfl hl.1 rfl (Nat.le_of_ble_eq_true rfl) dL_law_1665 ⟨by show _ ≤ 603072; omega, by show _ ≤ 7211114; omega⟩) hW (fun r11 M17 H locs h hW => ?_)
  obtain ⟨h, eM17⟩ := h
  rw [eM17] at hW
  refine lv_iload hx hb dL_law_1668 (lv_at hl 1 rfl) ?_
  refine lv_icmp_eq (tgt := 1675) hx hb dL_law_1670 (by decide) (fun k12 => ?_) (fun k12 => ?_)
  · have h := h.1 k12
    refine lv_iload hx hb dL_law_1675 (lv_at hl 1 rfl) ?_
    refine lv_if_ne (tgt := 1699) hx hb dL_law_1677 (by decide) (fun k13 => ?_) (fun k13 => ?_)
    · have h := h.2 k13
      refine lv_goto (tgt := 2873) hx hb dL_law_1699 (by decide) ?_
      exact nx M10 o5 d6 _ _ _ _ _ (by omega) (by omega) (lv_sub hl [2, 3, 4, 5, 6, 7] rfl) hW h
    · have h := h.1 k13
      refine lv_aload_n hx hb dL_law_1680 rfl (lv_at hl 6 rfl) ?_
      refine lv_iconst (v := 0) hx hb dL_law_1681 (by decide) ?_
      refine sw_ll hx hb hW (vp_in_iff.mpr (by decide)) dL_law_1682 ?_
      refine lv_iload hx hb dL_law_1683 (lv_at hl 0 rfl) ?_
      refine lv_if_eq (tgt := 1692) hx hb dL_law_1685 (by decide) (fun k14 => ?_) (fun k14 => ?_)
      · have h := h.1 k14
        refine lv_lconst (v := 0) hx hb dL_law_1692 (by decide) ?_
        refine W.lcmp hx hb dL_law_1693 ?_
        refine lv_if_eq (tgt := 1699) hx hb dL_law_1694 (by decide) (fun k15 => ?_) (fun k15 => ?_)
        · have h := h.1 k15
          refine lv_goto (tgt := 2873) hx hb dL_law_1699 (by decide) ?_
          exact nx M10 o5 d6 _ _ _ _ _ (by omega) (by omega) (lv_sub hl [2, 3, 4, 5, 6, 7] rfl) hW h
        · have h := h.2 k15
          refine lv_iconst (v := 0) hx hb dL_law_1697 (by decide) ?_
          exact h.elim
      · have h := h.2 k14
        refine lv_lconst (v := 1) hx hb dL_law_1688 (by decide) ?_
        refine lv_goto (tgt := 1693) hx hb dL_law_1689 (by decide) ?_
        refine W.lcmp hx hb dL_law_1693 ?_
        refine lv_if_eq (tgt := 1699) hx hb dL_law_1694 (by decide) (fun k16 => ?_) (fun k16 => ?_)
        · have h := h.1 k16
          refine lv_goto (tgt := 2873) hx hb dL_law_1699 (by decide) ?_
          exact nx M10 o5 d6 _ _ _ _ _ (by omega) (by omega) (lv_sub hl [2, 3, 4, 5, 6, 7] rfl) hW h
        · have h := h.2 k16
          refine lv_iconst (v := 0) hx hb dL_law_1697 (by decide) ?_
          exact h.elim
  · have h := h.2 k12
    refine lv_iconst (v := 0) hx hb dL_law_1673 (by decide) ?_
    exact h.elim
def wcase_25 (L : Nat) (xs : Nat → Int32) (i : Int32) (M : sM) (o : sO) (d : sE) (N : sM → sO → sE → Prop) : Prop :=
  vp_in (i + (1 : Int32)) L ∧ (vp_in (i + (2 : Int32)) L ∧ (wL_isAssigned (xs ((i + (1 : Int32))).toNatClampNeg) (xs ((i + (2 : Int32))).toNatClampNeg) M o d (fun r3 M4 o5 d6 => vp_in (i + (1 : Int32)) L ∧ (vp_in (i + (2 : Int32)) L ∧ (wX7_isAssigned (xs ((i + (1 : Int32))).toNatClampNeg) (xs ((i + (2 : Int32))).toNatClampNeg) M4 (fun r9 M10 => wX7_thrown M10 (fun r11 => (r11 = r3 → ((r3 = 0 → ((r9 = 0 → (((lg_cmp (o5 ((0 : Int32)).toNatClampNeg) (0 : Int64)) = 0 → (N M10 o5 d6)) ∧ (¬ (lg_cmp (o5 ((0 : Int32)).toNatClampNeg) (0 : Int64)) = 0 → (False)))) ∧ (¬ r9 = 0 → (((lg_cmp (o5 ((0 : Int32)).toNatClampNeg) (1 : Int64)) = 0 → (N M10 o5 d6)) ∧ (¬ (lg_cmp (o5 ((0 : Int32)).toNatClampNeg) (1 : Int64)) = 0 → (False)))))) ∧ (¬ r3 = 0 → (N M10 o5 d6)))) ∧ (¬ r11 = r3 → (False)))))))))
set_option maxRecDepth 20000 in
theorem kcase_25 {p : Program} {l : Launch} {e : Env} {s : State} {m : MethodId} {below : List Frame} {meth : Method} {c : Code} {H : Heap} {locs : List Loc} {cells slots : Nat} {Q : State → Prop} {ls : Array Slot} {g : sG} {b L : Nat} {xs : Nat → Int32} (Z : zLw p l s m meth c b L xs g) {i : Int32} {M : sM} {o : sO} {d : sE} {N : sM → sO → sE → Prop} (hl : lv_has ls 9 (zLs g b i)) (hW : sw_Wd g o d M s H locs) (hc : cells + 8 ≤ 603072) (hs : slots + 48 ≤ 7211114) (h : wcase_25 L xs i M o d N)
    (nx : ∀ (M : sM) (o : sO) (d : sE) (H : Heap) (locs : List Loc) (ls : Array Slot) (cells' slots' : Nat), cells' ≤ cells + 8 → slots' ≤ slots + 48 → lv_has ls 9 (zLs g b i) → sw_Wd g o d M s H locs → N M o d → W p l e room_1 s m #[Value.ref b] below meth c H locs cells' slots' Q (F0 m 2873 ls [])) : W p l e room_1 s m #[Value.ref b] below meth c H locs cells slots Q (F0 m 1702 ls []) := by
  obtain ⟨hx, hb, hml, hown, hts, hX, hbl, hbA, hst⟩ := Z
  unfold wcase_25 at h
  refine lv_aload_n hx hb dL_law_1702 rfl (lv_at hl 2 rfl) ?_
  refine lv_aload_n hx hb dL_law_1703 rfl (lv_at hl 1 rfl) ?_
  refine lv_iload hx hb dL_law_1704 (lv_at hl 0 rfl) ?_
  refine lv_iconst (v := 1) hx hb dL_law_1706 (by decide) ?_
  refine lv_iadd hx hb dL_law_1707 ?_
  have b1 := h.1
  have h := h.2
  refine va_sld hx hb hX hbl hbA hW.2.1 b1 dL_law_1708 ?_
  refine lv_aload_n hx hb dL_law_1709 rfl (lv_at hl 1 rfl) ?_
  refine lv_iload hx hb dL_law_1710 (lv_at hl 0 rfl) ?_
  refine lv_iconst (v := 2) hx hb dL_law_1712 (by decide) ?_
  refine lv_iadd hx hb dL_law_1713 ?_
  have b2 := h.1
  have h := h.2
  refine va_sld hx hb hX hbl hbA hW.2.1 b2 dL_law_1714 ?_
  refine lv_aload_n hx hb dL_law_1715 rfl (lv_at hl 4 rfl) ?_
  refine sw_k3 (rest := []) (sw_runH (As := [.ref (sw_ad g 0), .int (xs ((i + (1 : Int32))).toNatClampNeg), .int (xs ((i + (2 : Int32))).toNatClampNeg), .ref (sw_ad g 233)]) (rest := []) hx hb hml hown hts (kL_isAssigned l hst g (xs ((i + (1 : Int32))).toNatClampNeg) (xs ((i + (2 : Int32))).toNatClampNeg) M o d _ h) ch_L_isAssigned q_680 rfl rfl ⟨(Nat.le_of_ble_eq_true rfl), (Nat.le_of_ble_eq_true rfl)⟩ hW rfl hl.1 rfl (Nat.le_of_ble_eq_true rfl) dL_law_1716 ⟨by show _ ≤ 603072; omega, by show _ ≤ 7211114; omega⟩) hW (fun r3 M4 o5 d6 H locs h hW => ?_)
  refine lv_istore (lv' := [(6, .int r3), (5, .int i), (0, .ref b), (1, .ref (sw_ad g 0)), (2, .ref (sw_ad g 33)), (3, .ref (sw_ad g 233)), (4, .ref (sw_ad g 234))]) hx hb dL_law_1719 hl (Nat.le_of_ble_eq_true rfl) rfl (fun ls hl => ?_)
  refine lv_aload_n hx hb dL_law_1721 rfl (lv_at hl 4 rfl) ?_
  refine lv_aload_n hx hb dL_law_1722 rfl (lv_at hl 2 rfl) ?_
  refine lv_iload hx hb dL_law_1723 (lv_at hl 1 rfl) ?_
  refine lv_iconst (v := 1) hx hb dL_law_1725 (by decide) ?_
  refine lv_iadd hx hb dL_law_1726 ?_
  have b7 := h.1
  have h := h.2
  refine va_sld hx hb hX hbl hbA hW.2.1 b7 dL_law_1727 ?_
  refine lv_aload_n hx hb dL_law_1728 rfl (lv_at hl 2 rfl) ?_
  refine lv_iload hx hb dL_law_1729 (lv_at hl 1 rfl) ?_
  refine lv_iconst (v := 2) hx hb dL_law_1731 (by decide) ?_
  refine lv_iadd hx hb dL_law_1732 ?_
  have b8 := h.1
  have h := h.2
  refine va_sld hx hb hX hbl hbA hW.2.1 b8 dL_law_1733 ?_
  refine sw_ki (rest := []) (sw_runV (As := [.int (xs ((i + (1 : Int32))).toNatClampNeg), .int (xs ((i + (2 : Int32))).toNatClampNeg)]) (rest := []) hx hb hml hown hts (kX7_isAssigned l g o5 d6 (xs ((i + (1 : Int32))).toNatClampNeg) (xs ((i + (2 : Int32))).toNatClampNeg) M4 _ h) cv_X7_isAssigned q_1198 rfl rfl ⟨(Nat.le_of_ble_eq_true rfl), (Nat.le_of_ble_eq_true rfl)⟩ hW (Nat.le_of_ble_eq_true rfl) sl_33 rfl rfl hl.1 rfl (Nat.le_of_ble_eq_true rfl) dL_law_1734 ⟨by show _ ≤ 603072; omega, by show _ ≤ 7211114; omega⟩) hW (fun r9 M10 H locs h hW => ?_)
  refine lv_istore (lv' := [(7, .int r9), (6, .int r3), (5, .int i), (0, .ref b), (1, .ref (sw_ad g 0)), (2, .ref (sw_ad g 33)), (3, .ref (sw_ad g 233)), (4, .ref (sw_ad g 234))]) hx hb dL_law_1737 hl (Nat.le_of_ble_eq_true rfl) rfl (fun ls hl => ?_)
  refine lv_aload_n hx hb dL_law_1739 rfl (lv_at hl 5 rfl) ?_
  refine sw_ki (rest := []) (sw_runV (As := []) (rest := []) hx hb hml hown hts (kX7_thrown l g o5 d6 M10 _ h) cv_X7_thrown q_966 rfl rfl ⟨(Nat.le_of_ble_eq_true rfl), (Nat.le_of_ble_eq_true rfl)⟩ hW (Nat.le_of_ble_eq_true rfl) sl_33 rfl rfl hl.1 rfl (Nat.le_of_ble_eq_true rfl) dL_law_1740 ⟨by show _ ≤ 603072; omega, by show _ ≤ 7211114; omega⟩) hW (fun r11 M17 H locs h hW => ?_)
  obtain ⟨h, eM17⟩ := h
  rw [eM17] at hW
  refine lv_iload hx hb dL_law_1743 (lv_at hl 1 rfl) ?_
  refine lv_icmp_eq (tgt := 1750) hx hb dL_law_1745 (by decide) (fun k12 => ?_) (fun k12 => ?_)
  · have h := h.1 k12
    refine lv_iload hx hb dL_law_1750 (lv_at hl 1 rfl) ?_
    refine lv_if_ne (tgt := 1774) hx hb dL_law_1752 (by decide) (fun k13 => ?_) (fun k13 => ?_)
    · have h := h.2 k13
      refine lv_goto (tgt := 2873) hx hb dL_law_1774 (by decide) ?_
      exact nx M10 o5 d6 _ _ _ _ _ (by omega) (by omega) (lv_sub hl [2, 3, 4, 5, 6, 7] rfl) hW h
    · have h := h.1 k13
      refine lv_aload_n hx hb dL_law_1755 rfl (lv_at hl 6 rfl) ?_
      refine lv_iconst (v := 0) hx hb dL_law_1756 (by decide) ?_
      refine sw_ll hx hb hW (vp_in_iff.mpr (by decide)) dL_law_1757 ?_
      refine lv_iload hx hb dL_law_1758 (lv_at hl 0 rfl) ?_
      refine lv_if_eq (tgt := 1767) hx hb dL_law_1760 (by decide) (fun k14 => ?_) (fun k14 => ?_)
      · have h := h.1 k14
        refine lv_lconst (v := 0) hx hb dL_law_1767 (by decide) ?_
        refine W.lcmp hx hb dL_law_1768 ?_
        refine lv_if_eq (tgt := 1774) hx hb dL_law_1769 (by decide) (fun k15 => ?_) (fun k15 => ?_)
        · have h := h.1 k15
          refine lv_goto (tgt := 2873) hx hb dL_law_1774 (by decide) ?_
          exact nx M10 o5 d6 _ _ _ _ _ (by omega) (by omega) (lv_sub hl [2, 3, 4, 5, 6, 7] rfl) hW h
        · have h := h.2 k15
          refine lv_iconst (v := 0) hx hb dL_law_1772 (by decide) ?_
          exact h.elim
      · have h := h.2 k14
        refine lv_lconst (v := 1) hx hb dL_law_1763 (by decide) ?_
        refine lv_goto (tgt := 1768) hx hb dL_law_1764 (by decide) ?_
        refine W.lcmp hx hb dL_law_1768 ?_
        refine lv_if_eq (tgt := 1774) hx hb dL_law_1769 (by decide) (fun k16 => ?_) (fun k16 => ?_)
        · have h := h.1 k16
          refine lv_goto (tgt := 2873) hx hb dL_law_1774 (by decide) ?_
          exact nx M10 o5 d6 _ _ _ _ _ (by omega) (by omega) (lv_sub hl [2, 3, 4, 5, 6, 7] rfl) hW h
        · have h := h.2 k16
          refine lv_iconst (v := 0) hx hb dL_law_1772 (by decide) ?_
          exact h.elim
  · have h := h.2 k12
    refine lv_iconst (v := 0) hx hb dL_law_1748 (by decide) ?_
    exact h.elim
def wcase_26 (L : Nat) (xs : Nat → Int32) (i : Int32) (M : sM) (o : sO) (d : sE) (N : sM → sO → sE → Prop) : Prop :=
  vp_in (i + (1 : Int32)) L ∧ (vp_in (i + (2 : Int32)) L ∧ (wL_gradeBy (xs ((i + (1 : Int32))).toNatClampNeg) (xs ((i + (2 : Int32))).toNatClampNeg) M o d (fun r3 M4 o5 d6 => vp_in (i + (1 : Int32)) L ∧ (vp_in (i + (2 : Int32)) L ∧ (wX7_gradeBy (xs ((i + (1 : Int32))).toNatClampNeg) (xs ((i + (2 : Int32))).toNatClampNeg) M4 (fun r9 M10 => wX7_thrown M10 (fun r11 => (r11 = r3 → ((r3 = 0 → (((lg_cmp (o5 ((0 : Int32)).toNatClampNeg) (r9).toInt64) = 0 → (N M10 o5 d6)) ∧ (¬ (lg_cmp (o5 ((0 : Int32)).toNatClampNeg) (r9).toInt64) = 0 → (False)))) ∧ (¬ r3 = 0 → (N M10 o5 d6)))) ∧ (¬ r11 = r3 → (False)))))))))
set_option maxRecDepth 20000 in
theorem kcase_26 {p : Program} {l : Launch} {e : Env} {s : State} {m : MethodId} {below : List Frame} {meth : Method} {c : Code} {H : Heap} {locs : List Loc} {cells slots : Nat} {Q : State → Prop} {ls : Array Slot} {g : sG} {b L : Nat} {xs : Nat → Int32} (Z : zLw p l s m meth c b L xs g) {i : Int32} {M : sM} {o : sO} {d : sE} {N : sM → sO → sE → Prop} (hl : lv_has ls 9 (zLs g b i)) (hW : sw_Wd g o d M s H locs) (hc : cells + 8 ≤ 603072) (hs : slots + 48 ≤ 7211114) (h : wcase_26 L xs i M o d N)
    (nx : ∀ (M : sM) (o : sO) (d : sE) (H : Heap) (locs : List Loc) (ls : Array Slot) (cells' slots' : Nat), cells' ≤ cells + 8 → slots' ≤ slots + 48 → lv_has ls 9 (zLs g b i) → sw_Wd g o d M s H locs → N M o d → W p l e room_1 s m #[Value.ref b] below meth c H locs cells' slots' Q (F0 m 2873 ls [])) : W p l e room_1 s m #[Value.ref b] below meth c H locs cells slots Q (F0 m 1777 ls []) := by
  obtain ⟨hx, hb, hml, hown, hts, hX, hbl, hbA, hst⟩ := Z
  unfold wcase_26 at h
  refine lv_aload_n hx hb dL_law_1777 rfl (lv_at hl 2 rfl) ?_
  refine lv_aload_n hx hb dL_law_1778 rfl (lv_at hl 1 rfl) ?_
  refine lv_iload hx hb dL_law_1779 (lv_at hl 0 rfl) ?_
  refine lv_iconst (v := 1) hx hb dL_law_1781 (by decide) ?_
  refine lv_iadd hx hb dL_law_1782 ?_
  have b1 := h.1
  have h := h.2
  refine va_sld hx hb hX hbl hbA hW.2.1 b1 dL_law_1783 ?_
  refine lv_aload_n hx hb dL_law_1784 rfl (lv_at hl 1 rfl) ?_
  refine lv_iload hx hb dL_law_1785 (lv_at hl 0 rfl) ?_
  refine lv_iconst (v := 2) hx hb dL_law_1787 (by decide) ?_
  refine lv_iadd hx hb dL_law_1788 ?_
  have b2 := h.1
  have h := h.2
  refine va_sld hx hb hX hbl hbA hW.2.1 b2 dL_law_1789 ?_
  refine lv_aload_n hx hb dL_law_1790 rfl (lv_at hl 4 rfl) ?_
  refine sw_k3 (rest := []) (sw_runH (As := [.ref (sw_ad g 0), .int (xs ((i + (1 : Int32))).toNatClampNeg), .int (xs ((i + (2 : Int32))).toNatClampNeg), .ref (sw_ad g 233)]) (rest := []) hx hb hml hown hts (kL_gradeBy l hst g (xs ((i + (1 : Int32))).toNatClampNeg) (xs ((i + (2 : Int32))).toNatClampNeg) M o d _ h) ch_L_gradeBy q_686 rfl rfl ⟨(Nat.le_of_ble_eq_true rfl), (Nat.le_of_ble_eq_true rfl)⟩ hW rfl hl.1 rfl (Nat.le_of_ble_eq_true rfl) dL_law_1791 ⟨by show _ ≤ 603072; omega, by show _ ≤ 7211114; omega⟩) hW (fun r3 M4 o5 d6 H locs h hW => ?_)
  refine lv_istore (lv' := [(6, .int r3), (5, .int i), (0, .ref b), (1, .ref (sw_ad g 0)), (2, .ref (sw_ad g 33)), (3, .ref (sw_ad g 233)), (4, .ref (sw_ad g 234))]) hx hb dL_law_1794 hl (Nat.le_of_ble_eq_true rfl) rfl (fun ls hl => ?_)
  refine lv_aload_n hx hb dL_law_1796 rfl (lv_at hl 4 rfl) ?_
  refine lv_aload_n hx hb dL_law_1797 rfl (lv_at hl 2 rfl) ?_
  refine lv_iload hx hb dL_law_1798 (lv_at hl 1 rfl) ?_
  refine lv_iconst (v := 1) hx hb dL_law_1800 (by decide) ?_
  refine lv_iadd hx hb dL_law_1801 ?_
  have b7 := h.1
  have h := h.2
  refine va_sld hx hb hX hbl hbA hW.2.1 b7 dL_law_1802 ?_
  refine lv_aload_n hx hb dL_law_1803 rfl (lv_at hl 2 rfl) ?_
  refine lv_iload hx hb dL_law_1804 (lv_at hl 1 rfl) ?_
  refine lv_iconst (v := 2) hx hb dL_law_1806 (by decide) ?_
  refine lv_iadd hx hb dL_law_1807 ?_
  have b8 := h.1
  have h := h.2
  refine va_sld hx hb hX hbl hbA hW.2.1 b8 dL_law_1808 ?_
  refine sw_ki (rest := []) (sw_runV (As := [.int (xs ((i + (1 : Int32))).toNatClampNeg), .int (xs ((i + (2 : Int32))).toNatClampNeg)]) (rest := []) hx hb hml hown hts (kX7_gradeBy l g o5 d6 (xs ((i + (1 : Int32))).toNatClampNeg) (xs ((i + (2 : Int32))).toNatClampNeg) M4 _ h) cv_X7_gradeBy q_1202 rfl rfl ⟨(Nat.le_of_ble_eq_true rfl), (Nat.le_of_ble_eq_true rfl)⟩ hW (Nat.le_of_ble_eq_true rfl) sl_33 rfl rfl hl.1 rfl (Nat.le_of_ble_eq_true rfl) dL_law_1809 ⟨by show _ ≤ 603072; omega, by show _ ≤ 7211114; omega⟩) hW (fun r9 M10 H locs h hW => ?_)
  refine lv_istore (lv' := [(7, .int r9), (6, .int r3), (5, .int i), (0, .ref b), (1, .ref (sw_ad g 0)), (2, .ref (sw_ad g 33)), (3, .ref (sw_ad g 233)), (4, .ref (sw_ad g 234))]) hx hb dL_law_1812 hl (Nat.le_of_ble_eq_true rfl) rfl (fun ls hl => ?_)
  refine lv_aload_n hx hb dL_law_1814 rfl (lv_at hl 5 rfl) ?_
  refine sw_ki (rest := []) (sw_runV (As := []) (rest := []) hx hb hml hown hts (kX7_thrown l g o5 d6 M10 _ h) cv_X7_thrown q_966 rfl rfl ⟨(Nat.le_of_ble_eq_true rfl), (Nat.le_of_ble_eq_true rfl)⟩ hW (Nat.le_of_ble_eq_true rfl) sl_33 rfl rfl hl.1 rfl (Nat.le_of_ble_eq_true rfl) dL_law_1815 ⟨by show _ ≤ 603072; omega, by show _ ≤ 7211114; omega⟩) hW (fun r11 M15 H locs h hW => ?_)
  obtain ⟨h, eM15⟩ := h
  rw [eM15] at hW
  refine lv_iload hx hb dL_law_1818 (lv_at hl 1 rfl) ?_
  refine lv_icmp_eq (tgt := 1825) hx hb dL_law_1820 (by decide) (fun k12 => ?_) (fun k12 => ?_)
  · have h := h.1 k12
    refine lv_iload hx hb dL_law_1825 (lv_at hl 1 rfl) ?_
    refine lv_if_ne (tgt := 1842) hx hb dL_law_1827 (by decide) (fun k13 => ?_) (fun k13 => ?_)
    · have h := h.2 k13
      refine lv_goto (tgt := 2873) hx hb dL_law_1842 (by decide) ?_
      exact nx M10 o5 d6 _ _ _ _ _ (by omega) (by omega) (lv_sub hl [2, 3, 4, 5, 6, 7] rfl) hW h
    · have h := h.1 k13
      refine lv_aload_n hx hb dL_law_1830 rfl (lv_at hl 6 rfl) ?_
      refine lv_iconst (v := 0) hx hb dL_law_1831 (by decide) ?_
      refine sw_ll hx hb hW (vp_in_iff.mpr (by decide)) dL_law_1832 ?_
      refine lv_iload hx hb dL_law_1833 (lv_at hl 0 rfl) ?_
      refine lv_i2l hx hb dL_law_1835 rfl ?_
      refine W.lcmp hx hb dL_law_1836 ?_
      refine lv_if_eq (tgt := 1842) hx hb dL_law_1837 (by decide) (fun k14 => ?_) (fun k14 => ?_)
      · have h := h.1 k14
        refine lv_goto (tgt := 2873) hx hb dL_law_1842 (by decide) ?_
        exact nx M10 o5 d6 _ _ _ _ _ (by omega) (by omega) (lv_sub hl [2, 3, 4, 5, 6, 7] rfl) hW h
      · have h := h.2 k14
        refine lv_iconst (v := 0) hx hb dL_law_1840 (by decide) ?_
        exact h.elim
  · have h := h.2 k12
    refine lv_iconst (v := 0) hx hb dL_law_1823 (by decide) ?_
    exact h.elim
def wcase_27 (L : Nat) (xs : Nat → Int32) (i : Int32) (M : sM) (o : sO) (d : sE) (N : sM → sO → sE → Prop) : Prop :=
  wX6_planSize M (fun r1 M2 => wX7_planSize M2 (fun r3 M4 => (r1 = r3 → (N M4 o d)) ∧ (¬ r1 = r3 → (False))))
set_option maxRecDepth 20000 in
theorem kcase_27 {p : Program} {l : Launch} {e : Env} {s : State} {m : MethodId} {below : List Frame} {meth : Method} {c : Code} {H : Heap} {locs : List Loc} {cells slots : Nat} {Q : State → Prop} {ls : Array Slot} {g : sG} {b L : Nat} {xs : Nat → Int32} (Z : zLw p l s m meth c b L xs g) {i : Int32} {M : sM} {o : sO} {d : sE} {N : sM → sO → sE → Prop} (hl : lv_has ls 9 (zLs g b i)) (hW : sw_Wd g o d M s H locs) (hc : cells + 8 ≤ 603072) (hs : slots + 48 ≤ 7211114) (h : wcase_27 L xs i M o d N)
    (nx : ∀ (M : sM) (o : sO) (d : sE) (H : Heap) (locs : List Loc) (ls : Array Slot) (cells' slots' : Nat), cells' ≤ cells + 8 → slots' ≤ slots + 48 → lv_has ls 9 (zLs g b i) → sw_Wd g o d M s H locs → N M o d → W p l e room_1 s m #[Value.ref b] below meth c H locs cells' slots' Q (F0 m 2873 ls [])) : W p l e room_1 s m #[Value.ref b] below meth c H locs cells slots Q (F0 m 1845 ls []) := by
  obtain ⟨hx, hb, hml, hown, hts, hX, hbl, hbA, hst⟩ := Z
  unfold wcase_27 at h
  refine lv_aload_n hx hb dL_law_1845 rfl (lv_at hl 2 rfl) ?_
  refine sw_ki (rest := []) (sw_runV (As := []) (rest := []) hx hb hml hown hts (kX6_planSize l g o d M _ h) cv_X6_planSize q_316 rfl rfl ⟨(Nat.le_of_ble_eq_true rfl), (Nat.le_of_ble_eq_true rfl)⟩ hW (Nat.le_of_ble_eq_true rfl) sl_0 rfl rfl hl.1 rfl (Nat.le_of_ble_eq_true rfl) dL_law_1846 ⟨by show _ ≤ 603072; omega, by show _ ≤ 7211114; omega⟩) hW (fun r1 M2 H locs h hW => ?_)
  refine lv_aload_n hx hb dL_law_1849 rfl (lv_at hl 3 rfl) ?_
  refine sw_ki (rest := [.int r1]) (sw_runV (As := []) (rest := [.int r1]) hx hb hml hown hts (kX7_planSize l g o d M2 _ h) cv_X7_planSize q_1206 rfl rfl ⟨(Nat.le_of_ble_eq_true rfl), (Nat.le_of_ble_eq_true rfl)⟩ hW (Nat.le_of_ble_eq_true rfl) sl_33 rfl rfl hl.1 rfl (Nat.le_of_ble_eq_true rfl) dL_law_1850 ⟨by show _ ≤ 603072; omega, by show _ ≤ 7211114; omega⟩) hW (fun r3 M4 H locs h hW => ?_)
  refine lv_icmp_eq (tgt := 2873) hx hb dL_law_1853 (by decide) (fun k5 => ?_) (fun k5 => ?_)
  · have h := h.1 k5
    exact nx M4 o d _ _ _ _ _ (by omega) (by omega) (lv_sub hl [0, 1, 2, 3, 4, 5] rfl) hW h
  · have h := h.2 k5
    refine lv_iconst (v := 0) hx hb dL_law_1856 (by decide) ?_
    exact h.elim
def wcase_28 (L : Nat) (xs : Nat → Int32) (i : Int32) (M : sM) (o : sO) (d : sE) (N : sM → sO → sE → Prop) : Prop :=
  wX6_planSizeBySets M (fun r1 M2 => wX7_planSizeBySets M2 (fun r3 M4 => (r1 = r3 → (N M4 o d)) ∧ (¬ r1 = r3 → (False))))
set_option maxRecDepth 20000 in
theorem kcase_28 {p : Program} {l : Launch} {e : Env} {s : State} {m : MethodId} {below : List Frame} {meth : Method} {c : Code} {H : Heap} {locs : List Loc} {cells slots : Nat} {Q : State → Prop} {ls : Array Slot} {g : sG} {b L : Nat} {xs : Nat → Int32} (Z : zLw p l s m meth c b L xs g) {i : Int32} {M : sM} {o : sO} {d : sE} {N : sM → sO → sE → Prop} (hl : lv_has ls 9 (zLs g b i)) (hW : sw_Wd g o d M s H locs) (hc : cells + 8 ≤ 603072) (hs : slots + 48 ≤ 7211114) (h : wcase_28 L xs i M o d N)
    (nx : ∀ (M : sM) (o : sO) (d : sE) (H : Heap) (locs : List Loc) (ls : Array Slot) (cells' slots' : Nat), cells' ≤ cells + 8 → slots' ≤ slots + 48 → lv_has ls 9 (zLs g b i) → sw_Wd g o d M s H locs → N M o d → W p l e room_1 s m #[Value.ref b] below meth c H locs cells' slots' Q (F0 m 2873 ls [])) : W p l e room_1 s m #[Value.ref b] below meth c H locs cells slots Q (F0 m 1858 ls []) := by
  obtain ⟨hx, hb, hml, hown, hts, hX, hbl, hbA, hst⟩ := Z
  unfold wcase_28 at h
  refine lv_aload_n hx hb dL_law_1858 rfl (lv_at hl 2 rfl) ?_
  refine sw_ki (rest := []) (sw_runV (As := []) (rest := []) hx hb hml hown hts (kX6_planSizeBySets l g o d M _ h) cv_X6_planSizeBySets q_324 rfl rfl ⟨(Nat.le_of_ble_eq_true rfl), (Nat.le_of_ble_eq_true rfl)⟩ hW (Nat.le_of_ble_eq_true rfl) sl_0 rfl rfl hl.1 rfl (Nat.le_of_ble_eq_true rfl) dL_law_1859 ⟨by show _ ≤ 603072; omega, by show _ ≤ 7211114; omega⟩) hW (fun r1 M2 H locs h hW => ?_)
  refine lv_aload_n hx hb dL_law_1862 rfl (lv_at hl 3 rfl) ?_
  refine sw_ki (rest := [.int r1]) (sw_runV (As := []) (rest := [.int r1]) hx hb hml hown hts (kX7_planSizeBySets l g o d M2 _ h) cv_X7_planSizeBySets q_1210 rfl rfl ⟨(Nat.le_of_ble_eq_true rfl), (Nat.le_of_ble_eq_true rfl)⟩ hW (Nat.le_of_ble_eq_true rfl) sl_33 rfl rfl hl.1 rfl (Nat.le_of_ble_eq_true rfl) dL_law_1863 ⟨by show _ ≤ 603072; omega, by show _ ≤ 7211114; omega⟩) hW (fun r3 M4 H locs h hW => ?_)
  refine lv_icmp_eq (tgt := 2873) hx hb dL_law_1866 (by decide) (fun k5 => ?_) (fun k5 => ?_)
  · have h := h.1 k5
    exact nx M4 o d _ _ _ _ _ (by omega) (by omega) (lv_sub hl [0, 1, 2, 3, 4, 5] rfl) hW h
  · have h := h.2 k5
    refine lv_iconst (v := 0) hx hb dL_law_1869 (by decide) ?_
    exact h.elim
def wcase_29 (L : Nat) (xs : Nat → Int32) (i : Int32) (M : sM) (o : sO) (d : sE) (N : sM → sO → sE → Prop) : Prop :=
  vp_in (i + (1 : Int32)) L ∧ (wL_plannedExaminer (xs ((i + (1 : Int32))).toNatClampNeg) M o d (fun r2 M3 o4 d5 => vp_in (i + (1 : Int32)) L ∧ (wX7_plannedExaminer (xs ((i + (1 : Int32))).toNatClampNeg) M3 (fun r7 M8 => wX7_thrown M8 (fun r9 => (r9 = r2 → ((r2 = 0 → (((lg_cmp (o4 ((0 : Int32)).toNatClampNeg) (r7).toInt64) = 0 → (N M8 o4 d5)) ∧ (¬ (lg_cmp (o4 ((0 : Int32)).toNatClampNeg) (r7).toInt64) = 0 → (False)))) ∧ (¬ r2 = 0 → (N M8 o4 d5)))) ∧ (¬ r9 = r2 → (False)))))))
set_option maxRecDepth 20000 in
theorem kcase_29 {p : Program} {l : Launch} {e : Env} {s : State} {m : MethodId} {below : List Frame} {meth : Method} {c : Code} {H : Heap} {locs : List Loc} {cells slots : Nat} {Q : State → Prop} {ls : Array Slot} {g : sG} {b L : Nat} {xs : Nat → Int32} (Z : zLw p l s m meth c b L xs g) {i : Int32} {M : sM} {o : sO} {d : sE} {N : sM → sO → sE → Prop} (hl : lv_has ls 9 (zLs g b i)) (hW : sw_Wd g o d M s H locs) (hc : cells + 8 ≤ 603072) (hs : slots + 48 ≤ 7211114) (h : wcase_29 L xs i M o d N)
    (nx : ∀ (M : sM) (o : sO) (d : sE) (H : Heap) (locs : List Loc) (ls : Array Slot) (cells' slots' : Nat), cells' ≤ cells + 8 → slots' ≤ slots + 48 → lv_has ls 9 (zLs g b i) → sw_Wd g o d M s H locs → N M o d → W p l e room_1 s m #[Value.ref b] below meth c H locs cells' slots' Q (F0 m 2873 ls [])) : W p l e room_1 s m #[Value.ref b] below meth c H locs cells slots Q (F0 m 1871 ls []) := by
  obtain ⟨hx, hb, hml, hown, hts, hX, hbl, hbA, hst⟩ := Z
  unfold wcase_29 at h
  refine lv_aload_n hx hb dL_law_1871 rfl (lv_at hl 2 rfl) ?_
  refine lv_aload_n hx hb dL_law_1872 rfl (lv_at hl 1 rfl) ?_
  refine lv_iload hx hb dL_law_1873 (lv_at hl 0 rfl) ?_
  refine lv_iconst (v := 1) hx hb dL_law_1875 (by decide) ?_
  refine lv_iadd hx hb dL_law_1876 ?_
  have b1 := h.1
  have h := h.2
  refine va_sld hx hb hX hbl hbA hW.2.1 b1 dL_law_1877 ?_
  refine lv_aload_n hx hb dL_law_1878 rfl (lv_at hl 4 rfl) ?_
  refine sw_k3 (rest := []) (sw_runH (As := [.ref (sw_ad g 0), .int (xs ((i + (1 : Int32))).toNatClampNeg), .ref (sw_ad g 233)]) (rest := []) hx hb hml hown hts (kL_plannedExaminer l hst g (xs ((i + (1 : Int32))).toNatClampNeg) M o d _ h) ch_L_plannedExaminer q_692 rfl rfl ⟨(Nat.le_of_ble_eq_true rfl), (Nat.le_of_ble_eq_true rfl)⟩ hW rfl hl.1 rfl (Nat.le_of_ble_eq_true rfl) dL_law_1879 ⟨by show _ ≤ 603072; omega, by show _ ≤ 7211114; omega⟩) hW (fun r2 M3 o4 d5 H locs h hW => ?_)
  refine lv_istore (lv' := [(6, .int r2), (5, .int i), (0, .ref b), (1, .ref (sw_ad g 0)), (2, .ref (sw_ad g 33)), (3, .ref (sw_ad g 233)), (4, .ref (sw_ad g 234))]) hx hb dL_law_1882 hl (Nat.le_of_ble_eq_true rfl) rfl (fun ls hl => ?_)
  refine lv_aload_n hx hb dL_law_1884 rfl (lv_at hl 4 rfl) ?_
  refine lv_aload_n hx hb dL_law_1885 rfl (lv_at hl 2 rfl) ?_
  refine lv_iload hx hb dL_law_1886 (lv_at hl 1 rfl) ?_
  refine lv_iconst (v := 1) hx hb dL_law_1888 (by decide) ?_
  refine lv_iadd hx hb dL_law_1889 ?_
  have b6 := h.1
  have h := h.2
  refine va_sld hx hb hX hbl hbA hW.2.1 b6 dL_law_1890 ?_
  refine sw_ki (rest := []) (sw_runV (As := [.int (xs ((i + (1 : Int32))).toNatClampNeg)]) (rest := []) hx hb hml hown hts (kX7_plannedExaminer l g o4 d5 (xs ((i + (1 : Int32))).toNatClampNeg) M3 _ h) cv_X7_plannedExaminer q_1215 rfl rfl ⟨(Nat.le_of_ble_eq_true rfl), (Nat.le_of_ble_eq_true rfl)⟩ hW (Nat.le_of_ble_eq_true rfl) sl_33 rfl rfl hl.1 rfl (Nat.le_of_ble_eq_true rfl) dL_law_1891 ⟨by show _ ≤ 603072; omega, by show _ ≤ 7211114; omega⟩) hW (fun r7 M8 H locs h hW => ?_)
  refine lv_istore (lv' := [(7, .int r7), (6, .int r2), (5, .int i), (0, .ref b), (1, .ref (sw_ad g 0)), (2, .ref (sw_ad g 33)), (3, .ref (sw_ad g 233)), (4, .ref (sw_ad g 234))]) hx hb dL_law_1894 hl (Nat.le_of_ble_eq_true rfl) rfl (fun ls hl => ?_)
  refine lv_aload_n hx hb dL_law_1896 rfl (lv_at hl 5 rfl) ?_
  refine sw_ki (rest := []) (sw_runV (As := []) (rest := []) hx hb hml hown hts (kX7_thrown l g o4 d5 M8 _ h) cv_X7_thrown q_966 rfl rfl ⟨(Nat.le_of_ble_eq_true rfl), (Nat.le_of_ble_eq_true rfl)⟩ hW (Nat.le_of_ble_eq_true rfl) sl_33 rfl rfl hl.1 rfl (Nat.le_of_ble_eq_true rfl) dL_law_1897 ⟨by show _ ≤ 603072; omega, by show _ ≤ 7211114; omega⟩) hW (fun r9 M13 H locs h hW => ?_)
  obtain ⟨h, eM13⟩ := h
  rw [eM13] at hW
  refine lv_iload hx hb dL_law_1900 (lv_at hl 1 rfl) ?_
  refine lv_icmp_eq (tgt := 1907) hx hb dL_law_1902 (by decide) (fun k10 => ?_) (fun k10 => ?_)
  · have h := h.1 k10
    refine lv_iload hx hb dL_law_1907 (lv_at hl 1 rfl) ?_
    refine lv_if_ne (tgt := 1924) hx hb dL_law_1909 (by decide) (fun k11 => ?_) (fun k11 => ?_)
    · have h := h.2 k11
      refine lv_goto (tgt := 2873) hx hb dL_law_1924 (by decide) ?_
      exact nx M8 o4 d5 _ _ _ _ _ (by omega) (by omega) (lv_sub hl [2, 3, 4, 5, 6, 7] rfl) hW h
    · have h := h.1 k11
      refine lv_aload_n hx hb dL_law_1912 rfl (lv_at hl 6 rfl) ?_
      refine lv_iconst (v := 0) hx hb dL_law_1913 (by decide) ?_
      refine sw_ll hx hb hW (vp_in_iff.mpr (by decide)) dL_law_1914 ?_
      refine lv_iload hx hb dL_law_1915 (lv_at hl 0 rfl) ?_
      refine lv_i2l hx hb dL_law_1917 rfl ?_
      refine W.lcmp hx hb dL_law_1918 ?_
      refine lv_if_eq (tgt := 1924) hx hb dL_law_1919 (by decide) (fun k12 => ?_) (fun k12 => ?_)
      · have h := h.1 k12
        refine lv_goto (tgt := 2873) hx hb dL_law_1924 (by decide) ?_
        exact nx M8 o4 d5 _ _ _ _ _ (by omega) (by omega) (lv_sub hl [2, 3, 4, 5, 6, 7] rfl) hW h
      · have h := h.2 k12
        refine lv_iconst (v := 0) hx hb dL_law_1922 (by decide) ?_
        exact h.elim
  · have h := h.2 k10
    refine lv_iconst (v := 0) hx hb dL_law_1905 (by decide) ?_
    exact h.elim
def wcase_30 (L : Nat) (xs : Nat → Int32) (i : Int32) (M : sM) (o : sO) (d : sE) (N : sM → sO → sE → Prop) : Prop :=
  vp_in (i + (1 : Int32)) L ∧ (wL_panelCount (xs ((i + (1 : Int32))).toNatClampNeg) M o d (fun r2 M3 o4 d5 => vp_in (i + (1 : Int32)) L ∧ (wX7_panelCount (xs ((i + (1 : Int32))).toNatClampNeg) M3 (fun r7 M8 => wX7_thrown M8 (fun r9 => (r9 = r2 → ((r2 = 0 → (((lg_cmp (o4 ((0 : Int32)).toNatClampNeg) (r7).toInt64) = 0 → (N M8 o4 d5)) ∧ (¬ (lg_cmp (o4 ((0 : Int32)).toNatClampNeg) (r7).toInt64) = 0 → (False)))) ∧ (¬ r2 = 0 → (N M8 o4 d5)))) ∧ (¬ r9 = r2 → (False)))))))
set_option maxRecDepth 20000 in
theorem kcase_30 {p : Program} {l : Launch} {e : Env} {s : State} {m : MethodId} {below : List Frame} {meth : Method} {c : Code} {H : Heap} {locs : List Loc} {cells slots : Nat} {Q : State → Prop} {ls : Array Slot} {g : sG} {b L : Nat} {xs : Nat → Int32} (Z : zLw p l s m meth c b L xs g) {i : Int32} {M : sM} {o : sO} {d : sE} {N : sM → sO → sE → Prop} (hl : lv_has ls 9 (zLs g b i)) (hW : sw_Wd g o d M s H locs) (hc : cells + 8 ≤ 603072) (hs : slots + 48 ≤ 7211114) (h : wcase_30 L xs i M o d N)
    (nx : ∀ (M : sM) (o : sO) (d : sE) (H : Heap) (locs : List Loc) (ls : Array Slot) (cells' slots' : Nat), cells' ≤ cells + 8 → slots' ≤ slots + 48 → lv_has ls 9 (zLs g b i) → sw_Wd g o d M s H locs → N M o d → W p l e room_1 s m #[Value.ref b] below meth c H locs cells' slots' Q (F0 m 2873 ls [])) : W p l e room_1 s m #[Value.ref b] below meth c H locs cells slots Q (F0 m 1927 ls []) := by
  obtain ⟨hx, hb, hml, hown, hts, hX, hbl, hbA, hst⟩ := Z
  unfold wcase_30 at h
  refine lv_aload_n hx hb dL_law_1927 rfl (lv_at hl 2 rfl) ?_
  refine lv_aload_n hx hb dL_law_1928 rfl (lv_at hl 1 rfl) ?_
  refine lv_iload hx hb dL_law_1929 (lv_at hl 0 rfl) ?_
  refine lv_iconst (v := 1) hx hb dL_law_1931 (by decide) ?_
  refine lv_iadd hx hb dL_law_1932 ?_
  have b1 := h.1
  have h := h.2
  refine va_sld hx hb hX hbl hbA hW.2.1 b1 dL_law_1933 ?_
  refine lv_aload_n hx hb dL_law_1934 rfl (lv_at hl 4 rfl) ?_
  refine sw_k3 (rest := []) (sw_runH (As := [.ref (sw_ad g 0), .int (xs ((i + (1 : Int32))).toNatClampNeg), .ref (sw_ad g 233)]) (rest := []) hx hb hml hown hts (kL_panelCount l hst g (xs ((i + (1 : Int32))).toNatClampNeg) M o d _ h) ch_L_panelCount q_698 rfl rfl ⟨(Nat.le_of_ble_eq_true rfl), (Nat.le_of_ble_eq_true rfl)⟩ hW rfl hl.1 rfl (Nat.le_of_ble_eq_true rfl) dL_law_1935 ⟨by show _ ≤ 603072; omega, by show _ ≤ 7211114; omega⟩) hW (fun r2 M3 o4 d5 H locs h hW => ?_)
  refine lv_istore (lv' := [(6, .int r2), (5, .int i), (0, .ref b), (1, .ref (sw_ad g 0)), (2, .ref (sw_ad g 33)), (3, .ref (sw_ad g 233)), (4, .ref (sw_ad g 234))]) hx hb dL_law_1938 hl (Nat.le_of_ble_eq_true rfl) rfl (fun ls hl => ?_)
  refine lv_aload_n hx hb dL_law_1940 rfl (lv_at hl 4 rfl) ?_
  refine lv_aload_n hx hb dL_law_1941 rfl (lv_at hl 2 rfl) ?_
  refine lv_iload hx hb dL_law_1942 (lv_at hl 1 rfl) ?_
  refine lv_iconst (v := 1) hx hb dL_law_1944 (by decide) ?_
  refine lv_iadd hx hb dL_law_1945 ?_
  have b6 := h.1
  have h := h.2
  refine va_sld hx hb hX hbl hbA hW.2.1 b6 dL_law_1946 ?_
  refine sw_ki (rest := []) (sw_runV (As := [.int (xs ((i + (1 : Int32))).toNatClampNeg)]) (rest := []) hx hb hml hown hts (kX7_panelCount l g o4 d5 (xs ((i + (1 : Int32))).toNatClampNeg) M3 _ h) cv_X7_panelCount q_1219 rfl rfl ⟨(Nat.le_of_ble_eq_true rfl), (Nat.le_of_ble_eq_true rfl)⟩ hW (Nat.le_of_ble_eq_true rfl) sl_33 rfl rfl hl.1 rfl (Nat.le_of_ble_eq_true rfl) dL_law_1947 ⟨by show _ ≤ 603072; omega, by show _ ≤ 7211114; omega⟩) hW (fun r7 M8 H locs h hW => ?_)
  refine lv_istore (lv' := [(7, .int r7), (6, .int r2), (5, .int i), (0, .ref b), (1, .ref (sw_ad g 0)), (2, .ref (sw_ad g 33)), (3, .ref (sw_ad g 233)), (4, .ref (sw_ad g 234))]) hx hb dL_law_1950 hl (Nat.le_of_ble_eq_true rfl) rfl (fun ls hl => ?_)
  refine lv_aload_n hx hb dL_law_1952 rfl (lv_at hl 5 rfl) ?_
  refine sw_ki (rest := []) (sw_runV (As := []) (rest := []) hx hb hml hown hts (kX7_thrown l g o4 d5 M8 _ h) cv_X7_thrown q_966 rfl rfl ⟨(Nat.le_of_ble_eq_true rfl), (Nat.le_of_ble_eq_true rfl)⟩ hW (Nat.le_of_ble_eq_true rfl) sl_33 rfl rfl hl.1 rfl (Nat.le_of_ble_eq_true rfl) dL_law_1953 ⟨by show _ ≤ 603072; omega, by show _ ≤ 7211114; omega⟩) hW (fun r9 M13 H locs h hW => ?_)
  obtain ⟨h, eM13⟩ := h
  rw [eM13] at hW
  refine lv_iload hx hb dL_law_1956 (lv_at hl 1 rfl) ?_
  refine lv_icmp_eq (tgt := 1963) hx hb dL_law_1958 (by decide) (fun k10 => ?_) (fun k10 => ?_)
  · have h := h.1 k10
    refine lv_iload hx hb dL_law_1963 (lv_at hl 1 rfl) ?_
    refine lv_if_ne (tgt := 1980) hx hb dL_law_1965 (by decide) (fun k11 => ?_) (fun k11 => ?_)
    · have h := h.2 k11
      refine lv_goto (tgt := 2873) hx hb dL_law_1980 (by decide) ?_
      exact nx M8 o4 d5 _ _ _ _ _ (by omega) (by omega) (lv_sub hl [2, 3, 4, 5, 6, 7] rfl) hW h
    · have h := h.1 k11
      refine lv_aload_n hx hb dL_law_1968 rfl (lv_at hl 6 rfl) ?_
      refine lv_iconst (v := 0) hx hb dL_law_1969 (by decide) ?_
      refine sw_ll hx hb hW (vp_in_iff.mpr (by decide)) dL_law_1970 ?_
      refine lv_iload hx hb dL_law_1971 (lv_at hl 0 rfl) ?_
      refine lv_i2l hx hb dL_law_1973 rfl ?_
      refine W.lcmp hx hb dL_law_1974 ?_
      refine lv_if_eq (tgt := 1980) hx hb dL_law_1975 (by decide) (fun k12 => ?_) (fun k12 => ?_)
      · have h := h.1 k12
        refine lv_goto (tgt := 2873) hx hb dL_law_1980 (by decide) ?_
        exact nx M8 o4 d5 _ _ _ _ _ (by omega) (by omega) (lv_sub hl [2, 3, 4, 5, 6, 7] rfl) hW h
      · have h := h.2 k12
        refine lv_iconst (v := 0) hx hb dL_law_1978 (by decide) ?_
        exact h.elim
  · have h := h.2 k10
    refine lv_iconst (v := 0) hx hb dL_law_1961 (by decide) ?_
    exact h.elim
def wcase_31 (L : Nat) (xs : Nat → Int32) (i : Int32) (M : sM) (o : sO) (d : sE) (N : sM → sO → sE → Prop) : Prop :=
  vp_in (i + (1 : Int32)) L ∧ (wL_panelCountByFrames (xs ((i + (1 : Int32))).toNatClampNeg) M o d (fun r2 M3 o4 d5 => vp_in (i + (1 : Int32)) L ∧ (wX7_panelCountByFrames (xs ((i + (1 : Int32))).toNatClampNeg) M3 (fun r7 M8 => wX7_thrown M8 (fun r9 => (r9 = r2 → ((r2 = 0 → (((lg_cmp (o4 ((0 : Int32)).toNatClampNeg) (r7).toInt64) = 0 → (N M8 o4 d5)) ∧ (¬ (lg_cmp (o4 ((0 : Int32)).toNatClampNeg) (r7).toInt64) = 0 → (False)))) ∧ (¬ r2 = 0 → (N M8 o4 d5)))) ∧ (¬ r9 = r2 → (False)))))))
set_option maxRecDepth 20000 in
theorem kcase_31 {p : Program} {l : Launch} {e : Env} {s : State} {m : MethodId} {below : List Frame} {meth : Method} {c : Code} {H : Heap} {locs : List Loc} {cells slots : Nat} {Q : State → Prop} {ls : Array Slot} {g : sG} {b L : Nat} {xs : Nat → Int32} (Z : zLw p l s m meth c b L xs g) {i : Int32} {M : sM} {o : sO} {d : sE} {N : sM → sO → sE → Prop} (hl : lv_has ls 9 (zLs g b i)) (hW : sw_Wd g o d M s H locs) (hc : cells + 8 ≤ 603072) (hs : slots + 48 ≤ 7211114) (h : wcase_31 L xs i M o d N)
    (nx : ∀ (M : sM) (o : sO) (d : sE) (H : Heap) (locs : List Loc) (ls : Array Slot) (cells' slots' : Nat), cells' ≤ cells + 8 → slots' ≤ slots + 48 → lv_has ls 9 (zLs g b i) → sw_Wd g o d M s H locs → N M o d → W p l e room_1 s m #[Value.ref b] below meth c H locs cells' slots' Q (F0 m 2873 ls [])) : W p l e room_1 s m #[Value.ref b] below meth c H locs cells slots Q (F0 m 1983 ls []) := by
  obtain ⟨hx, hb, hml, hown, hts, hX, hbl, hbA, hst⟩ := Z
  unfold wcase_31 at h
  refine lv_aload_n hx hb dL_law_1983 rfl (lv_at hl 2 rfl) ?_
  refine lv_aload_n hx hb dL_law_1984 rfl (lv_at hl 1 rfl) ?_
  refine lv_iload hx hb dL_law_1985 (lv_at hl 0 rfl) ?_
  refine lv_iconst (v := 1) hx hb dL_law_1987 (by decide) ?_
  refine lv_iadd hx hb dL_law_1988 ?_
  have b1 := h.1
  have h := h.2
  refine va_sld hx hb hX hbl hbA hW.2.1 b1 dL_law_1989 ?_
  refine lv_aload_n hx hb dL_law_1990 rfl (lv_at hl 4 rfl) ?_
  refine sw_k3 (rest := []) (sw_runH (As := [.ref (sw_ad g 0), .int (xs ((i + (1 : Int32))).toNatClampNeg), .ref (sw_ad g 233)]) (rest := []) hx hb hml hown hts (kL_panelCountByFrames l hst g (xs ((i + (1 : Int32))).toNatClampNeg) M o d _ h) ch_L_panelCountByFrames q_704 rfl rfl ⟨(Nat.le_of_ble_eq_true rfl), (Nat.le_of_ble_eq_true rfl)⟩ hW rfl hl.1 rfl (Nat.le_of_ble_eq_true rfl) dL_law_1991 ⟨by show _ ≤ 603072; omega, by show _ ≤ 7211114; omega⟩) hW (fun r2 M3 o4 d5 H locs h hW => ?_)
  refine lv_istore (lv' := [(6, .int r2), (5, .int i), (0, .ref b), (1, .ref (sw_ad g 0)), (2, .ref (sw_ad g 33)), (3, .ref (sw_ad g 233)), (4, .ref (sw_ad g 234))]) hx hb dL_law_1994 hl (Nat.le_of_ble_eq_true rfl) rfl (fun ls hl => ?_)
  refine lv_aload_n hx hb dL_law_1996 rfl (lv_at hl 4 rfl) ?_
  refine lv_aload_n hx hb dL_law_1997 rfl (lv_at hl 2 rfl) ?_
  refine lv_iload hx hb dL_law_1998 (lv_at hl 1 rfl) ?_
  refine lv_iconst (v := 1) hx hb dL_law_2000 (by decide) ?_
  refine lv_iadd hx hb dL_law_2001 ?_
  have b6 := h.1
  have h := h.2
  refine va_sld hx hb hX hbl hbA hW.2.1 b6 dL_law_2002 ?_
  refine sw_ki (rest := []) (sw_runV (As := [.int (xs ((i + (1 : Int32))).toNatClampNeg)]) (rest := []) hx hb hml hown hts (kX7_panelCountByFrames l g o4 d5 (xs ((i + (1 : Int32))).toNatClampNeg) M3 _ h) cv_X7_panelCountByFrames q_1223 rfl rfl ⟨(Nat.le_of_ble_eq_true rfl), (Nat.le_of_ble_eq_true rfl)⟩ hW (Nat.le_of_ble_eq_true rfl) sl_33 rfl rfl hl.1 rfl (Nat.le_of_ble_eq_true rfl) dL_law_2003 ⟨by show _ ≤ 603072; omega, by show _ ≤ 7211114; omega⟩) hW (fun r7 M8 H locs h hW => ?_)
  refine lv_istore (lv' := [(7, .int r7), (6, .int r2), (5, .int i), (0, .ref b), (1, .ref (sw_ad g 0)), (2, .ref (sw_ad g 33)), (3, .ref (sw_ad g 233)), (4, .ref (sw_ad g 234))]) hx hb dL_law_2006 hl (Nat.le_of_ble_eq_true rfl) rfl (fun ls hl => ?_)
  refine lv_aload_n hx hb dL_law_2008 rfl (lv_at hl 5 rfl) ?_
  refine sw_ki (rest := []) (sw_runV (As := []) (rest := []) hx hb hml hown hts (kX7_thrown l g o4 d5 M8 _ h) cv_X7_thrown q_966 rfl rfl ⟨(Nat.le_of_ble_eq_true rfl), (Nat.le_of_ble_eq_true rfl)⟩ hW (Nat.le_of_ble_eq_true rfl) sl_33 rfl rfl hl.1 rfl (Nat.le_of_ble_eq_true rfl) dL_law_2009 ⟨by show _ ≤ 603072; omega, by show _ ≤ 7211114; omega⟩) hW (fun r9 M13 H locs h hW => ?_)
  obtain ⟨h, eM13⟩ := h
  rw [eM13] at hW
  refine lv_iload hx hb dL_law_2012 (lv_at hl 1 rfl) ?_
  refine lv_icmp_eq (tgt := 2019) hx hb dL_law_2014 (by decide) (fun k10 => ?_) (fun k10 => ?_)
  · have h := h.1 k10
    refine lv_iload hx hb dL_law_2019 (lv_at hl 1 rfl) ?_
    refine lv_if_ne (tgt := 2036) hx hb dL_law_2021 (by decide) (fun k11 => ?_) (fun k11 => ?_)
    · have h := h.2 k11
      refine lv_goto (tgt := 2873) hx hb dL_law_2036 (by decide) ?_
      exact nx M8 o4 d5 _ _ _ _ _ (by omega) (by omega) (lv_sub hl [2, 3, 4, 5, 6, 7] rfl) hW h
    · have h := h.1 k11
      refine lv_aload_n hx hb dL_law_2024 rfl (lv_at hl 6 rfl) ?_
      refine lv_iconst (v := 0) hx hb dL_law_2025 (by decide) ?_
      refine sw_ll hx hb hW (vp_in_iff.mpr (by decide)) dL_law_2026 ?_
      refine lv_iload hx hb dL_law_2027 (lv_at hl 0 rfl) ?_
      refine lv_i2l hx hb dL_law_2029 rfl ?_
      refine W.lcmp hx hb dL_law_2030 ?_
      refine lv_if_eq (tgt := 2036) hx hb dL_law_2031 (by decide) (fun k12 => ?_) (fun k12 => ?_)
      · have h := h.1 k12
        refine lv_goto (tgt := 2873) hx hb dL_law_2036 (by decide) ?_
        exact nx M8 o4 d5 _ _ _ _ _ (by omega) (by omega) (lv_sub hl [2, 3, 4, 5, 6, 7] rfl) hW h
      · have h := h.2 k12
        refine lv_iconst (v := 0) hx hb dL_law_2034 (by decide) ?_
        exact h.elim
  · have h := h.2 k10
    refine lv_iconst (v := 0) hx hb dL_law_2017 (by decide) ?_
    exact h.elim
def wcase_32 (L : Nat) (xs : Nat → Int32) (i : Int32) (M : sM) (o : sO) (d : sE) (N : sM → sO → sE → Prop) : Prop :=
  vp_in (i + (1 : Int32)) L ∧ (vp_in (i + (2 : Int32)) L ∧ (wL_panelMember (xs ((i + (1 : Int32))).toNatClampNeg) (xs ((i + (2 : Int32))).toNatClampNeg) M o d (fun r3 M4 o5 d6 => vp_in (i + (1 : Int32)) L ∧ (vp_in (i + (2 : Int32)) L ∧ (wX7_panelMember (xs ((i + (1 : Int32))).toNatClampNeg) (xs ((i + (2 : Int32))).toNatClampNeg) M4 (fun r9 M10 => wX7_thrown M10 (fun r11 => (r11 = r3 → ((r3 = 0 → (((lg_cmp (o5 ((0 : Int32)).toNatClampNeg) (r9).toInt64) = 0 → (N M10 o5 d6)) ∧ (¬ (lg_cmp (o5 ((0 : Int32)).toNatClampNeg) (r9).toInt64) = 0 → (False)))) ∧ (¬ r3 = 0 → (N M10 o5 d6)))) ∧ (¬ r11 = r3 → (False)))))))))
set_option maxRecDepth 20000 in
theorem kcase_32 {p : Program} {l : Launch} {e : Env} {s : State} {m : MethodId} {below : List Frame} {meth : Method} {c : Code} {H : Heap} {locs : List Loc} {cells slots : Nat} {Q : State → Prop} {ls : Array Slot} {g : sG} {b L : Nat} {xs : Nat → Int32} (Z : zLw p l s m meth c b L xs g) {i : Int32} {M : sM} {o : sO} {d : sE} {N : sM → sO → sE → Prop} (hl : lv_has ls 9 (zLs g b i)) (hW : sw_Wd g o d M s H locs) (hc : cells + 8 ≤ 603072) (hs : slots + 48 ≤ 7211114) (h : wcase_32 L xs i M o d N)
    (nx : ∀ (M : sM) (o : sO) (d : sE) (H : Heap) (locs : List Loc) (ls : Array Slot) (cells' slots' : Nat), cells' ≤ cells + 8 → slots' ≤ slots + 48 → lv_has ls 9 (zLs g b i) → sw_Wd g o d M s H locs → N M o d → W p l e room_1 s m #[Value.ref b] below meth c H locs cells' slots' Q (F0 m 2873 ls [])) : W p l e room_1 s m #[Value.ref b] below meth c H locs cells slots Q (F0 m 2039 ls []) := by
  obtain ⟨hx, hb, hml, hown, hts, hX, hbl, hbA, hst⟩ := Z
  unfold wcase_32 at h
  refine lv_aload_n hx hb dL_law_2039 rfl (lv_at hl 2 rfl) ?_
  refine lv_aload_n hx hb dL_law_2040 rfl (lv_at hl 1 rfl) ?_
  refine lv_iload hx hb dL_law_2041 (lv_at hl 0 rfl) ?_
  refine lv_iconst (v := 1) hx hb dL_law_2043 (by decide) ?_
  refine lv_iadd hx hb dL_law_2044 ?_
  have b1 := h.1
  have h := h.2
  refine va_sld hx hb hX hbl hbA hW.2.1 b1 dL_law_2045 ?_
  refine lv_aload_n hx hb dL_law_2046 rfl (lv_at hl 1 rfl) ?_
  refine lv_iload hx hb dL_law_2047 (lv_at hl 0 rfl) ?_
  refine lv_iconst (v := 2) hx hb dL_law_2049 (by decide) ?_
  refine lv_iadd hx hb dL_law_2050 ?_
  have b2 := h.1
  have h := h.2
  refine va_sld hx hb hX hbl hbA hW.2.1 b2 dL_law_2051 ?_
  refine lv_aload_n hx hb dL_law_2052 rfl (lv_at hl 4 rfl) ?_
  refine sw_k3 (rest := []) (sw_runH (As := [.ref (sw_ad g 0), .int (xs ((i + (1 : Int32))).toNatClampNeg), .int (xs ((i + (2 : Int32))).toNatClampNeg), .ref (sw_ad g 233)]) (rest := []) hx hb hml hown hts (kL_panelMember l hst g (xs ((i + (1 : Int32))).toNatClampNeg) (xs ((i + (2 : Int32))).toNatClampNeg) M o d _ h) ch_L_panelMember q_710 rfl rfl ⟨(Nat.le_of_ble_eq_true rfl), (Nat.le_of_ble_eq_true rfl)⟩ hW rfl hl.1 rfl (Nat.le_of_ble_eq_true rfl) dL_law_2053 ⟨by show _ ≤ 603072; omega, by show _ ≤ 7211114; omega⟩) hW (fun r3 M4 o5 d6 H locs h hW => ?_)
  refine lv_istore (lv' := [(6, .int r3), (5, .int i), (0, .ref b), (1, .ref (sw_ad g 0)), (2, .ref (sw_ad g 33)), (3, .ref (sw_ad g 233)), (4, .ref (sw_ad g 234))]) hx hb dL_law_2056 hl (Nat.le_of_ble_eq_true rfl) rfl (fun ls hl => ?_)
  refine lv_aload_n hx hb dL_law_2058 rfl (lv_at hl 4 rfl) ?_
  refine lv_aload_n hx hb dL_law_2059 rfl (lv_at hl 2 rfl) ?_
  refine lv_iload hx hb dL_law_2060 (lv_at hl 1 rfl) ?_
  refine lv_iconst (v := 1) hx hb dL_law_2062 (by decide) ?_
  refine lv_iadd hx hb dL_law_2063 ?_
  have b7 := h.1
  have h := h.2
  refine va_sld hx hb hX hbl hbA hW.2.1 b7 dL_law_2064 ?_
  refine lv_aload_n hx hb dL_law_2065 rfl (lv_at hl 2 rfl) ?_
  refine lv_iload hx hb dL_law_2066 (lv_at hl 1 rfl) ?_
  refine lv_iconst (v := 2) hx hb dL_law_2068 (by decide) ?_
  refine lv_iadd hx hb dL_law_2069 ?_
  have b8 := h.1
  have h := h.2
  refine va_sld hx hb hX hbl hbA hW.2.1 b8 dL_law_2070 ?_
  refine sw_ki (rest := []) (sw_runV (As := [.int (xs ((i + (1 : Int32))).toNatClampNeg), .int (xs ((i + (2 : Int32))).toNatClampNeg)]) (rest := []) hx hb hml hown hts (kX7_panelMember l g o5 d6 (xs ((i + (1 : Int32))).toNatClampNeg) (xs ((i + (2 : Int32))).toNatClampNeg) M4 _ h) cv_X7_panelMember q_1228 rfl rfl ⟨(Nat.le_of_ble_eq_true rfl), (Nat.le_of_ble_eq_true rfl)⟩ hW (Nat.le_of_ble_eq_true rfl) sl_33 rfl rfl hl.1 rfl (Nat.le_of_ble_eq_true rfl) dL_law_2071 ⟨by show _ ≤ 603072; omega, by show _ ≤ 7211114; omega⟩) hW (fun r9 M10 H locs h hW => ?_)
  refine lv_istore (lv' := [(7, .int r9), (6, .int r3), (5, .int i), (0, .ref b), (1, .ref (sw_ad g 0)), (2, .ref (sw_ad g 33)), (3, .ref (sw_ad g 233)), (4, .ref (sw_ad g 234))]) hx hb dL_law_2074 hl (Nat.le_of_ble_eq_true rfl) rfl (fun ls hl => ?_)
  refine lv_aload_n hx hb dL_law_2076 rfl (lv_at hl 5 rfl) ?_
  refine sw_ki (rest := []) (sw_runV (As := []) (rest := []) hx hb hml hown hts (kX7_thrown l g o5 d6 M10 _ h) cv_X7_thrown q_966 rfl rfl ⟨(Nat.le_of_ble_eq_true rfl), (Nat.le_of_ble_eq_true rfl)⟩ hW (Nat.le_of_ble_eq_true rfl) sl_33 rfl rfl hl.1 rfl (Nat.le_of_ble_eq_true rfl) dL_law_2077 ⟨by show _ ≤ 603072; omega, by show _ ≤ 7211114; omega⟩) hW (fun r11 M15 H locs h hW => ?_)
  obtain ⟨h, eM15⟩ := h
  rw [eM15] at hW
  refine lv_iload hx hb dL_law_2080 (lv_at hl 1 rfl) ?_
  refine lv_icmp_eq (tgt := 2087) hx hb dL_law_2082 (by decide) (fun k12 => ?_) (fun k12 => ?_)
  · have h := h.1 k12
    refine lv_iload hx hb dL_law_2087 (lv_at hl 1 rfl) ?_
    refine lv_if_ne (tgt := 2104) hx hb dL_law_2089 (by decide) (fun k13 => ?_) (fun k13 => ?_)
    · have h := h.2 k13
      refine lv_goto (tgt := 2873) hx hb dL_law_2104 (by decide) ?_
      exact nx M10 o5 d6 _ _ _ _ _ (by omega) (by omega) (lv_sub hl [2, 3, 4, 5, 6, 7] rfl) hW h
    · have h := h.1 k13
      refine lv_aload_n hx hb dL_law_2092 rfl (lv_at hl 6 rfl) ?_
      refine lv_iconst (v := 0) hx hb dL_law_2093 (by decide) ?_
      refine sw_ll hx hb hW (vp_in_iff.mpr (by decide)) dL_law_2094 ?_
      refine lv_iload hx hb dL_law_2095 (lv_at hl 0 rfl) ?_
      refine lv_i2l hx hb dL_law_2097 rfl ?_
      refine W.lcmp hx hb dL_law_2098 ?_
      refine lv_if_eq (tgt := 2104) hx hb dL_law_2099 (by decide) (fun k14 => ?_) (fun k14 => ?_)
      · have h := h.1 k14
        refine lv_goto (tgt := 2873) hx hb dL_law_2104 (by decide) ?_
        exact nx M10 o5 d6 _ _ _ _ _ (by omega) (by omega) (lv_sub hl [2, 3, 4, 5, 6, 7] rfl) hW h
      · have h := h.2 k14
        refine lv_iconst (v := 0) hx hb dL_law_2102 (by decide) ?_
        exact h.elim
  · have h := h.2 k12
    refine lv_iconst (v := 0) hx hb dL_law_2085 (by decide) ?_
    exact h.elim
def wcase_33 (L : Nat) (xs : Nat → Int32) (i : Int32) (M : sM) (o : sO) (d : sE) (N : sM → sO → sE → Prop) : Prop :=
  wX6_threshold M (fun r1 => wX7_threshold M (fun r2 M3 => (r1 = r2 → (N M3 o d)) ∧ (¬ r1 = r2 → (False))))
set_option maxRecDepth 20000 in
theorem kcase_33 {p : Program} {l : Launch} {e : Env} {s : State} {m : MethodId} {below : List Frame} {meth : Method} {c : Code} {H : Heap} {locs : List Loc} {cells slots : Nat} {Q : State → Prop} {ls : Array Slot} {g : sG} {b L : Nat} {xs : Nat → Int32} (Z : zLw p l s m meth c b L xs g) {i : Int32} {M : sM} {o : sO} {d : sE} {N : sM → sO → sE → Prop} (hl : lv_has ls 9 (zLs g b i)) (hW : sw_Wd g o d M s H locs) (hc : cells + 8 ≤ 603072) (hs : slots + 48 ≤ 7211114) (h : wcase_33 L xs i M o d N)
    (nx : ∀ (M : sM) (o : sO) (d : sE) (H : Heap) (locs : List Loc) (ls : Array Slot) (cells' slots' : Nat), cells' ≤ cells + 8 → slots' ≤ slots + 48 → lv_has ls 9 (zLs g b i) → sw_Wd g o d M s H locs → N M o d → W p l e room_1 s m #[Value.ref b] below meth c H locs cells' slots' Q (F0 m 2873 ls [])) : W p l e room_1 s m #[Value.ref b] below meth c H locs cells slots Q (F0 m 2107 ls []) := by
  obtain ⟨hx, hb, hml, hown, hts, hX, hbl, hbA, hst⟩ := Z
  unfold wcase_33 at h
  refine lv_aload_n hx hb dL_law_2107 rfl (lv_at hl 2 rfl) ?_
  refine sw_ki (rest := []) (sw_runV (As := []) (rest := []) hx hb hml hown hts (kX6_threshold l g o d M _ h) cv_X6_threshold q_339 rfl rfl ⟨(Nat.le_of_ble_eq_true rfl), (Nat.le_of_ble_eq_true rfl)⟩ hW (Nat.le_of_ble_eq_true rfl) sl_0 rfl rfl hl.1 rfl (Nat.le_of_ble_eq_true rfl) dL_law_2108 ⟨by show _ ≤ 603072; omega, by show _ ≤ 7211114; omega⟩) hW (fun r1 M5 H locs h hW => ?_)
  obtain ⟨h, eM5⟩ := h
  rw [eM5] at hW
  refine lv_aload_n hx hb dL_law_2111 rfl (lv_at hl 3 rfl) ?_
  refine sw_ki (rest := [.int r1]) (sw_runV (As := []) (rest := [.int r1]) hx hb hml hown hts (kX7_threshold l g o d M _ h) cv_X7_threshold q_1232 rfl rfl ⟨(Nat.le_of_ble_eq_true rfl), (Nat.le_of_ble_eq_true rfl)⟩ hW (Nat.le_of_ble_eq_true rfl) sl_33 rfl rfl hl.1 rfl (Nat.le_of_ble_eq_true rfl) dL_law_2112 ⟨by show _ ≤ 603072; omega, by show _ ≤ 7211114; omega⟩) hW (fun r2 M3 H locs h hW => ?_)
  refine lv_icmp_eq (tgt := 2873) hx hb dL_law_2115 (by decide) (fun k4 => ?_) (fun k4 => ?_)
  · have h := h.1 k4
    exact nx M3 o d _ _ _ _ _ (by omega) (by omega) (lv_sub hl [0, 1, 2, 3, 4, 5] rfl) hW h
  · have h := h.2 k4
    refine lv_iconst (v := 0) hx hb dL_law_2118 (by decide) ?_
    exact h.elim
def wcase_34 (L : Nat) (xs : Nat → Int32) (i : Int32) (M : sM) (o : sO) (d : sE) (N : sM → sO → sE → Prop) : Prop :=
  wX6_entryCount M (fun r1 => wX7_entryCount M (fun r2 M3 => (r1 = r2 → (N M3 o d)) ∧ (¬ r1 = r2 → (False))))
set_option maxRecDepth 20000 in
theorem kcase_34 {p : Program} {l : Launch} {e : Env} {s : State} {m : MethodId} {below : List Frame} {meth : Method} {c : Code} {H : Heap} {locs : List Loc} {cells slots : Nat} {Q : State → Prop} {ls : Array Slot} {g : sG} {b L : Nat} {xs : Nat → Int32} (Z : zLw p l s m meth c b L xs g) {i : Int32} {M : sM} {o : sO} {d : sE} {N : sM → sO → sE → Prop} (hl : lv_has ls 9 (zLs g b i)) (hW : sw_Wd g o d M s H locs) (hc : cells + 8 ≤ 603072) (hs : slots + 48 ≤ 7211114) (h : wcase_34 L xs i M o d N)
    (nx : ∀ (M : sM) (o : sO) (d : sE) (H : Heap) (locs : List Loc) (ls : Array Slot) (cells' slots' : Nat), cells' ≤ cells + 8 → slots' ≤ slots + 48 → lv_has ls 9 (zLs g b i) → sw_Wd g o d M s H locs → N M o d → W p l e room_1 s m #[Value.ref b] below meth c H locs cells' slots' Q (F0 m 2873 ls [])) : W p l e room_1 s m #[Value.ref b] below meth c H locs cells slots Q (F0 m 2120 ls []) := by
  obtain ⟨hx, hb, hml, hown, hts, hX, hbl, hbA, hst⟩ := Z
  unfold wcase_34 at h
  refine lv_aload_n hx hb dL_law_2120 rfl (lv_at hl 2 rfl) ?_
  refine sw_ki (rest := []) (sw_runV (As := []) (rest := []) hx hb hml hown hts (kX6_entryCount l g o d M _ h) cv_X6_entryCount q_343 rfl rfl ⟨(Nat.le_of_ble_eq_true rfl), (Nat.le_of_ble_eq_true rfl)⟩ hW (Nat.le_of_ble_eq_true rfl) sl_0 rfl rfl hl.1 rfl (Nat.le_of_ble_eq_true rfl) dL_law_2121 ⟨by show _ ≤ 603072; omega, by show _ ≤ 7211114; omega⟩) hW (fun r1 M5 H locs h hW => ?_)
  obtain ⟨h, eM5⟩ := h
  rw [eM5] at hW
  refine lv_aload_n hx hb dL_law_2124 rfl (lv_at hl 3 rfl) ?_
  refine sw_ki (rest := [.int r1]) (sw_runV (As := []) (rest := [.int r1]) hx hb hml hown hts (kX7_entryCount l g o d M _ h) cv_X7_entryCount q_1236 rfl rfl ⟨(Nat.le_of_ble_eq_true rfl), (Nat.le_of_ble_eq_true rfl)⟩ hW (Nat.le_of_ble_eq_true rfl) sl_33 rfl rfl hl.1 rfl (Nat.le_of_ble_eq_true rfl) dL_law_2125 ⟨by show _ ≤ 603072; omega, by show _ ≤ 7211114; omega⟩) hW (fun r2 M3 H locs h hW => ?_)
  refine lv_icmp_eq (tgt := 2873) hx hb dL_law_2128 (by decide) (fun k4 => ?_) (fun k4 => ?_)
  · have h := h.1 k4
    exact nx M3 o d _ _ _ _ _ (by omega) (by omega) (lv_sub hl [0, 1, 2, 3, 4, 5] rfl) hW h
  · have h := h.2 k4
    refine lv_iconst (v := 0) hx hb dL_law_2131 (by decide) ?_
    exact h.elim
def wcase_35 (L : Nat) (xs : Nat → Int32) (i : Int32) (M : sM) (o : sO) (d : sE) (N : sM → sO → sE → Prop) : Prop :=
  vp_in (i + (1 : Int32)) L ∧ (wL_doorOf (xs ((i + (1 : Int32))).toNatClampNeg) M o d (fun r2 M3 o4 d5 => vp_in (i + (1 : Int32)) L ∧ (wX7_doorOf (xs ((i + (1 : Int32))).toNatClampNeg) M3 (fun r7 M8 => wX7_thrown M8 (fun r9 => (r9 = r2 → ((r2 = 0 → (((lg_cmp (o4 ((0 : Int32)).toNatClampNeg) (r7).toInt64) = 0 → (N M8 o4 d5)) ∧ (¬ (lg_cmp (o4 ((0 : Int32)).toNatClampNeg) (r7).toInt64) = 0 → (False)))) ∧ (¬ r2 = 0 → (N M8 o4 d5)))) ∧ (¬ r9 = r2 → (False)))))))
set_option maxRecDepth 20000 in
theorem kcase_35 {p : Program} {l : Launch} {e : Env} {s : State} {m : MethodId} {below : List Frame} {meth : Method} {c : Code} {H : Heap} {locs : List Loc} {cells slots : Nat} {Q : State → Prop} {ls : Array Slot} {g : sG} {b L : Nat} {xs : Nat → Int32} (Z : zLw p l s m meth c b L xs g) {i : Int32} {M : sM} {o : sO} {d : sE} {N : sM → sO → sE → Prop} (hl : lv_has ls 9 (zLs g b i)) (hW : sw_Wd g o d M s H locs) (hc : cells + 8 ≤ 603072) (hs : slots + 48 ≤ 7211114) (h : wcase_35 L xs i M o d N)
    (nx : ∀ (M : sM) (o : sO) (d : sE) (H : Heap) (locs : List Loc) (ls : Array Slot) (cells' slots' : Nat), cells' ≤ cells + 8 → slots' ≤ slots + 48 → lv_has ls 9 (zLs g b i) → sw_Wd g o d M s H locs → N M o d → W p l e room_1 s m #[Value.ref b] below meth c H locs cells' slots' Q (F0 m 2873 ls [])) : W p l e room_1 s m #[Value.ref b] below meth c H locs cells slots Q (F0 m 2133 ls []) := by
  obtain ⟨hx, hb, hml, hown, hts, hX, hbl, hbA, hst⟩ := Z
  unfold wcase_35 at h
  refine lv_aload_n hx hb dL_law_2133 rfl (lv_at hl 2 rfl) ?_
  refine lv_aload_n hx hb dL_law_2134 rfl (lv_at hl 1 rfl) ?_
  refine lv_iload hx hb dL_law_2135 (lv_at hl 0 rfl) ?_
  refine lv_iconst (v := 1) hx hb dL_law_2137 (by decide) ?_
  refine lv_iadd hx hb dL_law_2138 ?_
  have b1 := h.1
  have h := h.2
  refine va_sld hx hb hX hbl hbA hW.2.1 b1 dL_law_2139 ?_
  refine lv_aload_n hx hb dL_law_2140 rfl (lv_at hl 4 rfl) ?_
  refine sw_k3 (rest := []) (sw_runH (As := [.ref (sw_ad g 0), .int (xs ((i + (1 : Int32))).toNatClampNeg), .ref (sw_ad g 233)]) (rest := []) hx hb hml hown hts (kL_doorOf l hst g (xs ((i + (1 : Int32))).toNatClampNeg) M o d _ h) ch_L_doorOf q_720 rfl rfl ⟨(Nat.le_of_ble_eq_true rfl), (Nat.le_of_ble_eq_true rfl)⟩ hW rfl hl.1 rfl (Nat.le_of_ble_eq_true rfl) dL_law_2141 ⟨by show _ ≤ 603072; omega, by show _ ≤ 7211114; omega⟩) hW (fun r2 M3 o4 d5 H locs h hW => ?_)
  refine lv_istore (lv' := [(6, .int r2), (5, .int i), (0, .ref b), (1, .ref (sw_ad g 0)), (2, .ref (sw_ad g 33)), (3, .ref (sw_ad g 233)), (4, .ref (sw_ad g 234))]) hx hb dL_law_2144 hl (Nat.le_of_ble_eq_true rfl) rfl (fun ls hl => ?_)
  refine lv_aload_n hx hb dL_law_2146 rfl (lv_at hl 4 rfl) ?_
  refine lv_aload_n hx hb dL_law_2147 rfl (lv_at hl 2 rfl) ?_
  refine lv_iload hx hb dL_law_2148 (lv_at hl 1 rfl) ?_
  refine lv_iconst (v := 1) hx hb dL_law_2150 (by decide) ?_
  refine lv_iadd hx hb dL_law_2151 ?_
  have b6 := h.1
  have h := h.2
  refine va_sld hx hb hX hbl hbA hW.2.1 b6 dL_law_2152 ?_
  refine sw_ki (rest := []) (sw_runV (As := [.int (xs ((i + (1 : Int32))).toNatClampNeg)]) (rest := []) hx hb hml hown hts (kX7_doorOf l g o4 d5 (xs ((i + (1 : Int32))).toNatClampNeg) M3 _ h) cv_X7_doorOf q_1240 rfl rfl ⟨(Nat.le_of_ble_eq_true rfl), (Nat.le_of_ble_eq_true rfl)⟩ hW (Nat.le_of_ble_eq_true rfl) sl_33 rfl rfl hl.1 rfl (Nat.le_of_ble_eq_true rfl) dL_law_2153 ⟨by show _ ≤ 603072; omega, by show _ ≤ 7211114; omega⟩) hW (fun r7 M8 H locs h hW => ?_)
  refine lv_istore (lv' := [(7, .int r7), (6, .int r2), (5, .int i), (0, .ref b), (1, .ref (sw_ad g 0)), (2, .ref (sw_ad g 33)), (3, .ref (sw_ad g 233)), (4, .ref (sw_ad g 234))]) hx hb dL_law_2156 hl (Nat.le_of_ble_eq_true rfl) rfl (fun ls hl => ?_)
  refine lv_aload_n hx hb dL_law_2158 rfl (lv_at hl 5 rfl) ?_
  refine sw_ki (rest := []) (sw_runV (As := []) (rest := []) hx hb hml hown hts (kX7_thrown l g o4 d5 M8 _ h) cv_X7_thrown q_966 rfl rfl ⟨(Nat.le_of_ble_eq_true rfl), (Nat.le_of_ble_eq_true rfl)⟩ hW (Nat.le_of_ble_eq_true rfl) sl_33 rfl rfl hl.1 rfl (Nat.le_of_ble_eq_true rfl) dL_law_2159 ⟨by show _ ≤ 603072; omega, by show _ ≤ 7211114; omega⟩) hW (fun r9 M13 H locs h hW => ?_)
  obtain ⟨h, eM13⟩ := h
  rw [eM13] at hW
  refine lv_iload hx hb dL_law_2162 (lv_at hl 1 rfl) ?_
  refine lv_icmp_eq (tgt := 2169) hx hb dL_law_2164 (by decide) (fun k10 => ?_) (fun k10 => ?_)
  · have h := h.1 k10
    refine lv_iload hx hb dL_law_2169 (lv_at hl 1 rfl) ?_
    refine lv_if_ne (tgt := 2186) hx hb dL_law_2171 (by decide) (fun k11 => ?_) (fun k11 => ?_)
    · have h := h.2 k11
      refine lv_goto (tgt := 2873) hx hb dL_law_2186 (by decide) ?_
      exact nx M8 o4 d5 _ _ _ _ _ (by omega) (by omega) (lv_sub hl [2, 3, 4, 5, 6, 7] rfl) hW h
    · have h := h.1 k11
      refine lv_aload_n hx hb dL_law_2174 rfl (lv_at hl 6 rfl) ?_
      refine lv_iconst (v := 0) hx hb dL_law_2175 (by decide) ?_
      refine sw_ll hx hb hW (vp_in_iff.mpr (by decide)) dL_law_2176 ?_
      refine lv_iload hx hb dL_law_2177 (lv_at hl 0 rfl) ?_
      refine lv_i2l hx hb dL_law_2179 rfl ?_
      refine W.lcmp hx hb dL_law_2180 ?_
      refine lv_if_eq (tgt := 2186) hx hb dL_law_2181 (by decide) (fun k12 => ?_) (fun k12 => ?_)
      · have h := h.1 k12
        refine lv_goto (tgt := 2873) hx hb dL_law_2186 (by decide) ?_
        exact nx M8 o4 d5 _ _ _ _ _ (by omega) (by omega) (lv_sub hl [2, 3, 4, 5, 6, 7] rfl) hW h
      · have h := h.2 k12
        refine lv_iconst (v := 0) hx hb dL_law_2184 (by decide) ?_
        exact h.elim
  · have h := h.2 k10
    refine lv_iconst (v := 0) hx hb dL_law_2167 (by decide) ?_
    exact h.elim
def wcase_36 (L : Nat) (xs : Nat → Int32) (i : Int32) (M : sM) (o : sO) (d : sE) (N : sM → sO → sE → Prop) : Prop :=
  vp_in (i + (1 : Int32)) L ∧ (wL_isRevoked (xs ((i + (1 : Int32))).toNatClampNeg) M o d (fun r2 M3 o4 d5 => vp_in (i + (1 : Int32)) L ∧ (wX7_isRevoked (xs ((i + (1 : Int32))).toNatClampNeg) M3 (fun r7 M8 => wX7_thrown M8 (fun r9 => (r9 = r2 → ((r2 = 0 → ((r7 = 0 → (((lg_cmp (o4 ((0 : Int32)).toNatClampNeg) (0 : Int64)) = 0 → (N M8 o4 d5)) ∧ (¬ (lg_cmp (o4 ((0 : Int32)).toNatClampNeg) (0 : Int64)) = 0 → (False)))) ∧ (¬ r7 = 0 → (((lg_cmp (o4 ((0 : Int32)).toNatClampNeg) (1 : Int64)) = 0 → (N M8 o4 d5)) ∧ (¬ (lg_cmp (o4 ((0 : Int32)).toNatClampNeg) (1 : Int64)) = 0 → (False)))))) ∧ (¬ r2 = 0 → (N M8 o4 d5)))) ∧ (¬ r9 = r2 → (False)))))))
set_option maxRecDepth 20000 in
theorem kcase_36 {p : Program} {l : Launch} {e : Env} {s : State} {m : MethodId} {below : List Frame} {meth : Method} {c : Code} {H : Heap} {locs : List Loc} {cells slots : Nat} {Q : State → Prop} {ls : Array Slot} {g : sG} {b L : Nat} {xs : Nat → Int32} (Z : zLw p l s m meth c b L xs g) {i : Int32} {M : sM} {o : sO} {d : sE} {N : sM → sO → sE → Prop} (hl : lv_has ls 9 (zLs g b i)) (hW : sw_Wd g o d M s H locs) (hc : cells + 8 ≤ 603072) (hs : slots + 48 ≤ 7211114) (h : wcase_36 L xs i M o d N)
    (nx : ∀ (M : sM) (o : sO) (d : sE) (H : Heap) (locs : List Loc) (ls : Array Slot) (cells' slots' : Nat), cells' ≤ cells + 8 → slots' ≤ slots + 48 → lv_has ls 9 (zLs g b i) → sw_Wd g o d M s H locs → N M o d → W p l e room_1 s m #[Value.ref b] below meth c H locs cells' slots' Q (F0 m 2873 ls [])) : W p l e room_1 s m #[Value.ref b] below meth c H locs cells slots Q (F0 m 2189 ls []) := by
  obtain ⟨hx, hb, hml, hown, hts, hX, hbl, hbA, hst⟩ := Z
  unfold wcase_36 at h
  refine lv_aload_n hx hb dL_law_2189 rfl (lv_at hl 2 rfl) ?_
  refine lv_aload_n hx hb dL_law_2190 rfl (lv_at hl 1 rfl) ?_
  refine lv_iload hx hb dL_law_2191 (lv_at hl 0 rfl) ?_
  refine lv_iconst (v := 1) hx hb dL_law_2193 (by decide) ?_
  refine lv_iadd hx hb dL_law_2194 ?_
  have b1 := h.1
  have h := h.2
  refine va_sld hx hb hX hbl hbA hW.2.1 b1 dL_law_2195 ?_
  refine lv_aload_n hx hb dL_law_2196 rfl (lv_at hl 4 rfl) ?_
  refine sw_k3 (rest := []) (sw_runH (As := [.ref (sw_ad g 0), .int (xs ((i + (1 : Int32))).toNatClampNeg), .ref (sw_ad g 233)]) (rest := []) hx hb hml hown hts (kL_isRevoked l hst g (xs ((i + (1 : Int32))).toNatClampNeg) M o d _ h) ch_L_isRevoked q_730 rfl rfl ⟨(Nat.le_of_ble_eq_true rfl), (Nat.le_of_ble_eq_true rfl)⟩ hW rfl hl.1 rfl (Nat.le_of_ble_eq_true rfl) dL_law_2197 ⟨by show _ ≤ 603072; omega, by show _ ≤ 7211114; omega⟩) hW (fun r2 M3 o4 d5 H locs h hW => ?_)
  refine lv_istore (lv' := [(6, .int r2), (5, .int i), (0, .ref b), (1, .ref (sw_ad g 0)), (2, .ref (sw_ad g 33)), (3, .ref (sw_ad g 233)), (4, .ref (sw_ad g 234))]) hx hb dL_law_2200 hl (Nat.le_of_ble_eq_true rfl) rfl (fun ls hl => ?_)
  refine lv_aload_n hx hb dL_law_2202 rfl (lv_at hl 4 rfl) ?_
  refine lv_aload_n hx hb dL_law_2203 rfl (lv_at hl 2 rfl) ?_
  refine lv_iload hx hb dL_law_2204 (lv_at hl 1 rfl) ?_
  refine lv_iconst (v := 1) hx hb dL_law_2206 (by decide) ?_
  refine lv_iadd hx hb dL_law_2207 ?_
  have b6 := h.1
  have h := h.2
  refine va_sld hx hb hX hbl hbA hW.2.1 b6 dL_law_2208 ?_
  refine sw_ki (rest := []) (sw_runV (As := [.int (xs ((i + (1 : Int32))).toNatClampNeg)]) (rest := []) hx hb hml hown hts (kX7_isRevoked l g o4 d5 (xs ((i + (1 : Int32))).toNatClampNeg) M3 _ h) cv_X7_isRevoked q_1244 rfl rfl ⟨(Nat.le_of_ble_eq_true rfl), (Nat.le_of_ble_eq_true rfl)⟩ hW (Nat.le_of_ble_eq_true rfl) sl_33 rfl rfl hl.1 rfl (Nat.le_of_ble_eq_true rfl) dL_law_2209 ⟨by show _ ≤ 603072; omega, by show _ ≤ 7211114; omega⟩) hW (fun r7 M8 H locs h hW => ?_)
  refine lv_istore (lv' := [(7, .int r7), (6, .int r2), (5, .int i), (0, .ref b), (1, .ref (sw_ad g 0)), (2, .ref (sw_ad g 33)), (3, .ref (sw_ad g 233)), (4, .ref (sw_ad g 234))]) hx hb dL_law_2212 hl (Nat.le_of_ble_eq_true rfl) rfl (fun ls hl => ?_)
  refine lv_aload_n hx hb dL_law_2214 rfl (lv_at hl 5 rfl) ?_
  refine sw_ki (rest := []) (sw_runV (As := []) (rest := []) hx hb hml hown hts (kX7_thrown l g o4 d5 M8 _ h) cv_X7_thrown q_966 rfl rfl ⟨(Nat.le_of_ble_eq_true rfl), (Nat.le_of_ble_eq_true rfl)⟩ hW (Nat.le_of_ble_eq_true rfl) sl_33 rfl rfl hl.1 rfl (Nat.le_of_ble_eq_true rfl) dL_law_2215 ⟨by show _ ≤ 603072; omega, by show _ ≤ 7211114; omega⟩) hW (fun r9 M15 H locs h hW => ?_)
  obtain ⟨h, eM15⟩ := h
  rw [eM15] at hW
  refine lv_iload hx hb dL_law_2218 (lv_at hl 1 rfl) ?_
  refine lv_icmp_eq (tgt := 2225) hx hb dL_law_2220 (by decide) (fun k10 => ?_) (fun k10 => ?_)
  · have h := h.1 k10
    refine lv_iload hx hb dL_law_2225 (lv_at hl 1 rfl) ?_
    refine lv_if_ne (tgt := 2249) hx hb dL_law_2227 (by decide) (fun k11 => ?_) (fun k11 => ?_)
    · have h := h.2 k11
      refine lv_goto (tgt := 2873) hx hb dL_law_2249 (by decide) ?_
      exact nx M8 o4 d5 _ _ _ _ _ (by omega) (by omega) (lv_sub hl [2, 3, 4, 5, 6, 7] rfl) hW h
    · have h := h.1 k11
      refine lv_aload_n hx hb dL_law_2230 rfl (lv_at hl 6 rfl) ?_
      refine lv_iconst (v := 0) hx hb dL_law_2231 (by decide) ?_
      refine sw_ll hx hb hW (vp_in_iff.mpr (by decide)) dL_law_2232 ?_
      refine lv_iload hx hb dL_law_2233 (lv_at hl 0 rfl) ?_
      refine lv_if_eq (tgt := 2242) hx hb dL_law_2235 (by decide) (fun k12 => ?_) (fun k12 => ?_)
      · have h := h.1 k12
        refine lv_lconst (v := 0) hx hb dL_law_2242 (by decide) ?_
        refine W.lcmp hx hb dL_law_2243 ?_
        refine lv_if_eq (tgt := 2249) hx hb dL_law_2244 (by decide) (fun k13 => ?_) (fun k13 => ?_)
        · have h := h.1 k13
          refine lv_goto (tgt := 2873) hx hb dL_law_2249 (by decide) ?_
          exact nx M8 o4 d5 _ _ _ _ _ (by omega) (by omega) (lv_sub hl [2, 3, 4, 5, 6, 7] rfl) hW h
        · have h := h.2 k13
          refine lv_iconst (v := 0) hx hb dL_law_2247 (by decide) ?_
          exact h.elim
      · have h := h.2 k12
        refine lv_lconst (v := 1) hx hb dL_law_2238 (by decide) ?_
        refine lv_goto (tgt := 2243) hx hb dL_law_2239 (by decide) ?_
        refine W.lcmp hx hb dL_law_2243 ?_
        refine lv_if_eq (tgt := 2249) hx hb dL_law_2244 (by decide) (fun k14 => ?_) (fun k14 => ?_)
        · have h := h.1 k14
          refine lv_goto (tgt := 2873) hx hb dL_law_2249 (by decide) ?_
          exact nx M8 o4 d5 _ _ _ _ _ (by omega) (by omega) (lv_sub hl [2, 3, 4, 5, 6, 7] rfl) hW h
        · have h := h.2 k14
          refine lv_iconst (v := 0) hx hb dL_law_2247 (by decide) ?_
          exact h.elim
  · have h := h.2 k10
    refine lv_iconst (v := 0) hx hb dL_law_2223 (by decide) ?_
    exact h.elim
def wcase_37 (L : Nat) (xs : Nat → Int32) (i : Int32) (M : sM) (o : sO) (d : sE) (N : sM → sO → sE → Prop) : Prop :=
  wX6_assignments M (fun r1 => wX7_assignments M (fun r2 M3 => (r1 = r2 → (N M3 o d)) ∧ (¬ r1 = r2 → (False))))
set_option maxRecDepth 20000 in
theorem kcase_37 {p : Program} {l : Launch} {e : Env} {s : State} {m : MethodId} {below : List Frame} {meth : Method} {c : Code} {H : Heap} {locs : List Loc} {cells slots : Nat} {Q : State → Prop} {ls : Array Slot} {g : sG} {b L : Nat} {xs : Nat → Int32} (Z : zLw p l s m meth c b L xs g) {i : Int32} {M : sM} {o : sO} {d : sE} {N : sM → sO → sE → Prop} (hl : lv_has ls 9 (zLs g b i)) (hW : sw_Wd g o d M s H locs) (hc : cells + 8 ≤ 603072) (hs : slots + 48 ≤ 7211114) (h : wcase_37 L xs i M o d N)
    (nx : ∀ (M : sM) (o : sO) (d : sE) (H : Heap) (locs : List Loc) (ls : Array Slot) (cells' slots' : Nat), cells' ≤ cells + 8 → slots' ≤ slots + 48 → lv_has ls 9 (zLs g b i) → sw_Wd g o d M s H locs → N M o d → W p l e room_1 s m #[Value.ref b] below meth c H locs cells' slots' Q (F0 m 2873 ls [])) : W p l e room_1 s m #[Value.ref b] below meth c H locs cells slots Q (F0 m 2252 ls []) := by
  obtain ⟨hx, hb, hml, hown, hts, hX, hbl, hbA, hst⟩ := Z
  unfold wcase_37 at h
  refine lv_aload_n hx hb dL_law_2252 rfl (lv_at hl 2 rfl) ?_
  refine sw_ki (rest := []) (sw_runV (As := []) (rest := []) hx hb hml hown hts (kX6_assignments l g o d M _ h) cv_X6_assignments q_347 rfl rfl ⟨(Nat.le_of_ble_eq_true rfl), (Nat.le_of_ble_eq_true rfl)⟩ hW (Nat.le_of_ble_eq_true rfl) sl_0 rfl rfl hl.1 rfl (Nat.le_of_ble_eq_true rfl) dL_law_2253 ⟨by show _ ≤ 603072; omega, by show _ ≤ 7211114; omega⟩) hW (fun r1 M5 H locs h hW => ?_)
  obtain ⟨h, eM5⟩ := h
  rw [eM5] at hW
  refine lv_aload_n hx hb dL_law_2256 rfl (lv_at hl 3 rfl) ?_
  refine sw_ki (rest := [.int r1]) (sw_runV (As := []) (rest := [.int r1]) hx hb hml hown hts (kX7_assignments l g o d M _ h) cv_X7_assignments q_1248 rfl rfl ⟨(Nat.le_of_ble_eq_true rfl), (Nat.le_of_ble_eq_true rfl)⟩ hW (Nat.le_of_ble_eq_true rfl) sl_33 rfl rfl hl.1 rfl (Nat.le_of_ble_eq_true rfl) dL_law_2257 ⟨by show _ ≤ 603072; omega, by show _ ≤ 7211114; omega⟩) hW (fun r2 M3 H locs h hW => ?_)
  refine lv_icmp_eq (tgt := 2873) hx hb dL_law_2260 (by decide) (fun k4 => ?_) (fun k4 => ?_)
  · have h := h.1 k4
    exact nx M3 o d _ _ _ _ _ (by omega) (by omega) (lv_sub hl [0, 1, 2, 3, 4, 5] rfl) hW h
  · have h := h.2 k4
    refine lv_iconst (v := 0) hx hb dL_law_2263 (by decide) ?_
    exact h.elim
def wcase_38 (L : Nat) (xs : Nat → Int32) (i : Int32) (M : sM) (o : sO) (d : sE) (N : sM → sO → sE → Prop) : Prop :=
  wX6_assignmentsByDoors M (fun r1 => wX7_assignmentsByDoors M (fun r2 M3 => (r1 = r2 → (N M3 o d)) ∧ (¬ r1 = r2 → (False))))
set_option maxRecDepth 20000 in
theorem kcase_38 {p : Program} {l : Launch} {e : Env} {s : State} {m : MethodId} {below : List Frame} {meth : Method} {c : Code} {H : Heap} {locs : List Loc} {cells slots : Nat} {Q : State → Prop} {ls : Array Slot} {g : sG} {b L : Nat} {xs : Nat → Int32} (Z : zLw p l s m meth c b L xs g) {i : Int32} {M : sM} {o : sO} {d : sE} {N : sM → sO → sE → Prop} (hl : lv_has ls 9 (zLs g b i)) (hW : sw_Wd g o d M s H locs) (hc : cells + 8 ≤ 603072) (hs : slots + 48 ≤ 7211114) (h : wcase_38 L xs i M o d N)
    (nx : ∀ (M : sM) (o : sO) (d : sE) (H : Heap) (locs : List Loc) (ls : Array Slot) (cells' slots' : Nat), cells' ≤ cells + 8 → slots' ≤ slots + 48 → lv_has ls 9 (zLs g b i) → sw_Wd g o d M s H locs → N M o d → W p l e room_1 s m #[Value.ref b] below meth c H locs cells' slots' Q (F0 m 2873 ls [])) : W p l e room_1 s m #[Value.ref b] below meth c H locs cells slots Q (F0 m 2265 ls []) := by
  obtain ⟨hx, hb, hml, hown, hts, hX, hbl, hbA, hst⟩ := Z
  unfold wcase_38 at h
  refine lv_aload_n hx hb dL_law_2265 rfl (lv_at hl 2 rfl) ?_
  refine sw_ki (rest := []) (sw_runV (As := []) (rest := []) hx hb hml hown hts (kX6_assignmentsByDoors l g o d M _ h) cv_X6_assignmentsByDoors q_352 rfl rfl ⟨(Nat.le_of_ble_eq_true rfl), (Nat.le_of_ble_eq_true rfl)⟩ hW (Nat.le_of_ble_eq_true rfl) sl_0 rfl rfl hl.1 rfl (Nat.le_of_ble_eq_true rfl) dL_law_2266 ⟨by show _ ≤ 603072; omega, by show _ ≤ 7211114; omega⟩) hW (fun r1 M5 H locs h hW => ?_)
  obtain ⟨h, eM5⟩ := h
  rw [eM5] at hW
  refine lv_aload_n hx hb dL_law_2269 rfl (lv_at hl 3 rfl) ?_
  refine sw_ki (rest := [.int r1]) (sw_runV (As := []) (rest := [.int r1]) hx hb hml hown hts (kX7_assignmentsByDoors l g o d M _ h) cv_X7_assignmentsByDoors q_1252 rfl rfl ⟨(Nat.le_of_ble_eq_true rfl), (Nat.le_of_ble_eq_true rfl)⟩ hW (Nat.le_of_ble_eq_true rfl) sl_33 rfl rfl hl.1 rfl (Nat.le_of_ble_eq_true rfl) dL_law_2270 ⟨by show _ ≤ 603072; omega, by show _ ≤ 7211114; omega⟩) hW (fun r2 M3 H locs h hW => ?_)
  refine lv_icmp_eq (tgt := 2873) hx hb dL_law_2273 (by decide) (fun k4 => ?_) (fun k4 => ?_)
  · have h := h.1 k4
    exact nx M3 o d _ _ _ _ _ (by omega) (by omega) (lv_sub hl [0, 1, 2, 3, 4, 5] rfl) hW h
  · have h := h.2 k4
    refine lv_iconst (v := 0) hx hb dL_law_2276 (by decide) ?_
    exact h.elim
def wcase_39 (L : Nat) (xs : Nat → Int32) (i : Int32) (M : sM) (o : sO) (d : sE) (N : sM → sO → sE → Prop) : Prop :=
  wX6_gradeTotal M (fun r1 => wX7_gradeTotal M (fun r2 M3 => ((lg_cmp r1 r2) = 0 → (N M3 o d)) ∧ (¬ (lg_cmp r1 r2) = 0 → (False))))
set_option maxRecDepth 20000 in
theorem kcase_39 {p : Program} {l : Launch} {e : Env} {s : State} {m : MethodId} {below : List Frame} {meth : Method} {c : Code} {H : Heap} {locs : List Loc} {cells slots : Nat} {Q : State → Prop} {ls : Array Slot} {g : sG} {b L : Nat} {xs : Nat → Int32} (Z : zLw p l s m meth c b L xs g) {i : Int32} {M : sM} {o : sO} {d : sE} {N : sM → sO → sE → Prop} (hl : lv_has ls 9 (zLs g b i)) (hW : sw_Wd g o d M s H locs) (hc : cells + 8 ≤ 603072) (hs : slots + 48 ≤ 7211114) (h : wcase_39 L xs i M o d N)
    (nx : ∀ (M : sM) (o : sO) (d : sE) (H : Heap) (locs : List Loc) (ls : Array Slot) (cells' slots' : Nat), cells' ≤ cells + 8 → slots' ≤ slots + 48 → lv_has ls 9 (zLs g b i) → sw_Wd g o d M s H locs → N M o d → W p l e room_1 s m #[Value.ref b] below meth c H locs cells' slots' Q (F0 m 2873 ls [])) : W p l e room_1 s m #[Value.ref b] below meth c H locs cells slots Q (F0 m 2278 ls []) := by
  obtain ⟨hx, hb, hml, hown, hts, hX, hbl, hbA, hst⟩ := Z
  unfold wcase_39 at h
  refine lv_aload_n hx hb dL_law_2278 rfl (lv_at hl 2 rfl) ?_
  refine sw_kl (rest := []) (sw_runV (As := []) (rest := []) hx hb hml hown hts (kX6_gradeTotal l g o d M _ h) cv_X6_gradeTotal q_357 rfl rfl ⟨(Nat.le_of_ble_eq_true rfl), (Nat.le_of_ble_eq_true rfl)⟩ hW (Nat.le_of_ble_eq_true rfl) sl_0 rfl rfl hl.1 rfl (Nat.le_of_ble_eq_true rfl) dL_law_2279 ⟨by show _ ≤ 603072; omega, by show _ ≤ 7211114; omega⟩) hW (fun r1 M5 H locs h hW => ?_)
  obtain ⟨h, eM5⟩ := h
  rw [eM5] at hW
  refine lv_aload_n hx hb dL_law_2282 rfl (lv_at hl 3 rfl) ?_
  refine sw_kl (rest := [.long r1]) (sw_runV (As := []) (rest := [.long r1]) hx hb hml hown hts (kX7_gradeTotal l g o d M _ h) cv_X7_gradeTotal q_1257 rfl rfl ⟨(Nat.le_of_ble_eq_true rfl), (Nat.le_of_ble_eq_true rfl)⟩ hW (Nat.le_of_ble_eq_true rfl) sl_33 rfl rfl hl.1 rfl (Nat.le_of_ble_eq_true rfl) dL_law_2283 ⟨by show _ ≤ 603072; omega, by show _ ≤ 7211114; omega⟩) hW (fun r2 M3 H locs h hW => ?_)
  refine W.lcmp hx hb dL_law_2286 ?_
  refine lv_if_eq (tgt := 2873) hx hb dL_law_2287 (by decide) (fun k4 => ?_) (fun k4 => ?_)
  · have h := h.1 k4
    exact nx M3 o d _ _ _ _ _ (by omega) (by omega) (lv_sub hl [0, 1, 2, 3, 4, 5] rfl) hW h
  · have h := h.2 k4
    refine lv_iconst (v := 0) hx hb dL_law_2290 (by decide) ?_
    exact h.elim
def wcase_40 (L : Nat) (xs : Nat → Int32) (i : Int32) (M : sM) (o : sO) (d : sE) (N : sM → sO → sE → Prop) : Prop :=
  wL_meanGrade  M o d (fun r1 M2 o3 d4 => wX7_meanGrade M2 (fun r5 M6 => wX7_thrown M6 (fun r7 => (r7 = r1 → ((r1 = 0 → (((Op.cmpValue (FP.dcmp (d4 ((0 : Int32)).toNatClampNeg) r5) CmpOp.l) = 0 → (N M6 o3 d4)) ∧ (¬ (Op.cmpValue (FP.dcmp (d4 ((0 : Int32)).toNatClampNeg) r5) CmpOp.l) = 0 → (((Op.cmpValue (FP.dcmp (d4 ((0 : Int32)).toNatClampNeg) (d4 ((0 : Int32)).toNatClampNeg)) CmpOp.l) = 0 → (False)) ∧ (¬ (Op.cmpValue (FP.dcmp (d4 ((0 : Int32)).toNatClampNeg) (d4 ((0 : Int32)).toNatClampNeg)) CmpOp.l) = 0 → (((Op.cmpValue (FP.dcmp r5 r5) CmpOp.l) = 0 → (False)) ∧ (¬ (Op.cmpValue (FP.dcmp r5 r5) CmpOp.l) = 0 → (N M6 o3 d4)))))))) ∧ (¬ r1 = 0 → (N M6 o3 d4)))) ∧ (¬ r7 = r1 → (False)))))
set_option maxRecDepth 20000 in
theorem kcase_40 {p : Program} {l : Launch} {e : Env} {s : State} {m : MethodId} {below : List Frame} {meth : Method} {c : Code} {H : Heap} {locs : List Loc} {cells slots : Nat} {Q : State → Prop} {ls : Array Slot} {g : sG} {b L : Nat} {xs : Nat → Int32} (Z : zLw p l s m meth c b L xs g) {i : Int32} {M : sM} {o : sO} {d : sE} {N : sM → sO → sE → Prop} (hl : lv_has ls 9 (zLs g b i)) (hW : sw_Wd g o d M s H locs) (hc : cells + 8 ≤ 603072) (hs : slots + 48 ≤ 7211114) (h : wcase_40 L xs i M o d N)
    (nx : ∀ (M : sM) (o : sO) (d : sE) (H : Heap) (locs : List Loc) (ls : Array Slot) (cells' slots' : Nat), cells' ≤ cells + 8 → slots' ≤ slots + 48 → lv_has ls 9 (zLs g b i) → sw_Wd g o d M s H locs → N M o d → W p l e room_1 s m #[Value.ref b] below meth c H locs cells' slots' Q (F0 m 2873 ls [])) : W p l e room_1 s m #[Value.ref b] below meth c H locs cells slots Q (F0 m 2292 ls []) := by
  obtain ⟨hx, hb, hml, hown, hts, hX, hbl, hbA, hst⟩ := Z
  unfold wcase_40 at h
  refine lv_aload_n hx hb dL_law_2292 rfl (lv_at hl 2 rfl) ?_
  refine lv_aload hx hb dL_law_2293 (lv_at hl 5 rfl) ?_
  refine sw_k3 (rest := []) (sw_runH (As := [.ref (sw_ad g 0), .ref (sw_ad g 234)]) (rest := []) hx hb hml hown hts (kL_meanGrade l hst g  M o d _ h) ch_L_meanGrade q_736 rfl rfl ⟨(Nat.le_of_ble_eq_true rfl), (Nat.le_of_ble_eq_true rfl)⟩ hW rfl hl.1 rfl (Nat.le_of_ble_eq_true rfl) dL_law_2295 ⟨by show _ ≤ 603072; omega, by show _ ≤ 7211114; omega⟩) hW (fun r1 M2 o3 d4 H locs h hW => ?_)
  refine lv_istore (lv' := [(6, .int r1), (5, .int i), (0, .ref b), (1, .ref (sw_ad g 0)), (2, .ref (sw_ad g 33)), (3, .ref (sw_ad g 233)), (4, .ref (sw_ad g 234))]) hx hb dL_law_2298 hl (Nat.le_of_ble_eq_true rfl) rfl (fun ls hl => ?_)
  refine lv_aload_n hx hb dL_law_2300 rfl (lv_at hl 4 rfl) ?_
  refine sw_kd (rest := []) (sw_runV (As := []) (rest := []) hx hb hml hown hts (kX7_meanGrade l g o3 d4 M2 _ h) cv_X7_meanGrade q_1264 rfl rfl ⟨(Nat.le_of_ble_eq_true rfl), (Nat.le_of_ble_eq_true rfl)⟩ hW (Nat.le_of_ble_eq_true rfl) sl_33 rfl rfl hl.1 rfl (Nat.le_of_ble_eq_true rfl) dL_law_2301 ⟨by show _ ≤ 603072; omega, by show _ ≤ 7211114; omega⟩) hW (fun r5 M6 H locs h hW => ?_)
  refine lv_dstore (lv' := [(7, .double r5), (6, .int r1), (5, .int i), (0, .ref b), (1, .ref (sw_ad g 0)), (2, .ref (sw_ad g 33)), (3, .ref (sw_ad g 233)), (4, .ref (sw_ad g 234))]) hx hb dL_law_2304 hl (Nat.le_of_ble_eq_true rfl) rfl (fun ls hl => ?_)
  refine lv_aload_n hx hb dL_law_2306 rfl (lv_at hl 5 rfl) ?_
  refine sw_ki (rest := []) (sw_runV (As := []) (rest := []) hx hb hml hown hts (kX7_thrown l g o3 d4 M6 _ h) cv_X7_thrown q_966 rfl rfl ⟨(Nat.le_of_ble_eq_true rfl), (Nat.le_of_ble_eq_true rfl)⟩ hW (Nat.le_of_ble_eq_true rfl) sl_33 rfl rfl hl.1 rfl (Nat.le_of_ble_eq_true rfl) dL_law_2307 ⟨by show _ ≤ 603072; omega, by show _ ≤ 7211114; omega⟩) hW (fun r7 M13 H locs h hW => ?_)
  obtain ⟨h, eM13⟩ := h
  rw [eM13] at hW
  refine lv_iload hx hb dL_law_2310 (lv_at hl 1 rfl) ?_
  refine lv_icmp_eq (tgt := 2317) hx hb dL_law_2312 (by decide) (fun k8 => ?_) (fun k8 => ?_)
  · have h := h.1 k8
    refine lv_iload hx hb dL_law_2317 (lv_at hl 1 rfl) ?_
    refine lv_if_ne (tgt := 2354) hx hb dL_law_2319 (by decide) (fun k9 => ?_) (fun k9 => ?_)
    · have h := h.2 k9
      refine lv_goto (tgt := 2873) hx hb dL_law_2354 (by decide) ?_
      exact nx M6 o3 d4 _ _ _ _ _ (by omega) (by omega) (lv_sub hl [2, 3, 4, 5, 6, 7] rfl) hW h
    · have h := h.1 k9
      refine lv_aload hx hb dL_law_2322 (lv_at hl 7 rfl) ?_
      refine lv_iconst (v := 0) hx hb dL_law_2324 (by decide) ?_
      refine sw_dl hx hb hW (vp_in_iff.mpr (by decide)) dL_law_2325 ?_
      refine lv_dload hx hb dL_law_2326 (lv_at hl 0 rfl) ?_
      refine lv_dcmp hx hb dL_law_2328 ?_
      refine lv_if_eq (tgt := 2354) hx hb dL_law_2329 (by decide) (fun k10 => ?_) (fun k10 => ?_)
      · have h := h.1 k10
        refine lv_goto (tgt := 2873) hx hb dL_law_2354 (by decide) ?_
        exact nx M6 o3 d4 _ _ _ _ _ (by omega) (by omega) (lv_sub hl [2, 3, 4, 5, 6, 7] rfl) hW h
      · have h := h.2 k10
        refine lv_aload hx hb dL_law_2332 (lv_at hl 7 rfl) ?_
        refine lv_iconst (v := 0) hx hb dL_law_2334 (by decide) ?_
        refine sw_dl hx hb hW (vp_in_iff.mpr (by decide)) dL_law_2335 ?_
        refine lv_aload hx hb dL_law_2336 (lv_at hl 7 rfl) ?_
        refine lv_iconst (v := 0) hx hb dL_law_2338 (by decide) ?_
        refine sw_dl hx hb hW (vp_in_iff.mpr (by decide)) dL_law_2339 ?_
        refine lv_dcmp hx hb dL_law_2340 ?_
        refine lv_if_eq (tgt := 2352) hx hb dL_law_2341 (by decide) (fun k11 => ?_) (fun k11 => ?_)
        · have h := h.1 k11
          refine lv_iconst (v := 0) hx hb dL_law_2352 (by decide) ?_
          exact h.elim
        · have h := h.2 k11
          refine lv_dload hx hb dL_law_2344 (lv_at hl 0 rfl) ?_
          refine lv_dload hx hb dL_law_2346 (lv_at hl 0 rfl) ?_
          refine lv_dcmp hx hb dL_law_2348 ?_
          refine lv_if_ne (tgt := 2354) hx hb dL_law_2349 (by decide) (fun k12 => ?_) (fun k12 => ?_)
          · have h := h.2 k12
            refine lv_goto (tgt := 2873) hx hb dL_law_2354 (by decide) ?_
            exact nx M6 o3 d4 _ _ _ _ _ (by omega) (by omega) (lv_sub hl [2, 3, 4, 5, 6, 7] rfl) hW h
          · have h := h.1 k12
            refine lv_iconst (v := 0) hx hb dL_law_2352 (by decide) ?_
            exact h.elim
  · have h := h.2 k8
    refine lv_iconst (v := 0) hx hb dL_law_2315 (by decide) ?_
    exact h.elim
def wcase_41 (L : Nat) (xs : Nat → Int32) (i : Int32) (M : sM) (o : sO) (d : sE) (N : sM → sO → sE → Prop) : Prop :=
  wL_passShare  M o d (fun r1 M2 o3 d4 => wX7_passShare M2 (fun r5 M6 => wX7_thrown M6 (fun r7 => (r7 = r1 → ((r1 = 0 → (vf_n64 (FP.f2d r5) ∧ (((Op.cmpValue (FP.dcmp (d4 ((0 : Int32)).toNatClampNeg) (FP.f2d r5)) CmpOp.l) = 0 → (N M6 o3 d4)) ∧ (¬ (Op.cmpValue (FP.dcmp (d4 ((0 : Int32)).toNatClampNeg) (FP.f2d r5)) CmpOp.l) = 0 → (((Op.cmpValue (FP.dcmp (d4 ((0 : Int32)).toNatClampNeg) (d4 ((0 : Int32)).toNatClampNeg)) CmpOp.l) = 0 → (False)) ∧ (¬ (Op.cmpValue (FP.dcmp (d4 ((0 : Int32)).toNatClampNeg) (d4 ((0 : Int32)).toNatClampNeg)) CmpOp.l) = 0 → (((Op.cmpValue (FP.fcmp r5 r5) CmpOp.l) = 0 → (False)) ∧ (¬ (Op.cmpValue (FP.fcmp r5 r5) CmpOp.l) = 0 → (N M6 o3 d4))))))))) ∧ (¬ r1 = 0 → (N M6 o3 d4)))) ∧ (¬ r7 = r1 → (False)))))
set_option maxRecDepth 20000 in
theorem kcase_41 {p : Program} {l : Launch} {e : Env} {s : State} {m : MethodId} {below : List Frame} {meth : Method} {c : Code} {H : Heap} {locs : List Loc} {cells slots : Nat} {Q : State → Prop} {ls : Array Slot} {g : sG} {b L : Nat} {xs : Nat → Int32} (Z : zLw p l s m meth c b L xs g) {i : Int32} {M : sM} {o : sO} {d : sE} {N : sM → sO → sE → Prop} (hl : lv_has ls 9 (zLs g b i)) (hW : sw_Wd g o d M s H locs) (hc : cells + 8 ≤ 603072) (hs : slots + 48 ≤ 7211114) (h : wcase_41 L xs i M o d N)
    (nx : ∀ (M : sM) (o : sO) (d : sE) (H : Heap) (locs : List Loc) (ls : Array Slot) (cells' slots' : Nat), cells' ≤ cells + 8 → slots' ≤ slots + 48 → lv_has ls 9 (zLs g b i) → sw_Wd g o d M s H locs → N M o d → W p l e room_1 s m #[Value.ref b] below meth c H locs cells' slots' Q (F0 m 2873 ls [])) : W p l e room_1 s m #[Value.ref b] below meth c H locs cells slots Q (F0 m 2357 ls []) := by
  obtain ⟨hx, hb, hml, hown, hts, hX, hbl, hbA, hst⟩ := Z
  unfold wcase_41 at h
  refine lv_aload_n hx hb dL_law_2357 rfl (lv_at hl 2 rfl) ?_
  refine lv_aload hx hb dL_law_2358 (lv_at hl 5 rfl) ?_
  refine sw_k3 (rest := []) (sw_runH (As := [.ref (sw_ad g 0), .ref (sw_ad g 234)]) (rest := []) hx hb hml hown hts (kL_passShare l hst g  M o d _ h) ch_L_passShare q_754 rfl rfl ⟨(Nat.le_of_ble_eq_true rfl), (Nat.le_of_ble_eq_true rfl)⟩ hW rfl hl.1 rfl (Nat.le_of_ble_eq_true rfl) dL_law_2360 ⟨by show _ ≤ 603072; omega, by show _ ≤ 7211114; omega⟩) hW (fun r1 M2 o3 d4 H locs h hW => ?_)
  refine lv_istore (lv' := [(6, .int r1), (5, .int i), (0, .ref b), (1, .ref (sw_ad g 0)), (2, .ref (sw_ad g 33)), (3, .ref (sw_ad g 233)), (4, .ref (sw_ad g 234))]) hx hb dL_law_2363 hl (Nat.le_of_ble_eq_true rfl) rfl (fun ls hl => ?_)
  refine lv_aload_n hx hb dL_law_2365 rfl (lv_at hl 4 rfl) ?_
  refine sw_kf (rest := []) (sw_runV (As := []) (rest := []) hx hb hml hown hts (kX7_passShare l g o3 d4 M2 _ h) cv_X7_passShare q_1268 rfl rfl ⟨(Nat.le_of_ble_eq_true rfl), (Nat.le_of_ble_eq_true rfl)⟩ hW (Nat.le_of_ble_eq_true rfl) sl_33 rfl rfl hl.1 rfl (Nat.le_of_ble_eq_true rfl) dL_law_2366 ⟨by show _ ≤ 603072; omega, by show _ ≤ 7211114; omega⟩) hW (fun r5 M6 H locs h hW => ?_)
  refine lv_fstore (lv' := [(7, .float r5), (6, .int r1), (5, .int i), (0, .ref b), (1, .ref (sw_ad g 0)), (2, .ref (sw_ad g 33)), (3, .ref (sw_ad g 233)), (4, .ref (sw_ad g 234))]) hx hb dL_law_2369 hl (Nat.le_of_ble_eq_true rfl) rfl (fun ls hl => ?_)
  refine lv_aload_n hx hb dL_law_2371 rfl (lv_at hl 5 rfl) ?_
  refine sw_ki (rest := []) (sw_runV (As := []) (rest := []) hx hb hml hown hts (kX7_thrown l g o3 d4 M6 _ h) cv_X7_thrown q_966 rfl rfl ⟨(Nat.le_of_ble_eq_true rfl), (Nat.le_of_ble_eq_true rfl)⟩ hW (Nat.le_of_ble_eq_true rfl) sl_33 rfl rfl hl.1 rfl (Nat.le_of_ble_eq_true rfl) dL_law_2372 ⟨by show _ ≤ 603072; omega, by show _ ≤ 7211114; omega⟩) hW (fun r7 M14 H locs h hW => ?_)
  obtain ⟨h, eM14⟩ := h
  rw [eM14] at hW
  refine lv_iload hx hb dL_law_2375 (lv_at hl 1 rfl) ?_
  refine lv_icmp_eq (tgt := 2382) hx hb dL_law_2377 (by decide) (fun k8 => ?_) (fun k8 => ?_)
  · have h := h.1 k8
    refine lv_iload hx hb dL_law_2382 (lv_at hl 1 rfl) ?_
    refine lv_if_ne (tgt := 2420) hx hb dL_law_2384 (by decide) (fun k9 => ?_) (fun k9 => ?_)
    · have h := h.2 k9
      refine lv_goto (tgt := 2873) hx hb dL_law_2420 (by decide) ?_
      exact nx M6 o3 d4 _ _ _ _ _ (by omega) (by omega) (lv_sub hl [2, 3, 4, 5, 6, 7] rfl) hW h
    · have h := h.1 k9
      refine lv_aload hx hb dL_law_2387 (lv_at hl 7 rfl) ?_
      refine lv_iconst (v := 0) hx hb dL_law_2389 (by decide) ?_
      refine sw_dl hx hb hW (vp_in_iff.mpr (by decide)) dL_law_2390 ?_
      refine lv_fload hx hb dL_law_2391 (lv_at hl 0 rfl) ?_
      have z10 := h.1
      have h := h.2
      refine lv_f2d hx hb dL_law_2393 z10 ?_
      refine lv_dcmp hx hb dL_law_2394 ?_
      refine lv_if_eq (tgt := 2420) hx hb dL_law_2395 (by decide) (fun k11 => ?_) (fun k11 => ?_)
      · have h := h.1 k11
        refine lv_goto (tgt := 2873) hx hb dL_law_2420 (by decide) ?_
        exact nx M6 o3 d4 _ _ _ _ _ (by omega) (by omega) (lv_sub hl [2, 3, 4, 5, 6, 7] rfl) hW h
      · have h := h.2 k11
        refine lv_aload hx hb dL_law_2398 (lv_at hl 7 rfl) ?_
        refine lv_iconst (v := 0) hx hb dL_law_2400 (by decide) ?_
        refine sw_dl hx hb hW (vp_in_iff.mpr (by decide)) dL_law_2401 ?_
        refine lv_aload hx hb dL_law_2402 (lv_at hl 7 rfl) ?_
        refine lv_iconst (v := 0) hx hb dL_law_2404 (by decide) ?_
        refine sw_dl hx hb hW (vp_in_iff.mpr (by decide)) dL_law_2405 ?_
        refine lv_dcmp hx hb dL_law_2406 ?_
        refine lv_if_eq (tgt := 2418) hx hb dL_law_2407 (by decide) (fun k12 => ?_) (fun k12 => ?_)
        · have h := h.1 k12
          refine lv_iconst (v := 0) hx hb dL_law_2418 (by decide) ?_
          exact h.elim
        · have h := h.2 k12
          refine lv_fload hx hb dL_law_2410 (lv_at hl 0 rfl) ?_
          refine lv_fload hx hb dL_law_2412 (lv_at hl 0 rfl) ?_
          refine lv_fcmp hx hb dL_law_2414 ?_
          refine lv_if_ne (tgt := 2420) hx hb dL_law_2415 (by decide) (fun k13 => ?_) (fun k13 => ?_)
          · have h := h.2 k13
            refine lv_goto (tgt := 2873) hx hb dL_law_2420 (by decide) ?_
            exact nx M6 o3 d4 _ _ _ _ _ (by omega) (by omega) (lv_sub hl [2, 3, 4, 5, 6, 7] rfl) hW h
          · have h := h.1 k13
            refine lv_iconst (v := 0) hx hb dL_law_2418 (by decide) ?_
            exact h.elim
  · have h := h.2 k8
    refine lv_iconst (v := 0) hx hb dL_law_2380 (by decide) ?_
    exact h.elim
def wcase_42 (L : Nat) (xs : Nat → Int32) (i : Int32) (M : sM) (o : sO) (d : sE) (N : sM → sO → sE → Prop) : Prop :=
  wX6_isConsistent M (fun r1 M2 => wX7_isConsistent M2 (fun r3 M4 => (r1 = r3 → (N M4 o d)) ∧ (¬ r1 = r3 → (False))))
set_option maxRecDepth 20000 in
theorem kcase_42 {p : Program} {l : Launch} {e : Env} {s : State} {m : MethodId} {below : List Frame} {meth : Method} {c : Code} {H : Heap} {locs : List Loc} {cells slots : Nat} {Q : State → Prop} {ls : Array Slot} {g : sG} {b L : Nat} {xs : Nat → Int32} (Z : zLw p l s m meth c b L xs g) {i : Int32} {M : sM} {o : sO} {d : sE} {N : sM → sO → sE → Prop} (hl : lv_has ls 9 (zLs g b i)) (hW : sw_Wd g o d M s H locs) (hc : cells + 8 ≤ 603072) (hs : slots + 48 ≤ 7211114) (h : wcase_42 L xs i M o d N)
    (nx : ∀ (M : sM) (o : sO) (d : sE) (H : Heap) (locs : List Loc) (ls : Array Slot) (cells' slots' : Nat), cells' ≤ cells + 8 → slots' ≤ slots + 48 → lv_has ls 9 (zLs g b i) → sw_Wd g o d M s H locs → N M o d → W p l e room_1 s m #[Value.ref b] below meth c H locs cells' slots' Q (F0 m 2873 ls [])) : W p l e room_1 s m #[Value.ref b] below meth c H locs cells slots Q (F0 m 2423 ls []) := by
  obtain ⟨hx, hb, hml, hown, hts, hX, hbl, hbA, hst⟩ := Z
  unfold wcase_42 at h
  refine lv_aload_n hx hb dL_law_2423 rfl (lv_at hl 2 rfl) ?_
  refine sw_ki (rest := []) (sw_runV (As := []) (rest := []) hx hb hml hown hts (kX6_isConsistent l g o d M _ h) cv_X6_isConsistent q_365 rfl rfl ⟨(Nat.le_of_ble_eq_true rfl), (Nat.le_of_ble_eq_true rfl)⟩ hW (Nat.le_of_ble_eq_true rfl) sl_0 rfl rfl hl.1 rfl (Nat.le_of_ble_eq_true rfl) dL_law_2424 ⟨by show _ ≤ 603072; omega, by show _ ≤ 7211114; omega⟩) hW (fun r1 M2 H locs h hW => ?_)
  refine lv_aload_n hx hb dL_law_2427 rfl (lv_at hl 3 rfl) ?_
  refine sw_ki (rest := [.int r1]) (sw_runV (As := []) (rest := [.int r1]) hx hb hml hown hts (kX7_isConsistent l g o d M2 _ h) cv_X7_isConsistent q_1272 rfl rfl ⟨(Nat.le_of_ble_eq_true rfl), (Nat.le_of_ble_eq_true rfl)⟩ hW (Nat.le_of_ble_eq_true rfl) sl_33 rfl rfl hl.1 rfl (Nat.le_of_ble_eq_true rfl) dL_law_2428 ⟨by show _ ≤ 603072; omega, by show _ ≤ 7211114; omega⟩) hW (fun r3 M4 H locs h hW => ?_)
  refine lv_icmp_eq (tgt := 2873) hx hb dL_law_2431 (by decide) (fun k5 => ?_) (fun k5 => ?_)
  · have h := h.1 k5
    exact nx M4 o d _ _ _ _ _ (by omega) (by omega) (lv_sub hl [0, 1, 2, 3, 4, 5] rfl) hW h
  · have h := h.2 k5
    refine lv_iconst (v := 0) hx hb dL_law_2434 (by decide) ?_
    exact h.elim
def wcase_43 (L : Nat) (xs : Nat → Int32) (i : Int32) (M : sM) (o : sO) (d : sE) (N : sM → sO → sE → Prop) : Prop :=
  vp_in (i + (1 : Int32)) L ∧ (∀ v2 : Int32, v2 = (((xs ((i + (1 : Int32))).toNatClampNeg)).toUInt32 % 65536).toInt32 → (wL_append v2 M o d (fun r3 M4 o5 d6 => vp_in (i + (1 : Int32)) L ∧ (∀ v8 : Int32, v8 = (((xs ((i + (1 : Int32))).toNatClampNeg)).toUInt32 % 65536).toInt32 → (wX7_append v8 M4 (fun r9 M10 => wX7_thrown M10 (fun r11 => (r11 = r3 → ((r3 = 0 → (((lg_cmp (o5 ((0 : Int32)).toNatClampNeg) (r9).toInt64) = 0 → (N M10 o5 d6)) ∧ (¬ (lg_cmp (o5 ((0 : Int32)).toNatClampNeg) (r9).toInt64) = 0 → (False)))) ∧ (¬ r3 = 0 → (N M10 o5 d6)))) ∧ (¬ r11 = r3 → (False)))))))))
set_option maxRecDepth 20000 in
theorem kcase_43 {p : Program} {l : Launch} {e : Env} {s : State} {m : MethodId} {below : List Frame} {meth : Method} {c : Code} {H : Heap} {locs : List Loc} {cells slots : Nat} {Q : State → Prop} {ls : Array Slot} {g : sG} {b L : Nat} {xs : Nat → Int32} (Z : zLw p l s m meth c b L xs g) {i : Int32} {M : sM} {o : sO} {d : sE} {N : sM → sO → sE → Prop} (hl : lv_has ls 9 (zLs g b i)) (hW : sw_Wd g o d M s H locs) (hc : cells + 8 ≤ 603072) (hs : slots + 48 ≤ 7211114) (h : wcase_43 L xs i M o d N)
    (nx : ∀ (M : sM) (o : sO) (d : sE) (H : Heap) (locs : List Loc) (ls : Array Slot) (cells' slots' : Nat), cells' ≤ cells + 8 → slots' ≤ slots + 48 → lv_has ls 9 (zLs g b i) → sw_Wd g o d M s H locs → N M o d → W p l e room_1 s m #[Value.ref b] below meth c H locs cells' slots' Q (F0 m 2873 ls [])) : W p l e room_1 s m #[Value.ref b] below meth c H locs cells slots Q (F0 m 2436 ls []) := by
  obtain ⟨hx, hb, hml, hown, hts, hX, hbl, hbA, hst⟩ := Z
  unfold wcase_43 at h
  refine lv_aload_n hx hb dL_law_2436 rfl (lv_at hl 2 rfl) ?_
  refine lv_aload_n hx hb dL_law_2437 rfl (lv_at hl 1 rfl) ?_
  refine lv_iload hx hb dL_law_2438 (lv_at hl 0 rfl) ?_
  refine lv_iconst (v := 1) hx hb dL_law_2440 (by decide) ?_
  refine lv_iadd hx hb dL_law_2441 ?_
  have b1 := h.1
  have h := h.2
  refine va_sld hx hb hX hbl hbA hW.2.1 b1 dL_law_2442 ?_
  refine lv_i2c hx hb dL_law_2443 rfl ?_
  refine lv_topi (fun v2 ev2 => ?_)
  have h := h v2 ev2
  refine lv_aload_n hx hb dL_law_2444 rfl (lv_at hl 4 rfl) ?_
  refine sw_k3 (rest := []) (sw_runH (As := [.ref (sw_ad g 0), .int v2, .ref (sw_ad g 233)]) (rest := []) hx hb hml hown hts (kL_append l hst g v2 M o d _ h) ch_L_append q_760 rfl rfl ⟨(Nat.le_of_ble_eq_true rfl), (Nat.le_of_ble_eq_true rfl)⟩ hW rfl hl.1 rfl (Nat.le_of_ble_eq_true rfl) dL_law_2445 ⟨by show _ ≤ 603072; omega, by show _ ≤ 7211114; omega⟩) hW (fun r3 M4 o5 d6 H locs h hW => ?_)
  refine lv_istore (lv' := [(6, .int r3), (5, .int i), (0, .ref b), (1, .ref (sw_ad g 0)), (2, .ref (sw_ad g 33)), (3, .ref (sw_ad g 233)), (4, .ref (sw_ad g 234))]) hx hb dL_law_2448 hl (Nat.le_of_ble_eq_true rfl) rfl (fun ls hl => ?_)
  refine lv_aload_n hx hb dL_law_2450 rfl (lv_at hl 4 rfl) ?_
  refine lv_aload_n hx hb dL_law_2451 rfl (lv_at hl 2 rfl) ?_
  refine lv_iload hx hb dL_law_2452 (lv_at hl 1 rfl) ?_
  refine lv_iconst (v := 1) hx hb dL_law_2454 (by decide) ?_
  refine lv_iadd hx hb dL_law_2455 ?_
  have b7 := h.1
  have h := h.2
  refine va_sld hx hb hX hbl hbA hW.2.1 b7 dL_law_2456 ?_
  refine lv_i2c hx hb dL_law_2457 rfl ?_
  refine lv_topi (fun v8 ev8 => ?_)
  have h := h v8 ev8
  refine sw_ki (rest := []) (sw_runV (As := [.int v8]) (rest := []) hx hb hml hown hts (kX7_append l g o5 d6 v8 M4 _ h) cv_X7_append q_1276 rfl rfl ⟨(Nat.le_of_ble_eq_true rfl), (Nat.le_of_ble_eq_true rfl)⟩ hW (Nat.le_of_ble_eq_true rfl) sl_33 rfl rfl hl.1 rfl (Nat.le_of_ble_eq_true rfl) dL_law_2458 ⟨by show _ ≤ 603072; omega, by show _ ≤ 7211114; omega⟩) hW (fun r9 M10 H locs h hW => ?_)
  refine lv_istore (lv' := [(7, .int r9), (6, .int r3), (5, .int i), (0, .ref b), (1, .ref (sw_ad g 0)), (2, .ref (sw_ad g 33)), (3, .ref (sw_ad g 233)), (4, .ref (sw_ad g 234))]) hx hb dL_law_2461 hl (Nat.le_of_ble_eq_true rfl) rfl (fun ls hl => ?_)
  refine lv_aload_n hx hb dL_law_2463 rfl (lv_at hl 5 rfl) ?_
  refine sw_ki (rest := []) (sw_runV (As := []) (rest := []) hx hb hml hown hts (kX7_thrown l g o5 d6 M10 _ h) cv_X7_thrown q_966 rfl rfl ⟨(Nat.le_of_ble_eq_true rfl), (Nat.le_of_ble_eq_true rfl)⟩ hW (Nat.le_of_ble_eq_true rfl) sl_33 rfl rfl hl.1 rfl (Nat.le_of_ble_eq_true rfl) dL_law_2464 ⟨by show _ ≤ 603072; omega, by show _ ≤ 7211114; omega⟩) hW (fun r11 M15 H locs h hW => ?_)
  obtain ⟨h, eM15⟩ := h
  rw [eM15] at hW
  refine lv_iload hx hb dL_law_2467 (lv_at hl 1 rfl) ?_
  refine lv_icmp_eq (tgt := 2474) hx hb dL_law_2469 (by decide) (fun k12 => ?_) (fun k12 => ?_)
  · have h := h.1 k12
    refine lv_iload hx hb dL_law_2474 (lv_at hl 1 rfl) ?_
    refine lv_if_ne (tgt := 2491) hx hb dL_law_2476 (by decide) (fun k13 => ?_) (fun k13 => ?_)
    · have h := h.2 k13
      refine lv_goto (tgt := 2873) hx hb dL_law_2491 (by decide) ?_
      exact nx M10 o5 d6 _ _ _ _ _ (by omega) (by omega) (lv_sub hl [2, 3, 4, 5, 6, 7] rfl) hW h
    · have h := h.1 k13
      refine lv_aload_n hx hb dL_law_2479 rfl (lv_at hl 6 rfl) ?_
      refine lv_iconst (v := 0) hx hb dL_law_2480 (by decide) ?_
      refine sw_ll hx hb hW (vp_in_iff.mpr (by decide)) dL_law_2481 ?_
      refine lv_iload hx hb dL_law_2482 (lv_at hl 0 rfl) ?_
      refine lv_i2l hx hb dL_law_2484 rfl ?_
      refine W.lcmp hx hb dL_law_2485 ?_
      refine lv_if_eq (tgt := 2491) hx hb dL_law_2486 (by decide) (fun k14 => ?_) (fun k14 => ?_)
      · have h := h.1 k14
        refine lv_goto (tgt := 2873) hx hb dL_law_2491 (by decide) ?_
        exact nx M10 o5 d6 _ _ _ _ _ (by omega) (by omega) (lv_sub hl [2, 3, 4, 5, 6, 7] rfl) hW h
      · have h := h.2 k14
        refine lv_iconst (v := 0) hx hb dL_law_2489 (by decide) ?_
        exact h.elim
  · have h := h.2 k12
    refine lv_iconst (v := 0) hx hb dL_law_2472 (by decide) ?_
    exact h.elim
def wcase_44 (L : Nat) (xs : Nat → Int32) (i : Int32) (M : sM) (o : sO) (d : sE) (N : sM → sO → sE → Prop) : Prop :=
  wL_run  M o d (fun r1 M2 o3 d4 => wX7_run M2 (fun r5 M6 => wX7_thrown M6 (fun r7 => (r7 = r1 → ((r1 = 0 → (((lg_cmp (o3 ((0 : Int32)).toNatClampNeg) (r5).toInt64) = 0 → (N M6 o3 d4)) ∧ (¬ (lg_cmp (o3 ((0 : Int32)).toNatClampNeg) (r5).toInt64) = 0 → (False)))) ∧ (¬ r1 = 0 → (N M6 o3 d4)))) ∧ (¬ r7 = r1 → (False)))))
set_option maxRecDepth 20000 in
theorem kcase_44 {p : Program} {l : Launch} {e : Env} {s : State} {m : MethodId} {below : List Frame} {meth : Method} {c : Code} {H : Heap} {locs : List Loc} {cells slots : Nat} {Q : State → Prop} {ls : Array Slot} {g : sG} {b L : Nat} {xs : Nat → Int32} (Z : zLw p l s m meth c b L xs g) {i : Int32} {M : sM} {o : sO} {d : sE} {N : sM → sO → sE → Prop} (hl : lv_has ls 9 (zLs g b i)) (hW : sw_Wd g o d M s H locs) (hc : cells + 8 ≤ 603072) (hs : slots + 48 ≤ 7211114) (h : wcase_44 L xs i M o d N)
    (nx : ∀ (M : sM) (o : sO) (d : sE) (H : Heap) (locs : List Loc) (ls : Array Slot) (cells' slots' : Nat), cells' ≤ cells + 8 → slots' ≤ slots + 48 → lv_has ls 9 (zLs g b i) → sw_Wd g o d M s H locs → N M o d → W p l e room_1 s m #[Value.ref b] below meth c H locs cells' slots' Q (F0 m 2873 ls [])) : W p l e room_1 s m #[Value.ref b] below meth c H locs cells slots Q (F0 m 2494 ls []) := by
  obtain ⟨hx, hb, hml, hown, hts, hX, hbl, hbA, hst⟩ := Z
  unfold wcase_44 at h
  refine lv_aload_n hx hb dL_law_2494 rfl (lv_at hl 2 rfl) ?_
  refine lv_aload_n hx hb dL_law_2495 rfl (lv_at hl 4 rfl) ?_
  refine sw_k3 (rest := []) (sw_runH (As := [.ref (sw_ad g 0), .ref (sw_ad g 233)]) (rest := []) hx hb hml hown hts (kL_run l hst g  M o d _ h) ch_L_run q_774 rfl rfl ⟨(Nat.le_of_ble_eq_true rfl), (Nat.le_of_ble_eq_true rfl)⟩ hW rfl hl.1 rfl (Nat.le_of_ble_eq_true rfl) dL_law_2496 ⟨by show _ ≤ 603072; omega, by show _ ≤ 7211114; omega⟩) hW (fun r1 M2 o3 d4 H locs h hW => ?_)
  refine lv_istore (lv' := [(6, .int r1), (5, .int i), (0, .ref b), (1, .ref (sw_ad g 0)), (2, .ref (sw_ad g 33)), (3, .ref (sw_ad g 233)), (4, .ref (sw_ad g 234))]) hx hb dL_law_2499 hl (Nat.le_of_ble_eq_true rfl) rfl (fun ls hl => ?_)
  refine lv_aload_n hx hb dL_law_2501 rfl (lv_at hl 4 rfl) ?_
  refine sw_ki (rest := []) (sw_runV (As := []) (rest := []) hx hb hml hown hts (kX7_run l g o3 d4 M2 _ h) cv_X7_run q_1280 rfl rfl ⟨(Nat.le_of_ble_eq_true rfl), (Nat.le_of_ble_eq_true rfl)⟩ hW (Nat.le_of_ble_eq_true rfl) sl_33 rfl rfl hl.1 rfl (Nat.le_of_ble_eq_true rfl) dL_law_2502 ⟨by show _ ≤ 603072; omega, by show _ ≤ 7211114; omega⟩) hW (fun r5 M6 H locs h hW => ?_)
  refine lv_istore (lv' := [(7, .int r5), (6, .int r1), (5, .int i), (0, .ref b), (1, .ref (sw_ad g 0)), (2, .ref (sw_ad g 33)), (3, .ref (sw_ad g 233)), (4, .ref (sw_ad g 234))]) hx hb dL_law_2505 hl (Nat.le_of_ble_eq_true rfl) rfl (fun ls hl => ?_)
  refine lv_aload_n hx hb dL_law_2507 rfl (lv_at hl 5 rfl) ?_
  refine sw_ki (rest := []) (sw_runV (As := []) (rest := []) hx hb hml hown hts (kX7_thrown l g o3 d4 M6 _ h) cv_X7_thrown q_966 rfl rfl ⟨(Nat.le_of_ble_eq_true rfl), (Nat.le_of_ble_eq_true rfl)⟩ hW (Nat.le_of_ble_eq_true rfl) sl_33 rfl rfl hl.1 rfl (Nat.le_of_ble_eq_true rfl) dL_law_2508 ⟨by show _ ≤ 603072; omega, by show _ ≤ 7211114; omega⟩) hW (fun r7 M11 H locs h hW => ?_)
  obtain ⟨h, eM11⟩ := h
  rw [eM11] at hW
  refine lv_iload hx hb dL_law_2511 (lv_at hl 1 rfl) ?_
  refine lv_icmp_eq (tgt := 2518) hx hb dL_law_2513 (by decide) (fun k8 => ?_) (fun k8 => ?_)
  · have h := h.1 k8
    refine lv_iload hx hb dL_law_2518 (lv_at hl 1 rfl) ?_
    refine lv_if_ne (tgt := 2535) hx hb dL_law_2520 (by decide) (fun k9 => ?_) (fun k9 => ?_)
    · have h := h.2 k9
      refine lv_goto (tgt := 2873) hx hb dL_law_2535 (by decide) ?_
      exact nx M6 o3 d4 _ _ _ _ _ (by omega) (by omega) (lv_sub hl [2, 3, 4, 5, 6, 7] rfl) hW h
    · have h := h.1 k9
      refine lv_aload_n hx hb dL_law_2523 rfl (lv_at hl 6 rfl) ?_
      refine lv_iconst (v := 0) hx hb dL_law_2524 (by decide) ?_
      refine sw_ll hx hb hW (vp_in_iff.mpr (by decide)) dL_law_2525 ?_
      refine lv_iload hx hb dL_law_2526 (lv_at hl 0 rfl) ?_
      refine lv_i2l hx hb dL_law_2528 rfl ?_
      refine W.lcmp hx hb dL_law_2529 ?_
      refine lv_if_eq (tgt := 2535) hx hb dL_law_2530 (by decide) (fun k10 => ?_) (fun k10 => ?_)
      · have h := h.1 k10
        refine lv_goto (tgt := 2873) hx hb dL_law_2535 (by decide) ?_
        exact nx M6 o3 d4 _ _ _ _ _ (by omega) (by omega) (lv_sub hl [2, 3, 4, 5, 6, 7] rfl) hW h
      · have h := h.2 k10
        refine lv_iconst (v := 0) hx hb dL_law_2533 (by decide) ?_
        exact h.elim
  · have h := h.2 k8
    refine lv_iconst (v := 0) hx hb dL_law_2516 (by decide) ?_
    exact h.elim
def wcase_45 (L : Nat) (xs : Nat → Int32) (i : Int32) (M : sM) (o : sO) (d : sE) (N : sM → sO → sE → Prop) : Prop :=
  wL_errorPosition  M o d (fun r1 M2 o3 d4 => wX7_errorPosition M2 (fun r5 M6 => wX7_thrown M6 (fun r7 => (r7 = r1 → ((r1 = 0 → (((lg_cmp (o3 ((0 : Int32)).toNatClampNeg) (r5).toInt64) = 0 → (N M6 o3 d4)) ∧ (¬ (lg_cmp (o3 ((0 : Int32)).toNatClampNeg) (r5).toInt64) = 0 → (False)))) ∧ (¬ r1 = 0 → (N M6 o3 d4)))) ∧ (¬ r7 = r1 → (False)))))
set_option maxRecDepth 20000 in
theorem kcase_45 {p : Program} {l : Launch} {e : Env} {s : State} {m : MethodId} {below : List Frame} {meth : Method} {c : Code} {H : Heap} {locs : List Loc} {cells slots : Nat} {Q : State → Prop} {ls : Array Slot} {g : sG} {b L : Nat} {xs : Nat → Int32} (Z : zLw p l s m meth c b L xs g) {i : Int32} {M : sM} {o : sO} {d : sE} {N : sM → sO → sE → Prop} (hl : lv_has ls 9 (zLs g b i)) (hW : sw_Wd g o d M s H locs) (hc : cells + 8 ≤ 603072) (hs : slots + 48 ≤ 7211114) (h : wcase_45 L xs i M o d N)
    (nx : ∀ (M : sM) (o : sO) (d : sE) (H : Heap) (locs : List Loc) (ls : Array Slot) (cells' slots' : Nat), cells' ≤ cells + 8 → slots' ≤ slots + 48 → lv_has ls 9 (zLs g b i) → sw_Wd g o d M s H locs → N M o d → W p l e room_1 s m #[Value.ref b] below meth c H locs cells' slots' Q (F0 m 2873 ls [])) : W p l e room_1 s m #[Value.ref b] below meth c H locs cells slots Q (F0 m 2538 ls []) := by
  obtain ⟨hx, hb, hml, hown, hts, hX, hbl, hbA, hst⟩ := Z
  unfold wcase_45 at h
  refine lv_aload_n hx hb dL_law_2538 rfl (lv_at hl 2 rfl) ?_
  refine lv_aload_n hx hb dL_law_2539 rfl (lv_at hl 4 rfl) ?_
  refine sw_k3 (rest := []) (sw_runH (As := [.ref (sw_ad g 0), .ref (sw_ad g 233)]) (rest := []) hx hb hml hown hts (kL_errorPosition l hst g  M o d _ h) ch_L_errorPosition q_863 rfl rfl ⟨(Nat.le_of_ble_eq_true rfl), (Nat.le_of_ble_eq_true rfl)⟩ hW rfl hl.1 rfl (Nat.le_of_ble_eq_true rfl) dL_law_2540 ⟨by show _ ≤ 603072; omega, by show _ ≤ 7211114; omega⟩) hW (fun r1 M2 o3 d4 H locs h hW => ?_)
  refine lv_istore (lv' := [(6, .int r1), (5, .int i), (0, .ref b), (1, .ref (sw_ad g 0)), (2, .ref (sw_ad g 33)), (3, .ref (sw_ad g 233)), (4, .ref (sw_ad g 234))]) hx hb dL_law_2543 hl (Nat.le_of_ble_eq_true rfl) rfl (fun ls hl => ?_)
  refine lv_aload_n hx hb dL_law_2545 rfl (lv_at hl 4 rfl) ?_
  refine sw_ki (rest := []) (sw_runV (As := []) (rest := []) hx hb hml hown hts (kX7_errorPosition l g o3 d4 M2 _ h) cv_X7_errorPosition q_1307 rfl rfl ⟨(Nat.le_of_ble_eq_true rfl), (Nat.le_of_ble_eq_true rfl)⟩ hW (Nat.le_of_ble_eq_true rfl) sl_33 rfl rfl hl.1 rfl (Nat.le_of_ble_eq_true rfl) dL_law_2546 ⟨by show _ ≤ 603072; omega, by show _ ≤ 7211114; omega⟩) hW (fun r5 M6 H locs h hW => ?_)
  refine lv_istore (lv' := [(7, .int r5), (6, .int r1), (5, .int i), (0, .ref b), (1, .ref (sw_ad g 0)), (2, .ref (sw_ad g 33)), (3, .ref (sw_ad g 233)), (4, .ref (sw_ad g 234))]) hx hb dL_law_2549 hl (Nat.le_of_ble_eq_true rfl) rfl (fun ls hl => ?_)
  refine lv_aload_n hx hb dL_law_2551 rfl (lv_at hl 5 rfl) ?_
  refine sw_ki (rest := []) (sw_runV (As := []) (rest := []) hx hb hml hown hts (kX7_thrown l g o3 d4 M6 _ h) cv_X7_thrown q_966 rfl rfl ⟨(Nat.le_of_ble_eq_true rfl), (Nat.le_of_ble_eq_true rfl)⟩ hW (Nat.le_of_ble_eq_true rfl) sl_33 rfl rfl hl.1 rfl (Nat.le_of_ble_eq_true rfl) dL_law_2552 ⟨by show _ ≤ 603072; omega, by show _ ≤ 7211114; omega⟩) hW (fun r7 M11 H locs h hW => ?_)
  obtain ⟨h, eM11⟩ := h
  rw [eM11] at hW
  refine lv_iload hx hb dL_law_2555 (lv_at hl 1 rfl) ?_
  refine lv_icmp_eq (tgt := 2562) hx hb dL_law_2557 (by decide) (fun k8 => ?_) (fun k8 => ?_)
  · have h := h.1 k8
    refine lv_iload hx hb dL_law_2562 (lv_at hl 1 rfl) ?_
    refine lv_if_ne (tgt := 2579) hx hb dL_law_2564 (by decide) (fun k9 => ?_) (fun k9 => ?_)
    · have h := h.2 k9
      refine lv_goto (tgt := 2873) hx hb dL_law_2579 (by decide) ?_
      exact nx M6 o3 d4 _ _ _ _ _ (by omega) (by omega) (lv_sub hl [2, 3, 4, 5, 6, 7] rfl) hW h
    · have h := h.1 k9
      refine lv_aload_n hx hb dL_law_2567 rfl (lv_at hl 6 rfl) ?_
      refine lv_iconst (v := 0) hx hb dL_law_2568 (by decide) ?_
      refine sw_ll hx hb hW (vp_in_iff.mpr (by decide)) dL_law_2569 ?_
      refine lv_iload hx hb dL_law_2570 (lv_at hl 0 rfl) ?_
      refine lv_i2l hx hb dL_law_2572 rfl ?_
      refine W.lcmp hx hb dL_law_2573 ?_
      refine lv_if_eq (tgt := 2579) hx hb dL_law_2574 (by decide) (fun k10 => ?_) (fun k10 => ?_)
      · have h := h.1 k10
        refine lv_goto (tgt := 2873) hx hb dL_law_2579 (by decide) ?_
        exact nx M6 o3 d4 _ _ _ _ _ (by omega) (by omega) (lv_sub hl [2, 3, 4, 5, 6, 7] rfl) hW h
      · have h := h.2 k10
        refine lv_iconst (v := 0) hx hb dL_law_2577 (by decide) ?_
        exact h.elim
  · have h := h.2 k8
    refine lv_iconst (v := 0) hx hb dL_law_2560 (by decide) ?_
    exact h.elim
def wcase_46 (L : Nat) (xs : Nat → Int32) (i : Int32) (M : sM) (o : sO) (d : sE) (N : sM → sO → sE → Prop) : Prop :=
  wL_failedCommand  M o d (fun r1 M2 o3 d4 => wX7_failedCommand M2 (fun r5 M6 => wX7_thrown M6 (fun r7 => (r7 = r1 → ((r1 = 0 → (((lg_cmp (o3 ((0 : Int32)).toNatClampNeg) (r5).toInt64) = 0 → (N M6 o3 d4)) ∧ (¬ (lg_cmp (o3 ((0 : Int32)).toNatClampNeg) (r5).toInt64) = 0 → (False)))) ∧ (¬ r1 = 0 → (N M6 o3 d4)))) ∧ (¬ r7 = r1 → (False)))))
set_option maxRecDepth 20000 in
theorem kcase_46 {p : Program} {l : Launch} {e : Env} {s : State} {m : MethodId} {below : List Frame} {meth : Method} {c : Code} {H : Heap} {locs : List Loc} {cells slots : Nat} {Q : State → Prop} {ls : Array Slot} {g : sG} {b L : Nat} {xs : Nat → Int32} (Z : zLw p l s m meth c b L xs g) {i : Int32} {M : sM} {o : sO} {d : sE} {N : sM → sO → sE → Prop} (hl : lv_has ls 9 (zLs g b i)) (hW : sw_Wd g o d M s H locs) (hc : cells + 8 ≤ 603072) (hs : slots + 48 ≤ 7211114) (h : wcase_46 L xs i M o d N)
    (nx : ∀ (M : sM) (o : sO) (d : sE) (H : Heap) (locs : List Loc) (ls : Array Slot) (cells' slots' : Nat), cells' ≤ cells + 8 → slots' ≤ slots + 48 → lv_has ls 9 (zLs g b i) → sw_Wd g o d M s H locs → N M o d → W p l e room_1 s m #[Value.ref b] below meth c H locs cells' slots' Q (F0 m 2873 ls [])) : W p l e room_1 s m #[Value.ref b] below meth c H locs cells slots Q (F0 m 2582 ls []) := by
  obtain ⟨hx, hb, hml, hown, hts, hX, hbl, hbA, hst⟩ := Z
  unfold wcase_46 at h
  refine lv_aload_n hx hb dL_law_2582 rfl (lv_at hl 2 rfl) ?_
  refine lv_aload_n hx hb dL_law_2583 rfl (lv_at hl 4 rfl) ?_
  refine sw_k3 (rest := []) (sw_runH (As := [.ref (sw_ad g 0), .ref (sw_ad g 233)]) (rest := []) hx hb hml hown hts (kL_failedCommand l hst g  M o d _ h) ch_L_failedCommand q_869 rfl rfl ⟨(Nat.le_of_ble_eq_true rfl), (Nat.le_of_ble_eq_true rfl)⟩ hW rfl hl.1 rfl (Nat.le_of_ble_eq_true rfl) dL_law_2584 ⟨by show _ ≤ 603072; omega, by show _ ≤ 7211114; omega⟩) hW (fun r1 M2 o3 d4 H locs h hW => ?_)
  refine lv_istore (lv' := [(6, .int r1), (5, .int i), (0, .ref b), (1, .ref (sw_ad g 0)), (2, .ref (sw_ad g 33)), (3, .ref (sw_ad g 233)), (4, .ref (sw_ad g 234))]) hx hb dL_law_2587 hl (Nat.le_of_ble_eq_true rfl) rfl (fun ls hl => ?_)
  refine lv_aload_n hx hb dL_law_2589 rfl (lv_at hl 4 rfl) ?_
  refine sw_ki (rest := []) (sw_runV (As := []) (rest := []) hx hb hml hown hts (kX7_failedCommand l g o3 d4 M2 _ h) cv_X7_failedCommand q_1311 rfl rfl ⟨(Nat.le_of_ble_eq_true rfl), (Nat.le_of_ble_eq_true rfl)⟩ hW (Nat.le_of_ble_eq_true rfl) sl_33 rfl rfl hl.1 rfl (Nat.le_of_ble_eq_true rfl) dL_law_2590 ⟨by show _ ≤ 603072; omega, by show _ ≤ 7211114; omega⟩) hW (fun r5 M6 H locs h hW => ?_)
  refine lv_istore (lv' := [(7, .int r5), (6, .int r1), (5, .int i), (0, .ref b), (1, .ref (sw_ad g 0)), (2, .ref (sw_ad g 33)), (3, .ref (sw_ad g 233)), (4, .ref (sw_ad g 234))]) hx hb dL_law_2593 hl (Nat.le_of_ble_eq_true rfl) rfl (fun ls hl => ?_)
  refine lv_aload_n hx hb dL_law_2595 rfl (lv_at hl 5 rfl) ?_
  refine sw_ki (rest := []) (sw_runV (As := []) (rest := []) hx hb hml hown hts (kX7_thrown l g o3 d4 M6 _ h) cv_X7_thrown q_966 rfl rfl ⟨(Nat.le_of_ble_eq_true rfl), (Nat.le_of_ble_eq_true rfl)⟩ hW (Nat.le_of_ble_eq_true rfl) sl_33 rfl rfl hl.1 rfl (Nat.le_of_ble_eq_true rfl) dL_law_2596 ⟨by show _ ≤ 603072; omega, by show _ ≤ 7211114; omega⟩) hW (fun r7 M11 H locs h hW => ?_)
  obtain ⟨h, eM11⟩ := h
  rw [eM11] at hW
  refine lv_iload hx hb dL_law_2599 (lv_at hl 1 rfl) ?_
  refine lv_icmp_eq (tgt := 2606) hx hb dL_law_2601 (by decide) (fun k8 => ?_) (fun k8 => ?_)
  · have h := h.1 k8
    refine lv_iload hx hb dL_law_2606 (lv_at hl 1 rfl) ?_
    refine lv_if_ne (tgt := 2623) hx hb dL_law_2608 (by decide) (fun k9 => ?_) (fun k9 => ?_)
    · have h := h.2 k9
      refine lv_goto (tgt := 2873) hx hb dL_law_2623 (by decide) ?_
      exact nx M6 o3 d4 _ _ _ _ _ (by omega) (by omega) (lv_sub hl [2, 3, 4, 5, 6, 7] rfl) hW h
    · have h := h.1 k9
      refine lv_aload_n hx hb dL_law_2611 rfl (lv_at hl 6 rfl) ?_
      refine lv_iconst (v := 0) hx hb dL_law_2612 (by decide) ?_
      refine sw_ll hx hb hW (vp_in_iff.mpr (by decide)) dL_law_2613 ?_
      refine lv_iload hx hb dL_law_2614 (lv_at hl 0 rfl) ?_
      refine lv_i2l hx hb dL_law_2616 rfl ?_
      refine W.lcmp hx hb dL_law_2617 ?_
      refine lv_if_eq (tgt := 2623) hx hb dL_law_2618 (by decide) (fun k10 => ?_) (fun k10 => ?_)
      · have h := h.1 k10
        refine lv_goto (tgt := 2873) hx hb dL_law_2623 (by decide) ?_
        exact nx M6 o3 d4 _ _ _ _ _ (by omega) (by omega) (lv_sub hl [2, 3, 4, 5, 6, 7] rfl) hW h
      · have h := h.2 k10
        refine lv_iconst (v := 0) hx hb dL_law_2621 (by decide) ?_
        exact h.elim
  · have h := h.2 k8
    refine lv_iconst (v := 0) hx hb dL_law_2604 (by decide) ?_
    exact h.elim
def wcase_47 (L : Nat) (xs : Nat → Int32) (i : Int32) (M : sM) (o : sO) (d : sE) (N : sM → sO → sE → Prop) : Prop :=
  vp_in (i + (1 : Int32)) L ∧ (wL_writeDoor (xs ((i + (1 : Int32))).toNatClampNeg) M o d (fun r2 M3 o4 d5 => vp_in (i + (1 : Int32)) L ∧ (wX7_writeDoor (xs ((i + (1 : Int32))).toNatClampNeg) M3 (fun r7 M8 => wX7_thrown M8 (fun r9 => (r9 = r2 → ((r2 = 0 → (((lg_cmp (o4 ((0 : Int32)).toNatClampNeg) (r7).toInt64) = 0 → (N M8 o4 d5)) ∧ (¬ (lg_cmp (o4 ((0 : Int32)).toNatClampNeg) (r7).toInt64) = 0 → (False)))) ∧ (¬ r2 = 0 → (N M8 o4 d5)))) ∧ (¬ r9 = r2 → (False)))))))
set_option maxRecDepth 20000 in
theorem kcase_47 {p : Program} {l : Launch} {e : Env} {s : State} {m : MethodId} {below : List Frame} {meth : Method} {c : Code} {H : Heap} {locs : List Loc} {cells slots : Nat} {Q : State → Prop} {ls : Array Slot} {g : sG} {b L : Nat} {xs : Nat → Int32} (Z : zLw p l s m meth c b L xs g) {i : Int32} {M : sM} {o : sO} {d : sE} {N : sM → sO → sE → Prop} (hl : lv_has ls 9 (zLs g b i)) (hW : sw_Wd g o d M s H locs) (hc : cells + 8 ≤ 603072) (hs : slots + 48 ≤ 7211114) (h : wcase_47 L xs i M o d N)
    (nx : ∀ (M : sM) (o : sO) (d : sE) (H : Heap) (locs : List Loc) (ls : Array Slot) (cells' slots' : Nat), cells' ≤ cells + 8 → slots' ≤ slots + 48 → lv_has ls 9 (zLs g b i) → sw_Wd g o d M s H locs → N M o d → W p l e room_1 s m #[Value.ref b] below meth c H locs cells' slots' Q (F0 m 2873 ls [])) : W p l e room_1 s m #[Value.ref b] below meth c H locs cells slots Q (F0 m 2626 ls []) := by
  obtain ⟨hx, hb, hml, hown, hts, hX, hbl, hbA, hst⟩ := Z
  unfold wcase_47 at h
  refine lv_aload_n hx hb dL_law_2626 rfl (lv_at hl 2 rfl) ?_
  refine lv_aload_n hx hb dL_law_2627 rfl (lv_at hl 1 rfl) ?_
  refine lv_iload hx hb dL_law_2628 (lv_at hl 0 rfl) ?_
  refine lv_iconst (v := 1) hx hb dL_law_2630 (by decide) ?_
  refine lv_iadd hx hb dL_law_2631 ?_
  have b1 := h.1
  have h := h.2
  refine va_sld hx hb hX hbl hbA hW.2.1 b1 dL_law_2632 ?_
  refine lv_aload_n hx hb dL_law_2633 rfl (lv_at hl 4 rfl) ?_
  refine sw_k3 (rest := []) (sw_runH (As := [.ref (sw_ad g 0), .int (xs ((i + (1 : Int32))).toNatClampNeg), .ref (sw_ad g 233)]) (rest := []) hx hb hml hown hts (kL_writeDoor l hst g (xs ((i + (1 : Int32))).toNatClampNeg) M o d _ h) ch_L_writeDoor q_875 rfl rfl ⟨(Nat.le_of_ble_eq_true rfl), (Nat.le_of_ble_eq_true rfl)⟩ hW rfl hl.1 rfl (Nat.le_of_ble_eq_true rfl) dL_law_2634 ⟨by show _ ≤ 603072; omega, by show _ ≤ 7211114; omega⟩) hW (fun r2 M3 o4 d5 H locs h hW => ?_)
  refine lv_istore (lv' := [(6, .int r2), (5, .int i), (0, .ref b), (1, .ref (sw_ad g 0)), (2, .ref (sw_ad g 33)), (3, .ref (sw_ad g 233)), (4, .ref (sw_ad g 234))]) hx hb dL_law_2637 hl (Nat.le_of_ble_eq_true rfl) rfl (fun ls hl => ?_)
  refine lv_aload_n hx hb dL_law_2639 rfl (lv_at hl 4 rfl) ?_
  refine lv_aload_n hx hb dL_law_2640 rfl (lv_at hl 2 rfl) ?_
  refine lv_iload hx hb dL_law_2641 (lv_at hl 1 rfl) ?_
  refine lv_iconst (v := 1) hx hb dL_law_2643 (by decide) ?_
  refine lv_iadd hx hb dL_law_2644 ?_
  have b6 := h.1
  have h := h.2
  refine va_sld hx hb hX hbl hbA hW.2.1 b6 dL_law_2645 ?_
  refine sw_ki (rest := []) (sw_runV (As := [.int (xs ((i + (1 : Int32))).toNatClampNeg)]) (rest := []) hx hb hml hown hts (kX7_writeDoor l g o4 d5 (xs ((i + (1 : Int32))).toNatClampNeg) M3 _ h) cv_X7_writeDoor q_1315 rfl rfl ⟨(Nat.le_of_ble_eq_true rfl), (Nat.le_of_ble_eq_true rfl)⟩ hW (Nat.le_of_ble_eq_true rfl) sl_33 rfl rfl hl.1 rfl (Nat.le_of_ble_eq_true rfl) dL_law_2646 ⟨by show _ ≤ 603072; omega, by show _ ≤ 7211114; omega⟩) hW (fun r7 M8 H locs h hW => ?_)
  refine lv_istore (lv' := [(7, .int r7), (6, .int r2), (5, .int i), (0, .ref b), (1, .ref (sw_ad g 0)), (2, .ref (sw_ad g 33)), (3, .ref (sw_ad g 233)), (4, .ref (sw_ad g 234))]) hx hb dL_law_2649 hl (Nat.le_of_ble_eq_true rfl) rfl (fun ls hl => ?_)
  refine lv_aload_n hx hb dL_law_2651 rfl (lv_at hl 5 rfl) ?_
  refine sw_ki (rest := []) (sw_runV (As := []) (rest := []) hx hb hml hown hts (kX7_thrown l g o4 d5 M8 _ h) cv_X7_thrown q_966 rfl rfl ⟨(Nat.le_of_ble_eq_true rfl), (Nat.le_of_ble_eq_true rfl)⟩ hW (Nat.le_of_ble_eq_true rfl) sl_33 rfl rfl hl.1 rfl (Nat.le_of_ble_eq_true rfl) dL_law_2652 ⟨by show _ ≤ 603072; omega, by show _ ≤ 7211114; omega⟩) hW (fun r9 M13 H locs h hW => ?_)
  obtain ⟨h, eM13⟩ := h
  rw [eM13] at hW
  refine lv_iload hx hb dL_law_2655 (lv_at hl 1 rfl) ?_
  refine lv_icmp_eq (tgt := 2662) hx hb dL_law_2657 (by decide) (fun k10 => ?_) (fun k10 => ?_)
  · have h := h.1 k10
    refine lv_iload hx hb dL_law_2662 (lv_at hl 1 rfl) ?_
    refine lv_if_ne (tgt := 2679) hx hb dL_law_2664 (by decide) (fun k11 => ?_) (fun k11 => ?_)
    · have h := h.2 k11
      refine lv_goto (tgt := 2873) hx hb dL_law_2679 (by decide) ?_
      exact nx M8 o4 d5 _ _ _ _ _ (by omega) (by omega) (lv_sub hl [2, 3, 4, 5, 6, 7] rfl) hW h
    · have h := h.1 k11
      refine lv_aload_n hx hb dL_law_2667 rfl (lv_at hl 6 rfl) ?_
      refine lv_iconst (v := 0) hx hb dL_law_2668 (by decide) ?_
      refine sw_ll hx hb hW (vp_in_iff.mpr (by decide)) dL_law_2669 ?_
      refine lv_iload hx hb dL_law_2670 (lv_at hl 0 rfl) ?_
      refine lv_i2l hx hb dL_law_2672 rfl ?_
      refine W.lcmp hx hb dL_law_2673 ?_
      refine lv_if_eq (tgt := 2679) hx hb dL_law_2674 (by decide) (fun k12 => ?_) (fun k12 => ?_)
      · have h := h.1 k12
        refine lv_goto (tgt := 2873) hx hb dL_law_2679 (by decide) ?_
        exact nx M8 o4 d5 _ _ _ _ _ (by omega) (by omega) (lv_sub hl [2, 3, 4, 5, 6, 7] rfl) hW h
      · have h := h.2 k12
        refine lv_iconst (v := 0) hx hb dL_law_2677 (by decide) ?_
        exact h.elim
  · have h := h.2 k10
    refine lv_iconst (v := 0) hx hb dL_law_2660 (by decide) ?_
    exact h.elim
def wcase_48 (L : Nat) (xs : Nat → Int32) (i : Int32) (M : sM) (o : sO) (d : sE) (N : sM → sO → sE → Prop) : Prop :=
  vp_in (i + (1 : Int32)) L ∧ (wL_writeExaminer (xs ((i + (1 : Int32))).toNatClampNeg) M o d (fun r2 M3 o4 d5 => vp_in (i + (1 : Int32)) L ∧ (wX7_writeExaminer (xs ((i + (1 : Int32))).toNatClampNeg) M3 (fun r7 M8 => wX7_thrown M8 (fun r9 => (r9 = r2 → ((r2 = 0 → (((lg_cmp (o4 ((0 : Int32)).toNatClampNeg) (r7).toInt64) = 0 → (N M8 o4 d5)) ∧ (¬ (lg_cmp (o4 ((0 : Int32)).toNatClampNeg) (r7).toInt64) = 0 → (False)))) ∧ (¬ r2 = 0 → (N M8 o4 d5)))) ∧ (¬ r9 = r2 → (False)))))))
set_option maxRecDepth 20000 in
theorem kcase_48 {p : Program} {l : Launch} {e : Env} {s : State} {m : MethodId} {below : List Frame} {meth : Method} {c : Code} {H : Heap} {locs : List Loc} {cells slots : Nat} {Q : State → Prop} {ls : Array Slot} {g : sG} {b L : Nat} {xs : Nat → Int32} (Z : zLw p l s m meth c b L xs g) {i : Int32} {M : sM} {o : sO} {d : sE} {N : sM → sO → sE → Prop} (hl : lv_has ls 9 (zLs g b i)) (hW : sw_Wd g o d M s H locs) (hc : cells + 8 ≤ 603072) (hs : slots + 48 ≤ 7211114) (h : wcase_48 L xs i M o d N)
    (nx : ∀ (M : sM) (o : sO) (d : sE) (H : Heap) (locs : List Loc) (ls : Array Slot) (cells' slots' : Nat), cells' ≤ cells + 8 → slots' ≤ slots + 48 → lv_has ls 9 (zLs g b i) → sw_Wd g o d M s H locs → N M o d → W p l e room_1 s m #[Value.ref b] below meth c H locs cells' slots' Q (F0 m 2873 ls [])) : W p l e room_1 s m #[Value.ref b] below meth c H locs cells slots Q (F0 m 2682 ls []) := by
  obtain ⟨hx, hb, hml, hown, hts, hX, hbl, hbA, hst⟩ := Z
  unfold wcase_48 at h
  refine lv_aload_n hx hb dL_law_2682 rfl (lv_at hl 2 rfl) ?_
  refine lv_aload_n hx hb dL_law_2683 rfl (lv_at hl 1 rfl) ?_
  refine lv_iload hx hb dL_law_2684 (lv_at hl 0 rfl) ?_
  refine lv_iconst (v := 1) hx hb dL_law_2686 (by decide) ?_
  refine lv_iadd hx hb dL_law_2687 ?_
  have b1 := h.1
  have h := h.2
  refine va_sld hx hb hX hbl hbA hW.2.1 b1 dL_law_2688 ?_
  refine lv_aload_n hx hb dL_law_2689 rfl (lv_at hl 4 rfl) ?_
  refine sw_k3 (rest := []) (sw_runH (As := [.ref (sw_ad g 0), .int (xs ((i + (1 : Int32))).toNatClampNeg), .ref (sw_ad g 233)]) (rest := []) hx hb hml hown hts (kL_writeExaminer l hst g (xs ((i + (1 : Int32))).toNatClampNeg) M o d _ h) ch_L_writeExaminer q_900 rfl rfl ⟨(Nat.le_of_ble_eq_true rfl), (Nat.le_of_ble_eq_true rfl)⟩ hW rfl hl.1 rfl (Nat.le_of_ble_eq_true rfl) dL_law_2690 ⟨by show _ ≤ 603072; omega, by show _ ≤ 7211114; omega⟩) hW (fun r2 M3 o4 d5 H locs h hW => ?_)
  refine lv_istore (lv' := [(6, .int r2), (5, .int i), (0, .ref b), (1, .ref (sw_ad g 0)), (2, .ref (sw_ad g 33)), (3, .ref (sw_ad g 233)), (4, .ref (sw_ad g 234))]) hx hb dL_law_2693 hl (Nat.le_of_ble_eq_true rfl) rfl (fun ls hl => ?_)
  refine lv_aload_n hx hb dL_law_2695 rfl (lv_at hl 4 rfl) ?_
  refine lv_aload_n hx hb dL_law_2696 rfl (lv_at hl 2 rfl) ?_
  refine lv_iload hx hb dL_law_2697 (lv_at hl 1 rfl) ?_
  refine lv_iconst (v := 1) hx hb dL_law_2699 (by decide) ?_
  refine lv_iadd hx hb dL_law_2700 ?_
  have b6 := h.1
  have h := h.2
  refine va_sld hx hb hX hbl hbA hW.2.1 b6 dL_law_2701 ?_
  refine sw_ki (rest := []) (sw_runV (As := [.int (xs ((i + (1 : Int32))).toNatClampNeg)]) (rest := []) hx hb hml hown hts (kX7_writeExaminer l g o4 d5 (xs ((i + (1 : Int32))).toNatClampNeg) M3 _ h) cv_X7_writeExaminer q_1325 rfl rfl ⟨(Nat.le_of_ble_eq_true rfl), (Nat.le_of_ble_eq_true rfl)⟩ hW (Nat.le_of_ble_eq_true rfl) sl_33 rfl rfl hl.1 rfl (Nat.le_of_ble_eq_true rfl) dL_law_2702 ⟨by show _ ≤ 603072; omega, by show _ ≤ 7211114; omega⟩) hW (fun r7 M8 H locs h hW => ?_)
  refine lv_istore (lv' := [(7, .int r7), (6, .int r2), (5, .int i), (0, .ref b), (1, .ref (sw_ad g 0)), (2, .ref (sw_ad g 33)), (3, .ref (sw_ad g 233)), (4, .ref (sw_ad g 234))]) hx hb dL_law_2705 hl (Nat.le_of_ble_eq_true rfl) rfl (fun ls hl => ?_)
  refine lv_aload_n hx hb dL_law_2707 rfl (lv_at hl 5 rfl) ?_
  refine sw_ki (rest := []) (sw_runV (As := []) (rest := []) hx hb hml hown hts (kX7_thrown l g o4 d5 M8 _ h) cv_X7_thrown q_966 rfl rfl ⟨(Nat.le_of_ble_eq_true rfl), (Nat.le_of_ble_eq_true rfl)⟩ hW (Nat.le_of_ble_eq_true rfl) sl_33 rfl rfl hl.1 rfl (Nat.le_of_ble_eq_true rfl) dL_law_2708 ⟨by show _ ≤ 603072; omega, by show _ ≤ 7211114; omega⟩) hW (fun r9 M13 H locs h hW => ?_)
  obtain ⟨h, eM13⟩ := h
  rw [eM13] at hW
  refine lv_iload hx hb dL_law_2711 (lv_at hl 1 rfl) ?_
  refine lv_icmp_eq (tgt := 2718) hx hb dL_law_2713 (by decide) (fun k10 => ?_) (fun k10 => ?_)
  · have h := h.1 k10
    refine lv_iload hx hb dL_law_2718 (lv_at hl 1 rfl) ?_
    refine lv_if_ne (tgt := 2735) hx hb dL_law_2720 (by decide) (fun k11 => ?_) (fun k11 => ?_)
    · have h := h.2 k11
      refine lv_goto (tgt := 2873) hx hb dL_law_2735 (by decide) ?_
      exact nx M8 o4 d5 _ _ _ _ _ (by omega) (by omega) (lv_sub hl [2, 3, 4, 5, 6, 7] rfl) hW h
    · have h := h.1 k11
      refine lv_aload_n hx hb dL_law_2723 rfl (lv_at hl 6 rfl) ?_
      refine lv_iconst (v := 0) hx hb dL_law_2724 (by decide) ?_
      refine sw_ll hx hb hW (vp_in_iff.mpr (by decide)) dL_law_2725 ?_
      refine lv_iload hx hb dL_law_2726 (lv_at hl 0 rfl) ?_
      refine lv_i2l hx hb dL_law_2728 rfl ?_
      refine W.lcmp hx hb dL_law_2729 ?_
      refine lv_if_eq (tgt := 2735) hx hb dL_law_2730 (by decide) (fun k12 => ?_) (fun k12 => ?_)
      · have h := h.1 k12
        refine lv_goto (tgt := 2873) hx hb dL_law_2735 (by decide) ?_
        exact nx M8 o4 d5 _ _ _ _ _ (by omega) (by omega) (lv_sub hl [2, 3, 4, 5, 6, 7] rfl) hW h
      · have h := h.2 k12
        refine lv_iconst (v := 0) hx hb dL_law_2733 (by decide) ?_
        exact h.elim
  · have h := h.2 k10
    refine lv_iconst (v := 0) hx hb dL_law_2716 (by decide) ?_
    exact h.elim
def wcase_49 (L : Nat) (xs : Nat → Int32) (i : Int32) (M : sM) (o : sO) (d : sE) (N : sM → sO → sE → Prop) : Prop :=
  vp_in (i + (1 : Int32)) L ∧ (wL_outputAt (xs ((i + (1 : Int32))).toNatClampNeg) M o d (fun r2 M3 o4 d5 => vp_in (i + (1 : Int32)) L ∧ (wX7_outputAt (xs ((i + (1 : Int32))).toNatClampNeg) M3 (fun r7 M8 => wX7_thrown M8 (fun r9 => (r9 = r2 → ((r2 = 0 → (((lg_cmp (o4 ((0 : Int32)).toNatClampNeg) (r7).toInt64) = 0 → (N M8 o4 d5)) ∧ (¬ (lg_cmp (o4 ((0 : Int32)).toNatClampNeg) (r7).toInt64) = 0 → (False)))) ∧ (¬ r2 = 0 → (N M8 o4 d5)))) ∧ (¬ r9 = r2 → (False)))))))
set_option maxRecDepth 20000 in
theorem kcase_49 {p : Program} {l : Launch} {e : Env} {s : State} {m : MethodId} {below : List Frame} {meth : Method} {c : Code} {H : Heap} {locs : List Loc} {cells slots : Nat} {Q : State → Prop} {ls : Array Slot} {g : sG} {b L : Nat} {xs : Nat → Int32} (Z : zLw p l s m meth c b L xs g) {i : Int32} {M : sM} {o : sO} {d : sE} {N : sM → sO → sE → Prop} (hl : lv_has ls 9 (zLs g b i)) (hW : sw_Wd g o d M s H locs) (hc : cells + 8 ≤ 603072) (hs : slots + 48 ≤ 7211114) (h : wcase_49 L xs i M o d N)
    (nx : ∀ (M : sM) (o : sO) (d : sE) (H : Heap) (locs : List Loc) (ls : Array Slot) (cells' slots' : Nat), cells' ≤ cells + 8 → slots' ≤ slots + 48 → lv_has ls 9 (zLs g b i) → sw_Wd g o d M s H locs → N M o d → W p l e room_1 s m #[Value.ref b] below meth c H locs cells' slots' Q (F0 m 2873 ls [])) : W p l e room_1 s m #[Value.ref b] below meth c H locs cells slots Q (F0 m 2738 ls []) := by
  obtain ⟨hx, hb, hml, hown, hts, hX, hbl, hbA, hst⟩ := Z
  unfold wcase_49 at h
  refine lv_aload_n hx hb dL_law_2738 rfl (lv_at hl 2 rfl) ?_
  refine lv_aload_n hx hb dL_law_2739 rfl (lv_at hl 1 rfl) ?_
  refine lv_iload hx hb dL_law_2740 (lv_at hl 0 rfl) ?_
  refine lv_iconst (v := 1) hx hb dL_law_2742 (by decide) ?_
  refine lv_iadd hx hb dL_law_2743 ?_
  have b1 := h.1
  have h := h.2
  refine va_sld hx hb hX hbl hbA hW.2.1 b1 dL_law_2744 ?_
  refine lv_aload_n hx hb dL_law_2745 rfl (lv_at hl 4 rfl) ?_
  refine sw_k3 (rest := []) (sw_runH (As := [.ref (sw_ad g 0), .int (xs ((i + (1 : Int32))).toNatClampNeg), .ref (sw_ad g 233)]) (rest := []) hx hb hml hown hts (kL_outputAt l hst g (xs ((i + (1 : Int32))).toNatClampNeg) M o d _ h) ch_L_outputAt q_911 rfl rfl ⟨(Nat.le_of_ble_eq_true rfl), (Nat.le_of_ble_eq_true rfl)⟩ hW rfl hl.1 rfl (Nat.le_of_ble_eq_true rfl) dL_law_2746 ⟨by show _ ≤ 603072; omega, by show _ ≤ 7211114; omega⟩) hW (fun r2 M3 o4 d5 H locs h hW => ?_)
  refine lv_istore (lv' := [(6, .int r2), (5, .int i), (0, .ref b), (1, .ref (sw_ad g 0)), (2, .ref (sw_ad g 33)), (3, .ref (sw_ad g 233)), (4, .ref (sw_ad g 234))]) hx hb dL_law_2749 hl (Nat.le_of_ble_eq_true rfl) rfl (fun ls hl => ?_)
  refine lv_aload_n hx hb dL_law_2751 rfl (lv_at hl 4 rfl) ?_
  refine lv_aload_n hx hb dL_law_2752 rfl (lv_at hl 2 rfl) ?_
  refine lv_iload hx hb dL_law_2753 (lv_at hl 1 rfl) ?_
  refine lv_iconst (v := 1) hx hb dL_law_2755 (by decide) ?_
  refine lv_iadd hx hb dL_law_2756 ?_
  have b6 := h.1
  have h := h.2
  refine va_sld hx hb hX hbl hbA hW.2.1 b6 dL_law_2757 ?_
  refine sw_ki (rest := []) (sw_runV (As := [.int (xs ((i + (1 : Int32))).toNatClampNeg)]) (rest := []) hx hb hml hown hts (kX7_outputAt l g o4 d5 (xs ((i + (1 : Int32))).toNatClampNeg) M3 _ h) cv_X7_outputAt q_1329 rfl rfl ⟨(Nat.le_of_ble_eq_true rfl), (Nat.le_of_ble_eq_true rfl)⟩ hW (Nat.le_of_ble_eq_true rfl) sl_33 rfl rfl hl.1 rfl (Nat.le_of_ble_eq_true rfl) dL_law_2758 ⟨by show _ ≤ 603072; omega, by show _ ≤ 7211114; omega⟩) hW (fun r7 M8 H locs h hW => ?_)
  refine lv_istore (lv' := [(7, .int r7), (6, .int r2), (5, .int i), (0, .ref b), (1, .ref (sw_ad g 0)), (2, .ref (sw_ad g 33)), (3, .ref (sw_ad g 233)), (4, .ref (sw_ad g 234))]) hx hb dL_law_2761 hl (Nat.le_of_ble_eq_true rfl) rfl (fun ls hl => ?_)
  refine lv_aload_n hx hb dL_law_2763 rfl (lv_at hl 5 rfl) ?_
  refine sw_ki (rest := []) (sw_runV (As := []) (rest := []) hx hb hml hown hts (kX7_thrown l g o4 d5 M8 _ h) cv_X7_thrown q_966 rfl rfl ⟨(Nat.le_of_ble_eq_true rfl), (Nat.le_of_ble_eq_true rfl)⟩ hW (Nat.le_of_ble_eq_true rfl) sl_33 rfl rfl hl.1 rfl (Nat.le_of_ble_eq_true rfl) dL_law_2764 ⟨by show _ ≤ 603072; omega, by show _ ≤ 7211114; omega⟩) hW (fun r9 M13 H locs h hW => ?_)
  obtain ⟨h, eM13⟩ := h
  rw [eM13] at hW
  refine lv_iload hx hb dL_law_2767 (lv_at hl 1 rfl) ?_
  refine lv_icmp_eq (tgt := 2774) hx hb dL_law_2769 (by decide) (fun k10 => ?_) (fun k10 => ?_)
  · have h := h.1 k10
    refine lv_iload hx hb dL_law_2774 (lv_at hl 1 rfl) ?_
    refine lv_if_ne (tgt := 2791) hx hb dL_law_2776 (by decide) (fun k11 => ?_) (fun k11 => ?_)
    · have h := h.2 k11
      refine lv_goto (tgt := 2873) hx hb dL_law_2791 (by decide) ?_
      exact nx M8 o4 d5 _ _ _ _ _ (by omega) (by omega) (lv_sub hl [2, 3, 4, 5, 6, 7] rfl) hW h
    · have h := h.1 k11
      refine lv_aload_n hx hb dL_law_2779 rfl (lv_at hl 6 rfl) ?_
      refine lv_iconst (v := 0) hx hb dL_law_2780 (by decide) ?_
      refine sw_ll hx hb hW (vp_in_iff.mpr (by decide)) dL_law_2781 ?_
      refine lv_iload hx hb dL_law_2782 (lv_at hl 0 rfl) ?_
      refine lv_i2l hx hb dL_law_2784 rfl ?_
      refine W.lcmp hx hb dL_law_2785 ?_
      refine lv_if_eq (tgt := 2791) hx hb dL_law_2786 (by decide) (fun k12 => ?_) (fun k12 => ?_)
      · have h := h.1 k12
        refine lv_goto (tgt := 2873) hx hb dL_law_2791 (by decide) ?_
        exact nx M8 o4 d5 _ _ _ _ _ (by omega) (by omega) (lv_sub hl [2, 3, 4, 5, 6, 7] rfl) hW h
      · have h := h.2 k12
        refine lv_iconst (v := 0) hx hb dL_law_2789 (by decide) ?_
        exact h.elim
  · have h := h.2 k10
    refine lv_iconst (v := 0) hx hb dL_law_2772 (by decide) ?_
    exact h.elim
def wcase_50 (L : Nat) (xs : Nat → Int32) (i : Int32) (M : sM) (o : sO) (d : sE) (N : sM → sO → sE → Prop) : Prop :=
  wL_undo  M o d (fun r1 M2 o3 d4 => wX7_undo M2 (fun r5 M6 => wX7_thrown M6 (fun r7 => (r7 = r1 → ((r1 = 0 → (((lg_cmp (o3 ((0 : Int32)).toNatClampNeg) (r5).toInt64) = 0 → (N M6 o3 d4)) ∧ (¬ (lg_cmp (o3 ((0 : Int32)).toNatClampNeg) (r5).toInt64) = 0 → (False)))) ∧ (¬ r1 = 0 → (N M6 o3 d4)))) ∧ (¬ r7 = r1 → (False)))))
set_option maxRecDepth 20000 in
theorem kcase_50 {p : Program} {l : Launch} {e : Env} {s : State} {m : MethodId} {below : List Frame} {meth : Method} {c : Code} {H : Heap} {locs : List Loc} {cells slots : Nat} {Q : State → Prop} {ls : Array Slot} {g : sG} {b L : Nat} {xs : Nat → Int32} (Z : zLw p l s m meth c b L xs g) {i : Int32} {M : sM} {o : sO} {d : sE} {N : sM → sO → sE → Prop} (hl : lv_has ls 9 (zLs g b i)) (hW : sw_Wd g o d M s H locs) (hc : cells + 8 ≤ 603072) (hs : slots + 48 ≤ 7211114) (h : wcase_50 L xs i M o d N)
    (nx : ∀ (M : sM) (o : sO) (d : sE) (H : Heap) (locs : List Loc) (ls : Array Slot) (cells' slots' : Nat), cells' ≤ cells + 8 → slots' ≤ slots + 48 → lv_has ls 9 (zLs g b i) → sw_Wd g o d M s H locs → N M o d → W p l e room_1 s m #[Value.ref b] below meth c H locs cells' slots' Q (F0 m 2873 ls [])) : W p l e room_1 s m #[Value.ref b] below meth c H locs cells slots Q (F0 m 2794 ls []) := by
  obtain ⟨hx, hb, hml, hown, hts, hX, hbl, hbA, hst⟩ := Z
  unfold wcase_50 at h
  refine lv_aload_n hx hb dL_law_2794 rfl (lv_at hl 2 rfl) ?_
  refine lv_aload_n hx hb dL_law_2795 rfl (lv_at hl 4 rfl) ?_
  refine sw_k3 (rest := []) (sw_runH (As := [.ref (sw_ad g 0), .ref (sw_ad g 233)]) (rest := []) hx hb hml hown hts (kL_undo l hst g  M o d _ h) ch_L_undo q_917 rfl rfl ⟨(Nat.le_of_ble_eq_true rfl), (Nat.le_of_ble_eq_true rfl)⟩ hW rfl hl.1 rfl (Nat.le_of_ble_eq_true rfl) dL_law_2796 ⟨by show _ ≤ 603072; omega, by show _ ≤ 7211114; omega⟩) hW (fun r1 M2 o3 d4 H locs h hW => ?_)
  refine lv_istore (lv' := [(6, .int r1), (5, .int i), (0, .ref b), (1, .ref (sw_ad g 0)), (2, .ref (sw_ad g 33)), (3, .ref (sw_ad g 233)), (4, .ref (sw_ad g 234))]) hx hb dL_law_2799 hl (Nat.le_of_ble_eq_true rfl) rfl (fun ls hl => ?_)
  refine lv_aload_n hx hb dL_law_2801 rfl (lv_at hl 4 rfl) ?_
  refine sw_ki (rest := []) (sw_runV (As := []) (rest := []) hx hb hml hown hts (kX7_undo l g o3 d4 M2 _ h) cv_X7_undo q_1333 rfl rfl ⟨(Nat.le_of_ble_eq_true rfl), (Nat.le_of_ble_eq_true rfl)⟩ hW (Nat.le_of_ble_eq_true rfl) sl_33 rfl rfl hl.1 rfl (Nat.le_of_ble_eq_true rfl) dL_law_2802 ⟨by show _ ≤ 603072; omega, by show _ ≤ 7211114; omega⟩) hW (fun r5 M6 H locs h hW => ?_)
  refine lv_istore (lv' := [(7, .int r5), (6, .int r1), (5, .int i), (0, .ref b), (1, .ref (sw_ad g 0)), (2, .ref (sw_ad g 33)), (3, .ref (sw_ad g 233)), (4, .ref (sw_ad g 234))]) hx hb dL_law_2805 hl (Nat.le_of_ble_eq_true rfl) rfl (fun ls hl => ?_)
  refine lv_aload_n hx hb dL_law_2807 rfl (lv_at hl 5 rfl) ?_
  refine sw_ki (rest := []) (sw_runV (As := []) (rest := []) hx hb hml hown hts (kX7_thrown l g o3 d4 M6 _ h) cv_X7_thrown q_966 rfl rfl ⟨(Nat.le_of_ble_eq_true rfl), (Nat.le_of_ble_eq_true rfl)⟩ hW (Nat.le_of_ble_eq_true rfl) sl_33 rfl rfl hl.1 rfl (Nat.le_of_ble_eq_true rfl) dL_law_2808 ⟨by show _ ≤ 603072; omega, by show _ ≤ 7211114; omega⟩) hW (fun r7 M11 H locs h hW => ?_)
  obtain ⟨h, eM11⟩ := h
  rw [eM11] at hW
  refine lv_iload hx hb dL_law_2811 (lv_at hl 1 rfl) ?_
  refine lv_icmp_eq (tgt := 2818) hx hb dL_law_2813 (by decide) (fun k8 => ?_) (fun k8 => ?_)
  · have h := h.1 k8
    refine lv_iload hx hb dL_law_2818 (lv_at hl 1 rfl) ?_
    refine lv_if_ne (tgt := 2835) hx hb dL_law_2820 (by decide) (fun k9 => ?_) (fun k9 => ?_)
    · have h := h.2 k9
      refine lv_goto (tgt := 2873) hx hb dL_law_2835 (by decide) ?_
      exact nx M6 o3 d4 _ _ _ _ _ (by omega) (by omega) (lv_sub hl [2, 3, 4, 5, 6, 7] rfl) hW h
    · have h := h.1 k9
      refine lv_aload_n hx hb dL_law_2823 rfl (lv_at hl 6 rfl) ?_
      refine lv_iconst (v := 0) hx hb dL_law_2824 (by decide) ?_
      refine sw_ll hx hb hW (vp_in_iff.mpr (by decide)) dL_law_2825 ?_
      refine lv_iload hx hb dL_law_2826 (lv_at hl 0 rfl) ?_
      refine lv_i2l hx hb dL_law_2828 rfl ?_
      refine W.lcmp hx hb dL_law_2829 ?_
      refine lv_if_eq (tgt := 2835) hx hb dL_law_2830 (by decide) (fun k10 => ?_) (fun k10 => ?_)
      · have h := h.1 k10
        refine lv_goto (tgt := 2873) hx hb dL_law_2835 (by decide) ?_
        exact nx M6 o3 d4 _ _ _ _ _ (by omega) (by omega) (lv_sub hl [2, 3, 4, 5, 6, 7] rfl) hW h
      · have h := h.2 k10
        refine lv_iconst (v := 0) hx hb dL_law_2833 (by decide) ?_
        exact h.elim
  · have h := h.2 k8
    refine lv_iconst (v := 0) hx hb dL_law_2816 (by decide) ?_
    exact h.elim
def wcase_51 (L : Nat) (xs : Nat → Int32) (i : Int32) (M : sM) (o : sO) (d : sE) (N : sM → sO → sE → Prop) : Prop :=
  wX6_save M (fun M1 => wX7_save M1 (fun M2 => N M2 o d))
set_option maxRecDepth 20000 in
theorem kcase_51 {p : Program} {l : Launch} {e : Env} {s : State} {m : MethodId} {below : List Frame} {meth : Method} {c : Code} {H : Heap} {locs : List Loc} {cells slots : Nat} {Q : State → Prop} {ls : Array Slot} {g : sG} {b L : Nat} {xs : Nat → Int32} (Z : zLw p l s m meth c b L xs g) {i : Int32} {M : sM} {o : sO} {d : sE} {N : sM → sO → sE → Prop} (hl : lv_has ls 9 (zLs g b i)) (hW : sw_Wd g o d M s H locs) (hc : cells + 8 ≤ 603072) (hs : slots + 48 ≤ 7211114) (h : wcase_51 L xs i M o d N)
    (nx : ∀ (M : sM) (o : sO) (d : sE) (H : Heap) (locs : List Loc) (ls : Array Slot) (cells' slots' : Nat), cells' ≤ cells + 8 → slots' ≤ slots + 48 → lv_has ls 9 (zLs g b i) → sw_Wd g o d M s H locs → N M o d → W p l e room_1 s m #[Value.ref b] below meth c H locs cells' slots' Q (F0 m 2873 ls [])) : W p l e room_1 s m #[Value.ref b] below meth c H locs cells slots Q (F0 m 2838 ls []) := by
  obtain ⟨hx, hb, hml, hown, hts, hX, hbl, hbA, hst⟩ := Z
  unfold wcase_51 at h
  refine lv_aload_n hx hb dL_law_2838 rfl (lv_at hl 2 rfl) ?_
  refine sw_kv (rest := []) (sw_runV (As := []) (rest := []) hx hb hml hown hts (kX6_save l g o d M _ h) cv_X6_save q_398 rfl rfl ⟨(Nat.le_of_ble_eq_true rfl), (Nat.le_of_ble_eq_true rfl)⟩ hW (Nat.le_of_ble_eq_true rfl) sl_0 rfl rfl hl.1 rfl (Nat.le_of_ble_eq_true rfl) dL_law_2839 ⟨by show _ ≤ 603072; omega, by show _ ≤ 7211114; omega⟩) hW (fun M1 H locs h hW => ?_)
  refine lv_aload_n hx hb dL_law_2842 rfl (lv_at hl 3 rfl) ?_
  refine sw_kv (rest := []) (sw_runV (As := []) (rest := []) hx hb hml hown hts (kX7_save l g o d M1 _ h) cv_X7_save q_1337 rfl rfl ⟨(Nat.le_of_ble_eq_true rfl), (Nat.le_of_ble_eq_true rfl)⟩ hW (Nat.le_of_ble_eq_true rfl) sl_33 rfl rfl hl.1 rfl (Nat.le_of_ble_eq_true rfl) dL_law_2843 ⟨by show _ ≤ 603072; omega, by show _ ≤ 7211114; omega⟩) hW (fun M2 H locs h hW => ?_)
  refine lv_goto (tgt := 2873) hx hb dL_law_2846 (by decide) ?_
  exact nx M2 o d _ _ _ _ _ (by omega) (by omega) (lv_sub hl [0, 1, 2, 3, 4, 5] rfl) hW h
def wcase_52 (L : Nat) (xs : Nat → Int32) (i : Int32) (M : sM) (o : sO) (d : sE) (N : sM → sO → sE → Prop) : Prop :=
  wL_restore  M o d (fun r1 M2 o3 d4 => wX7_restore M2 (fun M5 => wX7_thrown M5 (fun r6 => (r6 = r1 → (N M5 o3 d4)) ∧ (¬ r6 = r1 → (False)))))
set_option maxRecDepth 20000 in
theorem kcase_52 {p : Program} {l : Launch} {e : Env} {s : State} {m : MethodId} {below : List Frame} {meth : Method} {c : Code} {H : Heap} {locs : List Loc} {cells slots : Nat} {Q : State → Prop} {ls : Array Slot} {g : sG} {b L : Nat} {xs : Nat → Int32} (Z : zLw p l s m meth c b L xs g) {i : Int32} {M : sM} {o : sO} {d : sE} {N : sM → sO → sE → Prop} (hl : lv_has ls 9 (zLs g b i)) (hW : sw_Wd g o d M s H locs) (hc : cells + 8 ≤ 603072) (hs : slots + 48 ≤ 7211114) (h : wcase_52 L xs i M o d N)
    (nx : ∀ (M : sM) (o : sO) (d : sE) (H : Heap) (locs : List Loc) (ls : Array Slot) (cells' slots' : Nat), cells' ≤ cells + 8 → slots' ≤ slots + 48 → lv_has ls 9 (zLs g b i) → sw_Wd g o d M s H locs → N M o d → W p l e room_1 s m #[Value.ref b] below meth c H locs cells' slots' Q (F0 m 2873 ls [])) : W p l e room_1 s m #[Value.ref b] below meth c H locs cells slots Q (F0 m 2849 ls []) := by
  obtain ⟨hx, hb, hml, hown, hts, hX, hbl, hbA, hst⟩ := Z
  unfold wcase_52 at h
  refine lv_aload_n hx hb dL_law_2849 rfl (lv_at hl 2 rfl) ?_
  refine sw_k3 (rest := []) (sw_runH (As := [.ref (sw_ad g 0)]) (rest := []) hx hb hml hown hts (kL_restore l hst g  M o d _ h) ch_L_restore q_928 rfl rfl ⟨(Nat.le_of_ble_eq_true rfl), (Nat.le_of_ble_eq_true rfl)⟩ hW rfl hl.1 rfl (Nat.le_of_ble_eq_true rfl) dL_law_2850 ⟨by show _ ≤ 603072; omega, by show _ ≤ 7211114; omega⟩) hW (fun r1 M2 o3 d4 H locs h hW => ?_)
  refine lv_istore (lv' := [(6, .int r1), (5, .int i), (0, .ref b), (1, .ref (sw_ad g 0)), (2, .ref (sw_ad g 33)), (3, .ref (sw_ad g 233)), (4, .ref (sw_ad g 234))]) hx hb dL_law_2853 hl (Nat.le_of_ble_eq_true rfl) rfl (fun ls hl => ?_)
  refine lv_aload_n hx hb dL_law_2855 rfl (lv_at hl 4 rfl) ?_
  refine sw_kv (rest := []) (sw_runV (As := []) (rest := []) hx hb hml hown hts (kX7_restore l g o3 d4 M2 _ h) cv_X7_restore q_1341 rfl rfl ⟨(Nat.le_of_ble_eq_true rfl), (Nat.le_of_ble_eq_true rfl)⟩ hW (Nat.le_of_ble_eq_true rfl) sl_33 rfl rfl hl.1 rfl (Nat.le_of_ble_eq_true rfl) dL_law_2856 ⟨by show _ ≤ 603072; omega, by show _ ≤ 7211114; omega⟩) hW (fun M5 H locs h hW => ?_)
  refine lv_aload_n hx hb dL_law_2859 rfl (lv_at hl 4 rfl) ?_
  refine sw_ki (rest := []) (sw_runV (As := []) (rest := []) hx hb hml hown hts (kX7_thrown l g o3 d4 M5 _ h) cv_X7_thrown q_966 rfl rfl ⟨(Nat.le_of_ble_eq_true rfl), (Nat.le_of_ble_eq_true rfl)⟩ hW (Nat.le_of_ble_eq_true rfl) sl_33 rfl rfl hl.1 rfl (Nat.le_of_ble_eq_true rfl) dL_law_2860 ⟨by show _ ≤ 603072; omega, by show _ ≤ 7211114; omega⟩) hW (fun r6 M8 H locs h hW => ?_)
  obtain ⟨h, eM8⟩ := h
  rw [eM8] at hW
  refine lv_iload hx hb dL_law_2863 (lv_at hl 0 rfl) ?_
  refine lv_icmp_eq (tgt := 2870) hx hb dL_law_2865 (by decide) (fun k7 => ?_) (fun k7 => ?_)
  · have h := h.1 k7
    refine lv_goto (tgt := 2873) hx hb dL_law_2870 (by decide) ?_
    exact nx M5 o3 d4 _ _ _ _ _ (by omega) (by omega) (lv_sub hl [1, 2, 3, 4, 5, 6] rfl) hW h
  · have h := h.2 k7
    refine lv_iconst (v := 0) hx hb dL_law_2868 (by decide) ?_
    exact h.elim
