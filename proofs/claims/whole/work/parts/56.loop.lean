/-! The law's loop. -/
def zpcs (j : Nat) : Nat := ([272, 342, 436, 504, 572, 585, 665, 721, 777, 833, 889, 902, 958, 1014, 1070, 1126, 1182, 1245, 1308, 1371, 1427, 1440, 1496, 1552, 1627, 1702, 1777, 1845, 1858, 1871, 1927, 1983, 2039, 2107, 2120, 2133, 2189, 2252, 2265, 2278, 2292, 2357, 2423, 2436, 2494, 2538, 2582, 2626, 2682, 2738, 2794, 2838, 2849, 2873, 2879] : List Nat).getD j 0
def whead (L : Nat) (xs : Nat → Int32) (i : Int32) (N : Nat → Prop) : Prop :=
  (((nI L) - (5 : Int32)) < i → (N 54)) ∧ (¬ ((nI L) - (5 : Int32)) < i → (vp_in i L ∧ (∀ v3 : Int32, v3 = ((xs (i).toNatClampNeg) &&& (63 : Int32)) → ((v3 = (0 : Int32) → (N 0)) ∧ (¬ v3 = (0 : Int32) → ((v3 = (1 : Int32) → (N 1)) ∧ (¬ v3 = (1 : Int32) → ((v3 = (2 : Int32) → (N 2)) ∧ (¬ v3 = (2 : Int32) → ((v3 = (3 : Int32) → (N 3)) ∧ (¬ v3 = (3 : Int32) → ((v3 = (4 : Int32) → (N 4)) ∧ (¬ v3 = (4 : Int32) → ((v3 = (5 : Int32) → (N 5)) ∧ (¬ v3 = (5 : Int32) → ((v3 = (6 : Int32) → (N 6)) ∧ (¬ v3 = (6 : Int32) → ((v3 = (7 : Int32) → (N 7)) ∧ (¬ v3 = (7 : Int32) → ((v3 = (8 : Int32) → (N 8)) ∧ (¬ v3 = (8 : Int32) → ((v3 = (9 : Int32) → (N 9)) ∧ (¬ v3 = (9 : Int32) → ((v3 = (10 : Int32) → (N 10)) ∧ (¬ v3 = (10 : Int32) → ((v3 = (11 : Int32) → (N 11)) ∧ (¬ v3 = (11 : Int32) → ((v3 = (12 : Int32) → (N 12)) ∧ (¬ v3 = (12 : Int32) → ((v3 = (13 : Int32) → (N 13)) ∧ (¬ v3 = (13 : Int32) → ((v3 = (14 : Int32) → (N 14)) ∧ (¬ v3 = (14 : Int32) → ((v3 = (15 : Int32) → (N 15)) ∧ (¬ v3 = (15 : Int32) → ((v3 = (16 : Int32) → (N 16)) ∧ (¬ v3 = (16 : Int32) → ((v3 = (17 : Int32) → (N 17)) ∧ (¬ v3 = (17 : Int32) → ((v3 = (18 : Int32) → (N 18)) ∧ (¬ v3 = (18 : Int32) → ((v3 = (19 : Int32) → (N 19)) ∧ (¬ v3 = (19 : Int32) → ((v3 = (20 : Int32) → (N 20)) ∧ (¬ v3 = (20 : Int32) → ((v3 = (21 : Int32) → (N 21)) ∧ (¬ v3 = (21 : Int32) → ((v3 = (22 : Int32) → (N 22)) ∧ (¬ v3 = (22 : Int32) → ((v3 = (23 : Int32) → (N 23)) ∧ (¬ v3 = (23 : Int32) → ((v3 = (24 : Int32) → (N 24)) ∧ (¬ v3 = (24 : Int32) → ((v3 = (25 : Int32) → (N 25)) ∧ (¬ v3 = (25 : Int32) → ((v3 = (26 : Int32) → (N 26)) ∧ (¬ v3 = (26 : Int32) → ((v3 = (27 : Int32) → (N 27)) ∧ (¬ v3 = (27 : Int32) → ((v3 = (28 : Int32) → (N 28)) ∧ (¬ v3 = (28 : Int32) → ((v3 = (29 : Int32) → (N 29)) ∧ (¬ v3 = (29 : Int32) → ((v3 = (30 : Int32) → (N 30)) ∧ (¬ v3 = (30 : Int32) → ((v3 = (31 : Int32) → (N 31)) ∧ (¬ v3 = (31 : Int32) → ((v3 = (32 : Int32) → (N 32)) ∧ (¬ v3 = (32 : Int32) → ((v3 = (33 : Int32) → (N 33)) ∧ (¬ v3 = (33 : Int32) → ((v3 = (34 : Int32) → (N 34)) ∧ (¬ v3 = (34 : Int32) → ((v3 = (35 : Int32) → (N 35)) ∧ (¬ v3 = (35 : Int32) → ((v3 = (36 : Int32) → (N 36)) ∧ (¬ v3 = (36 : Int32) → ((v3 = (37 : Int32) → (N 37)) ∧ (¬ v3 = (37 : Int32) → ((v3 = (38 : Int32) → (N 38)) ∧ (¬ v3 = (38 : Int32) → ((v3 = (39 : Int32) → (N 39)) ∧ (¬ v3 = (39 : Int32) → ((v3 = (40 : Int32) → (N 40)) ∧ (¬ v3 = (40 : Int32) → ((v3 = (41 : Int32) → (N 41)) ∧ (¬ v3 = (41 : Int32) → ((v3 = (42 : Int32) → (N 42)) ∧ (¬ v3 = (42 : Int32) → ((v3 = (43 : Int32) → (N 43)) ∧ (¬ v3 = (43 : Int32) → ((v3 = (44 : Int32) → (N 44)) ∧ (¬ v3 = (44 : Int32) → ((v3 = (45 : Int32) → (N 45)) ∧ (¬ v3 = (45 : Int32) → ((v3 = (46 : Int32) → (N 46)) ∧ (¬ v3 = (46 : Int32) → ((v3 = (47 : Int32) → (N 47)) ∧ (¬ v3 = (47 : Int32) → ((v3 = (48 : Int32) → (N 48)) ∧ (¬ v3 = (48 : Int32) → ((v3 = (49 : Int32) → (N 49)) ∧ (¬ v3 = (49 : Int32) → ((v3 = (50 : Int32) → (N 50)) ∧ (¬ v3 = (50 : Int32) → ((v3 = (51 : Int32) → (N 51)) ∧ (¬ v3 = (51 : Int32) → ((v3 = (52 : Int32) → (N 52)) ∧ (¬ v3 = (52 : Int32) → (N 53))))))))))))))))))))))))))))))))))))))))))))))))))))))))))))))))))))))))))))))))))))))))))))))))))))))))))))))
set_option maxRecDepth 20000 in
theorem khead {p : Program} {l : Launch} {e : Env} {s : State} {m : MethodId} {below : List Frame} {meth : Method} {c : Code} {H : Heap} {locs : List Loc} {cells slots : Nat} {Q : State → Prop} {ls : Array Slot} {g : sG} {b L : Nat} {xs : Nat → Int32} (Z : zLw p l s m meth c b L xs g) {i : Int32} {M : sM} {o : sO} {d : sE} {N : Nat → Prop} (hl : lv_has ls 9 (zLs g b i)) (hW : sw_Wd g o d M s H locs) (h : whead L xs i N)
    (nx : ∀ j, N j → W p l e room_1 s m #[Value.ref b] below meth c H locs cells slots Q (F0 m (zpcs j) ls [])) : W p l e room_1 s m #[Value.ref b] below meth c H locs cells slots Q (F0 m 28 ls []) := by
  obtain ⟨hx, hb, hml, hown, hts, hX, hbl, hbA, hst⟩ := Z
  unfold whead at h
  refine lv_iload hx hb dL_law_28 (lv_at hl 0 rfl) ?_
  refine lv_aload_n hx hb dL_law_30 rfl (lv_at hl 1 rfl) ?_
  refine va_slen hx hb hX hbl hbA hW.2.1 dL_law_31 ?_
  refine lv_iconst (v := 5) hx hb dL_law_32 (by decide) ?_
  refine lv_isub hx hb dL_law_33 ?_
  refine lv_icmp_gt (tgt := 2879) hx hb dL_law_34 (by decide) (fun k1 => ?_) (fun k1 => ?_)
  · have h := h.1 k1
    exact nx 54 h
  · have h := h.2 k1
    refine lv_aload_n hx hb dL_law_37 rfl (lv_at hl 1 rfl) ?_
    refine lv_iload hx hb dL_law_38 (lv_at hl 0 rfl) ?_
    have b2 := h.1
    have h := h.2
    refine va_sld hx hb hX hbl hbA hW.2.1 b2 dL_law_40 ?_
    refine lv_bipush (v := 63) hx hb dL_law_41 (by decide) ?_
    refine lv_iand hx hb dL_law_43 ?_
    refine lv_topi (fun v3 ev3 => ?_)
    have h := h v3 ev3
    by_cases k4_0 : v3 = (0 : Int32)
    · have h := h.1 k4_0
      refine lv_tableIn (tgt := 272) hx hb dL_law_44 (by rw [k4_0]; decide) (by rw [k4_0]; decide) (by rw [k4_0]; rfl) (by decide) ?_
      exact nx 0 h
    · have h := h.2 k4_0
      by_cases k4_1 : v3 = (1 : Int32)
      · have h := h.1 k4_1
        refine lv_tableIn (tgt := 342) hx hb dL_law_44 (by rw [k4_1]; decide) (by rw [k4_1]; decide) (by rw [k4_1]; rfl) (by decide) ?_
        exact nx 1 h
      · have h := h.2 k4_1
        by_cases k4_2 : v3 = (2 : Int32)
        · have h := h.1 k4_2
          refine lv_tableIn (tgt := 436) hx hb dL_law_44 (by rw [k4_2]; decide) (by rw [k4_2]; decide) (by rw [k4_2]; rfl) (by decide) ?_
          exact nx 2 h
        · have h := h.2 k4_2
          by_cases k4_3 : v3 = (3 : Int32)
          · have h := h.1 k4_3
            refine lv_tableIn (tgt := 504) hx hb dL_law_44 (by rw [k4_3]; decide) (by rw [k4_3]; decide) (by rw [k4_3]; rfl) (by decide) ?_
            exact nx 3 h
          · have h := h.2 k4_3
            by_cases k4_4 : v3 = (4 : Int32)
            · have h := h.1 k4_4
              refine lv_tableIn (tgt := 572) hx hb dL_law_44 (by rw [k4_4]; decide) (by rw [k4_4]; decide) (by rw [k4_4]; rfl) (by decide) ?_
              exact nx 4 h
            · have h := h.2 k4_4
              by_cases k4_5 : v3 = (5 : Int32)
              · have h := h.1 k4_5
                refine lv_tableIn (tgt := 585) hx hb dL_law_44 (by rw [k4_5]; decide) (by rw [k4_5]; decide) (by rw [k4_5]; rfl) (by decide) ?_
                exact nx 5 h
              · have h := h.2 k4_5
                by_cases k4_6 : v3 = (6 : Int32)
                · have h := h.1 k4_6
                  refine lv_tableIn (tgt := 665) hx hb dL_law_44 (by rw [k4_6]; decide) (by rw [k4_6]; decide) (by rw [k4_6]; rfl) (by decide) ?_
                  exact nx 6 h
                · have h := h.2 k4_6
                  by_cases k4_7 : v3 = (7 : Int32)
                  · have h := h.1 k4_7
                    refine lv_tableIn (tgt := 721) hx hb dL_law_44 (by rw [k4_7]; decide) (by rw [k4_7]; decide) (by rw [k4_7]; rfl) (by decide) ?_
                    exact nx 7 h
                  · have h := h.2 k4_7
                    by_cases k4_8 : v3 = (8 : Int32)
                    · have h := h.1 k4_8
                      refine lv_tableIn (tgt := 777) hx hb dL_law_44 (by rw [k4_8]; decide) (by rw [k4_8]; decide) (by rw [k4_8]; rfl) (by decide) ?_
                      exact nx 8 h
                    · have h := h.2 k4_8
                      by_cases k4_9 : v3 = (9 : Int32)
                      · have h := h.1 k4_9
                        refine lv_tableIn (tgt := 833) hx hb dL_law_44 (by rw [k4_9]; decide) (by rw [k4_9]; decide) (by rw [k4_9]; rfl) (by decide) ?_
                        exact nx 9 h
                      · have h := h.2 k4_9
                        by_cases k4_10 : v3 = (10 : Int32)
                        · have h := h.1 k4_10
                          refine lv_tableIn (tgt := 889) hx hb dL_law_44 (by rw [k4_10]; decide) (by rw [k4_10]; decide) (by rw [k4_10]; rfl) (by decide) ?_
                          exact nx 10 h
                        · have h := h.2 k4_10
                          by_cases k4_11 : v3 = (11 : Int32)
                          · have h := h.1 k4_11
                            refine lv_tableIn (tgt := 902) hx hb dL_law_44 (by rw [k4_11]; decide) (by rw [k4_11]; decide) (by rw [k4_11]; rfl) (by decide) ?_
                            exact nx 11 h
                          · have h := h.2 k4_11
                            by_cases k4_12 : v3 = (12 : Int32)
                            · have h := h.1 k4_12
                              refine lv_tableIn (tgt := 958) hx hb dL_law_44 (by rw [k4_12]; decide) (by rw [k4_12]; decide) (by rw [k4_12]; rfl) (by decide) ?_
                              exact nx 12 h
                            · have h := h.2 k4_12
                              by_cases k4_13 : v3 = (13 : Int32)
                              · have h := h.1 k4_13
                                refine lv_tableIn (tgt := 1014) hx hb dL_law_44 (by rw [k4_13]; decide) (by rw [k4_13]; decide) (by rw [k4_13]; rfl) (by decide) ?_
                                exact nx 13 h
                              · have h := h.2 k4_13
                                by_cases k4_14 : v3 = (14 : Int32)
                                · have h := h.1 k4_14
                                  refine lv_tableIn (tgt := 1070) hx hb dL_law_44 (by rw [k4_14]; decide) (by rw [k4_14]; decide) (by rw [k4_14]; rfl) (by decide) ?_
                                  exact nx 14 h
                                · have h := h.2 k4_14
                                  by_cases k4_15 : v3 = (15 : Int32)
                                  · have h := h.1 k4_15
                                    refine lv_tableIn (tgt := 1126) hx hb dL_law_44 (by rw [k4_15]; decide) (by rw [k4_15]; decide) (by rw [k4_15]; rfl) (by decide) ?_
                                    exact nx 15 h
                                  · have h := h.2 k4_15
                                    by_cases k4_16 : v3 = (16 : Int32)
                                    · have h := h.1 k4_16
                                      refine lv_tableIn (tgt := 1182) hx hb dL_law_44 (by rw [k4_16]; decide) (by rw [k4_16]; decide) (by rw [k4_16]; rfl) (by decide) ?_
                                      exact nx 16 h
                                    · have h := h.2 k4_16
                                      by_cases k4_17 : v3 = (17 : Int32)
                                      · have h := h.1 k4_17
                                        refine lv_tableIn (tgt := 1245) hx hb dL_law_44 (by rw [k4_17]; decide) (by rw [k4_17]; decide) (by rw [k4_17]; rfl) (by decide) ?_
                                        exact nx 17 h
                                      · have h := h.2 k4_17
                                        by_cases k4_18 : v3 = (18 : Int32)
                                        · have h := h.1 k4_18
                                          refine lv_tableIn (tgt := 1308) hx hb dL_law_44 (by rw [k4_18]; decide) (by rw [k4_18]; decide) (by rw [k4_18]; rfl) (by decide) ?_
                                          exact nx 18 h
                                        · have h := h.2 k4_18
                                          by_cases k4_19 : v3 = (19 : Int32)
                                          · have h := h.1 k4_19
                                            refine lv_tableIn (tgt := 1371) hx hb dL_law_44 (by rw [k4_19]; decide) (by rw [k4_19]; decide) (by rw [k4_19]; rfl) (by decide) ?_
                                            exact nx 19 h
                                          · have h := h.2 k4_19
                                            by_cases k4_20 : v3 = (20 : Int32)
                                            · have h := h.1 k4_20
                                              refine lv_tableIn (tgt := 1427) hx hb dL_law_44 (by rw [k4_20]; decide) (by rw [k4_20]; decide) (by rw [k4_20]; rfl) (by decide) ?_
                                              exact nx 20 h
                                            · have h := h.2 k4_20
                                              by_cases k4_21 : v3 = (21 : Int32)
                                              · have h := h.1 k4_21
                                                refine lv_tableIn (tgt := 1440) hx hb dL_law_44 (by rw [k4_21]; decide) (by rw [k4_21]; decide) (by rw [k4_21]; rfl) (by decide) ?_
                                                exact nx 21 h
                                              · have h := h.2 k4_21
                                                by_cases k4_22 : v3 = (22 : Int32)
                                                · have h := h.1 k4_22
                                                  refine lv_tableIn (tgt := 1496) hx hb dL_law_44 (by rw [k4_22]; decide) (by rw [k4_22]; decide) (by rw [k4_22]; rfl) (by decide) ?_
                                                  exact nx 22 h
                                                · have h := h.2 k4_22
                                                  by_cases k4_23 : v3 = (23 : Int32)
                                                  · have h := h.1 k4_23
                                                    refine lv_tableIn (tgt := 1552) hx hb dL_law_44 (by rw [k4_23]; decide) (by rw [k4_23]; decide) (by rw [k4_23]; rfl) (by decide) ?_
                                                    exact nx 23 h
                                                  · have h := h.2 k4_23
                                                    by_cases k4_24 : v3 = (24 : Int32)
                                                    · have h := h.1 k4_24
                                                      refine lv_tableIn (tgt := 1627) hx hb dL_law_44 (by rw [k4_24]; decide) (by rw [k4_24]; decide) (by rw [k4_24]; rfl) (by decide) ?_
                                                      exact nx 24 h
                                                    · have h := h.2 k4_24
                                                      by_cases k4_25 : v3 = (25 : Int32)
                                                      · have h := h.1 k4_25
                                                        refine lv_tableIn (tgt := 1702) hx hb dL_law_44 (by rw [k4_25]; decide) (by rw [k4_25]; decide) (by rw [k4_25]; rfl) (by decide) ?_
                                                        exact nx 25 h
                                                      · have h := h.2 k4_25
                                                        by_cases k4_26 : v3 = (26 : Int32)
                                                        · have h := h.1 k4_26
                                                          refine lv_tableIn (tgt := 1777) hx hb dL_law_44 (by rw [k4_26]; decide) (by rw [k4_26]; decide) (by rw [k4_26]; rfl) (by decide) ?_
                                                          exact nx 26 h
                                                        · have h := h.2 k4_26
                                                          by_cases k4_27 : v3 = (27 : Int32)
                                                          · have h := h.1 k4_27
                                                            refine lv_tableIn (tgt := 1845) hx hb dL_law_44 (by rw [k4_27]; decide) (by rw [k4_27]; decide) (by rw [k4_27]; rfl) (by decide) ?_
                                                            exact nx 27 h
                                                          · have h := h.2 k4_27
                                                            by_cases k4_28 : v3 = (28 : Int32)
                                                            · have h := h.1 k4_28
                                                              refine lv_tableIn (tgt := 1858) hx hb dL_law_44 (by rw [k4_28]; decide) (by rw [k4_28]; decide) (by rw [k4_28]; rfl) (by decide) ?_
                                                              exact nx 28 h
                                                            · have h := h.2 k4_28
                                                              by_cases k4_29 : v3 = (29 : Int32)
                                                              · have h := h.1 k4_29
                                                                refine lv_tableIn (tgt := 1871) hx hb dL_law_44 (by rw [k4_29]; decide) (by rw [k4_29]; decide) (by rw [k4_29]; rfl) (by decide) ?_
                                                                exact nx 29 h
                                                              · have h := h.2 k4_29
                                                                by_cases k4_30 : v3 = (30 : Int32)
                                                                · have h := h.1 k4_30
                                                                  refine lv_tableIn (tgt := 1927) hx hb dL_law_44 (by rw [k4_30]; decide) (by rw [k4_30]; decide) (by rw [k4_30]; rfl) (by decide) ?_
                                                                  exact nx 30 h
                                                                · have h := h.2 k4_30
                                                                  by_cases k4_31 : v3 = (31 : Int32)
                                                                  · have h := h.1 k4_31
                                                                    refine lv_tableIn (tgt := 1983) hx hb dL_law_44 (by rw [k4_31]; decide) (by rw [k4_31]; decide) (by rw [k4_31]; rfl) (by decide) ?_
                                                                    exact nx 31 h
                                                                  · have h := h.2 k4_31
                                                                    by_cases k4_32 : v3 = (32 : Int32)
                                                                    · have h := h.1 k4_32
                                                                      refine lv_tableIn (tgt := 2039) hx hb dL_law_44 (by rw [k4_32]; decide) (by rw [k4_32]; decide) (by rw [k4_32]; rfl) (by decide) ?_
                                                                      exact nx 32 h
                                                                    · have h := h.2 k4_32
                                                                      by_cases k4_33 : v3 = (33 : Int32)
                                                                      · have h := h.1 k4_33
                                                                        refine lv_tableIn (tgt := 2107) hx hb dL_law_44 (by rw [k4_33]; decide) (by rw [k4_33]; decide) (by rw [k4_33]; rfl) (by decide) ?_
                                                                        exact nx 33 h
                                                                      · have h := h.2 k4_33
                                                                        by_cases k4_34 : v3 = (34 : Int32)
                                                                        · have h := h.1 k4_34
                                                                          refine lv_tableIn (tgt := 2120) hx hb dL_law_44 (by rw [k4_34]; decide) (by rw [k4_34]; decide) (by rw [k4_34]; rfl) (by decide) ?_
                                                                          exact nx 34 h
                                                                        · have h := h.2 k4_34
                                                                          by_cases k4_35 : v3 = (35 : Int32)
                                                                          · have h := h.1 k4_35
                                                                            refine lv_tableIn (tgt := 2133) hx hb dL_law_44 (by rw [k4_35]; decide) (by rw [k4_35]; decide) (by rw [k4_35]; rfl) (by decide) ?_
                                                                            exact nx 35 h
                                                                          · have h := h.2 k4_35
                                                                            by_cases k4_36 : v3 = (36 : Int32)
                                                                            · have h := h.1 k4_36
                                                                              refine lv_tableIn (tgt := 2189) hx hb dL_law_44 (by rw [k4_36]; decide) (by rw [k4_36]; decide) (by rw [k4_36]; rfl) (by decide) ?_
                                                                              exact nx 36 h
                                                                            · have h := h.2 k4_36
                                                                              by_cases k4_37 : v3 = (37 : Int32)
                                                                              · have h := h.1 k4_37
                                                                                refine lv_tableIn (tgt := 2252) hx hb dL_law_44 (by rw [k4_37]; decide) (by rw [k4_37]; decide) (by rw [k4_37]; rfl) (by decide) ?_
                                                                                exact nx 37 h
                                                                              · have h := h.2 k4_37
                                                                                by_cases k4_38 : v3 = (38 : Int32)
                                                                                · have h := h.1 k4_38
                                                                                  refine lv_tableIn (tgt := 2265) hx hb dL_law_44 (by rw [k4_38]; decide) (by rw [k4_38]; decide) (by rw [k4_38]; rfl) (by decide) ?_
                                                                                  exact nx 38 h
                                                                                · have h := h.2 k4_38
                                                                                  by_cases k4_39 : v3 = (39 : Int32)
                                                                                  · have h := h.1 k4_39
                                                                                    refine lv_tableIn (tgt := 2278) hx hb dL_law_44 (by rw [k4_39]; decide) (by rw [k4_39]; decide) (by rw [k4_39]; rfl) (by decide) ?_
                                                                                    exact nx 39 h
                                                                                  · have h := h.2 k4_39
                                                                                    by_cases k4_40 : v3 = (40 : Int32)
                                                                                    · have h := h.1 k4_40
                                                                                      refine lv_tableIn (tgt := 2292) hx hb dL_law_44 (by rw [k4_40]; decide) (by rw [k4_40]; decide) (by rw [k4_40]; rfl) (by decide) ?_
                                                                                      exact nx 40 h
                                                                                    · have h := h.2 k4_40
                                                                                      by_cases k4_41 : v3 = (41 : Int32)
                                                                                      · have h := h.1 k4_41
                                                                                        refine lv_tableIn (tgt := 2357) hx hb dL_law_44 (by rw [k4_41]; decide) (by rw [k4_41]; decide) (by rw [k4_41]; rfl) (by decide) ?_
                                                                                        exact nx 41 h
                                                                                      · have h := h.2 k4_41
                                                                                        by_cases k4_42 : v3 = (42 : Int32)
                                                                                        · have h := h.1 k4_42
                                                                                          refine lv_tableIn (tgt := 2423) hx hb dL_law_44 (by rw [k4_42]; decide) (by rw [k4_42]; decide) (by rw [k4_42]; rfl) (by decide) ?_
                                                                                          exact nx 42 h
                                                                                        · have h := h.2 k4_42
                                                                                          by_cases k4_43 : v3 = (43 : Int32)
                                                                                          · have h := h.1 k4_43
                                                                                            refine lv_tableIn (tgt := 2436) hx hb dL_law_44 (by rw [k4_43]; decide) (by rw [k4_43]; decide) (by rw [k4_43]; rfl) (by decide) ?_
                                                                                            exact nx 43 h
                                                                                          · have h := h.2 k4_43
                                                                                            by_cases k4_44 : v3 = (44 : Int32)
                                                                                            · have h := h.1 k4_44
                                                                                              refine lv_tableIn (tgt := 2494) hx hb dL_law_44 (by rw [k4_44]; decide) (by rw [k4_44]; decide) (by rw [k4_44]; rfl) (by decide) ?_
                                                                                              exact nx 44 h
                                                                                            · have h := h.2 k4_44
                                                                                              by_cases k4_45 : v3 = (45 : Int32)
                                                                                              · have h := h.1 k4_45
                                                                                                refine lv_tableIn (tgt := 2538) hx hb dL_law_44 (by rw [k4_45]; decide) (by rw [k4_45]; decide) (by rw [k4_45]; rfl) (by decide) ?_
                                                                                                exact nx 45 h
                                                                                              · have h := h.2 k4_45
                                                                                                by_cases k4_46 : v3 = (46 : Int32)
                                                                                                · have h := h.1 k4_46
                                                                                                  refine lv_tableIn (tgt := 2582) hx hb dL_law_44 (by rw [k4_46]; decide) (by rw [k4_46]; decide) (by rw [k4_46]; rfl) (by decide) ?_
                                                                                                  exact nx 46 h
                                                                                                · have h := h.2 k4_46
                                                                                                  by_cases k4_47 : v3 = (47 : Int32)
                                                                                                  · have h := h.1 k4_47
                                                                                                    refine lv_tableIn (tgt := 2626) hx hb dL_law_44 (by rw [k4_47]; decide) (by rw [k4_47]; decide) (by rw [k4_47]; rfl) (by decide) ?_
                                                                                                    exact nx 47 h
                                                                                                  · have h := h.2 k4_47
                                                                                                    by_cases k4_48 : v3 = (48 : Int32)
                                                                                                    · have h := h.1 k4_48
                                                                                                      refine lv_tableIn (tgt := 2682) hx hb dL_law_44 (by rw [k4_48]; decide) (by rw [k4_48]; decide) (by rw [k4_48]; rfl) (by decide) ?_
                                                                                                      exact nx 48 h
                                                                                                    · have h := h.2 k4_48
                                                                                                      by_cases k4_49 : v3 = (49 : Int32)
                                                                                                      · have h := h.1 k4_49
                                                                                                        refine lv_tableIn (tgt := 2738) hx hb dL_law_44 (by rw [k4_49]; decide) (by rw [k4_49]; decide) (by rw [k4_49]; rfl) (by decide) ?_
                                                                                                        exact nx 49 h
                                                                                                      · have h := h.2 k4_49
                                                                                                        by_cases k4_50 : v3 = (50 : Int32)
                                                                                                        · have h := h.1 k4_50
                                                                                                          refine lv_tableIn (tgt := 2794) hx hb dL_law_44 (by rw [k4_50]; decide) (by rw [k4_50]; decide) (by rw [k4_50]; rfl) (by decide) ?_
                                                                                                          exact nx 50 h
                                                                                                        · have h := h.2 k4_50
                                                                                                          by_cases k4_51 : v3 = (51 : Int32)
                                                                                                          · have h := h.1 k4_51
                                                                                                            refine lv_tableIn (tgt := 2838) hx hb dL_law_44 (by rw [k4_51]; decide) (by rw [k4_51]; decide) (by rw [k4_51]; rfl) (by decide) ?_
                                                                                                            exact nx 51 h
                                                                                                          · have h := h.2 k4_51
                                                                                                            by_cases k4_52 : v3 = (52 : Int32)
                                                                                                            · have h := h.1 k4_52
                                                                                                              refine lv_tableIn (tgt := 2849) hx hb dL_law_44 (by rw [k4_52]; decide) (by rw [k4_52]; decide) (by rw [k4_52]; rfl) (by decide) ?_
                                                                                                              exact nx 52 h
                                                                                                            · have h := h.2 k4_52
                                                                                                              refine sw_tdef (tgt := 2873) hx hb dL_law_44 (by intro hz; exfalso; have e0 := lv_neT k4_0 (by decide : ((0) : Int32).toInt = 0); have e1 := lv_neT k4_1 (by decide : ((1) : Int32).toInt = 1); have e2 := lv_neT k4_2 (by decide : ((2) : Int32).toInt = 2); have e3 := lv_neT k4_3 (by decide : ((3) : Int32).toInt = 3); have e4 := lv_neT k4_4 (by decide : ((4) : Int32).toInt = 4); have e5 := lv_neT k4_5 (by decide : ((5) : Int32).toInt = 5); have e6 := lv_neT k4_6 (by decide : ((6) : Int32).toInt = 6); have e7 := lv_neT k4_7 (by decide : ((7) : Int32).toInt = 7); have e8 := lv_neT k4_8 (by decide : ((8) : Int32).toInt = 8); have e9 := lv_neT k4_9 (by decide : ((9) : Int32).toInt = 9); have e10 := lv_neT k4_10 (by decide : ((10) : Int32).toInt = 10); have e11 := lv_neT k4_11 (by decide : ((11) : Int32).toInt = 11); have e12 := lv_neT k4_12 (by decide : ((12) : Int32).toInt = 12); have e13 := lv_neT k4_13 (by decide : ((13) : Int32).toInt = 13); have e14 := lv_neT k4_14 (by decide : ((14) : Int32).toInt = 14); have e15 := lv_neT k4_15 (by decide : ((15) : Int32).toInt = 15); have e16 := lv_neT k4_16 (by decide : ((16) : Int32).toInt = 16); have e17 := lv_neT k4_17 (by decide : ((17) : Int32).toInt = 17); have e18 := lv_neT k4_18 (by decide : ((18) : Int32).toInt = 18); have e19 := lv_neT k4_19 (by decide : ((19) : Int32).toInt = 19); have e20 := lv_neT k4_20 (by decide : ((20) : Int32).toInt = 20); have e21 := lv_neT k4_21 (by decide : ((21) : Int32).toInt = 21); have e22 := lv_neT k4_22 (by decide : ((22) : Int32).toInt = 22); have e23 := lv_neT k4_23 (by decide : ((23) : Int32).toInt = 23); have e24 := lv_neT k4_24 (by decide : ((24) : Int32).toInt = 24); have e25 := lv_neT k4_25 (by decide : ((25) : Int32).toInt = 25); have e26 := lv_neT k4_26 (by decide : ((26) : Int32).toInt = 26); have e27 := lv_neT k4_27 (by decide : ((27) : Int32).toInt = 27); have e28 := lv_neT k4_28 (by decide : ((28) : Int32).toInt = 28); have e29 := lv_neT k4_29 (by decide : ((29) : Int32).toInt = 29); have e30 := lv_neT k4_30 (by decide : ((30) : Int32).toInt = 30); have e31 := lv_neT k4_31 (by decide : ((31) : Int32).toInt = 31); have e32 := lv_neT k4_32 (by decide : ((32) : Int32).toInt = 32); have e33 := lv_neT k4_33 (by decide : ((33) : Int32).toInt = 33); have e34 := lv_neT k4_34 (by decide : ((34) : Int32).toInt = 34); have e35 := lv_neT k4_35 (by decide : ((35) : Int32).toInt = 35); have e36 := lv_neT k4_36 (by decide : ((36) : Int32).toInt = 36); have e37 := lv_neT k4_37 (by decide : ((37) : Int32).toInt = 37); have e38 := lv_neT k4_38 (by decide : ((38) : Int32).toInt = 38); have e39 := lv_neT k4_39 (by decide : ((39) : Int32).toInt = 39); have e40 := lv_neT k4_40 (by decide : ((40) : Int32).toInt = 40); have e41 := lv_neT k4_41 (by decide : ((41) : Int32).toInt = 41); have e42 := lv_neT k4_42 (by decide : ((42) : Int32).toInt = 42); have e43 := lv_neT k4_43 (by decide : ((43) : Int32).toInt = 43); have e44 := lv_neT k4_44 (by decide : ((44) : Int32).toInt = 44); have e45 := lv_neT k4_45 (by decide : ((45) : Int32).toInt = 45); have e46 := lv_neT k4_46 (by decide : ((46) : Int32).toInt = 46); have e47 := lv_neT k4_47 (by decide : ((47) : Int32).toInt = 47); have e48 := lv_neT k4_48 (by decide : ((48) : Int32).toInt = 48); have e49 := lv_neT k4_49 (by decide : ((49) : Int32).toInt = 49); have e50 := lv_neT k4_50 (by decide : ((50) : Int32).toInt = 50); have e51 := lv_neT k4_51 (by decide : ((51) : Int32).toInt = 51); have e52 := lv_neT k4_52 (by decide : ((52) : Int32).toInt = 52); omega) (by decide) ?_
                                                                                                              exact nx 53 h
