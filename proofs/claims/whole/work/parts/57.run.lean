/-! The law's loop, run to its end. -/
theorem p_head {L : Nat} {xs : Nat → Int32} {i : Int32} (h : ¬ (nI L) - (5 : Int32) < i → vp_in i L) : whead L xs i (fun j => (j = 54 ∧ (nI L) - (5 : Int32) < i) ∨ (j ≤ 53 ∧ ¬ (nI L) - (5 : Int32) < i)) := by
  unfold whead
  refine ⟨fun q => Or.inl ⟨rfl, q⟩, fun q => ⟨h q, fun v3 _ => ?_⟩⟩
  iterate 53 refine ⟨fun _ => Or.inr ⟨by decide, q⟩, fun _ => ?_⟩
  exact Or.inr ⟨by decide, q⟩
theorem p_cmp {L q : Nat} (hL : L ≤ 2560) (hq : q ≤ 600) : (nI L) - (5 : Int32) < nI (5 * q) ↔ L < 5 * q + 5 := by
  rcases Nat.lt_or_ge L 5 with h | h
  · refine ⟨fun _ => by omega, fun _ => ?_⟩
    have h0 : (nI L) - (5 : Int32) < 0 := by
      rcases (show L = 0 ∨ L = 1 ∨ L = 2 ∨ L = 3 ∨ L = 4 by omega) with rfl | rfl | rfl | rfl | rfl <;> decide +kernel
    have h1 : (0 : Int32) ≤ nI (5 * q) := nI_pos' (by omega)
    exact Int32.lt_of_lt_of_le h0 h1
  · obtain ⟨r, rfl⟩ : ∃ r, L = r + 5 := ⟨L - 5, by omega⟩
    rw [show nI (r + 5) - (5 : Int32) = nI r by rw [← nI_add]; exact Int32.add_sub_cancel _ _, nI_ltI (by omega) (by omega)]
    omega
section LOOP
variable {p : Program} {l : Launch} {e : Env} {s : State} {m : MethodId} {below : List Frame} {meth : Method} {c : Code} {H : Heap} {locs : List Loc} {cells slots : Nat} {Q : State → Prop} {ls : Array Slot} {g : sG} {b L : Nat} {xs : Nat → Int32} {i : Int32} {M : sM} {o : sO} {d : sE} {z : zG}
theorem kany (Z : zLw p l s m meth c b L xs g) (hl : lv_has ls 9 (zLs g b i)) (hW : sw_Wd g o d M s H locs) (hc : cells + 8 ≤ 603072) (hs : slots + 48 ≤ 7211114) (hC : CI M z) (hM : MI M z) (hG : GI z) (b1 : vp_in (i + (1 : Int32)) L) (b2 : vp_in (i + (2 : Int32)) L) (b3 : vp_in (i + (3 : Int32)) L) (b4 : vp_in (i + (4 : Int32)) L)
    (nx : ∀ (M : sM) (o : sO) (d : sE) (H : Heap) (locs : List Loc) (ls : Array Slot) (cells' slots' : Nat), cells' ≤ cells + 8 → slots' ≤ slots + 48 → lv_has ls 9 (zLs g b i) → sw_Wd g o d M s H locs → zEo M o d → W p l e room_1 s m #[Value.ref b] below meth c H locs cells' slots' Q (F0 m 2873 ls [])) (j : Nat) (hj : j ≤ 53) : W p l e room_1 s m #[Value.ref b] below meth c H locs cells slots Q (F0 m (zpcs j) ls []) := by
  match j, hj with
  | 0, _ => exact kcase_0 Z hl hW hc hs (pcase_0 hC hM hG b1 b2 b3 b4) nx
  | 1, _ => exact kcase_1 Z hl hW hc hs (pcase_1 hC hM hG b1 b2 b3 b4) nx
  | 2, _ => exact kcase_2 Z hl hW hc hs (pcase_2 hC hM hG b1 b2 b3 b4) nx
  | 3, _ => exact kcase_3 Z hl hW hc hs (pcase_3 hC hM hG b1 b2 b3 b4) nx
  | 4, _ => exact kcase_4 Z hl hW hc hs (pcase_4 hC hM hG b1 b2 b3 b4) nx
  | 5, _ => exact kcase_5 Z hl hW hc hs (pcase_5 hC hM hG b1 b2 b3 b4) nx
  | 6, _ => exact kcase_6 Z hl hW hc hs (pcase_6 hC hM hG b1 b2 b3 b4) nx
  | 7, _ => exact kcase_7 Z hl hW hc hs (pcase_7 hC hM hG b1 b2 b3 b4) nx
  | 8, _ => exact kcase_8 Z hl hW hc hs (pcase_8 hC hM hG b1 b2 b3 b4) nx
  | 9, _ => exact kcase_9 Z hl hW hc hs (pcase_9 hC hM hG b1 b2 b3 b4) nx
  | 10, _ => exact kcase_10 Z hl hW hc hs (pcase_10 hC hM hG b1 b2 b3 b4) nx
  | 11, _ => exact kcase_11 Z hl hW hc hs (pcase_11 hC hM hG b1 b2 b3 b4) nx
  | 12, _ => exact kcase_12 Z hl hW hc hs (pcase_12 hC hM hG b1 b2 b3 b4) nx
  | 13, _ => exact kcase_13 Z hl hW hc hs (pcase_13 hC hM hG b1 b2 b3 b4) nx
  | 14, _ => exact kcase_14 Z hl hW hc hs (pcase_14 hC hM hG b1 b2 b3 b4) nx
  | 15, _ => exact kcase_15 Z hl hW hc hs (pcase_15 hC hM hG b1 b2 b3 b4) nx
  | 16, _ => exact kcase_16 Z hl hW hc hs (pcase_16 hC hM hG b1 b2 b3 b4) nx
  | 17, _ => exact kcase_17 Z hl hW hc hs (pcase_17 hC hM hG b1 b2 b3 b4) nx
  | 18, _ => exact kcase_18 Z hl hW hc hs (pcase_18 hC hM hG b1 b2 b3 b4) nx
  | 19, _ => exact kcase_19 Z hl hW hc hs (pcase_19 hC hM hG b1 b2 b3 b4) nx
  | 20, _ => exact kcase_20 Z hl hW hc hs (pcase_20 hC hM hG b1 b2 b3 b4) nx
  | 21, _ => exact kcase_21 Z hl hW hc hs (pcase_21 hC hM hG b1 b2 b3 b4) nx
  | 22, _ => exact kcase_22 Z hl hW hc hs (pcase_22 hC hM hG b1 b2 b3 b4) nx
  | 23, _ => exact kcase_23 Z hl hW hc hs (pcase_23 hC hM hG b1 b2 b3 b4) nx
  | 24, _ => exact kcase_24 Z hl hW hc hs (pcase_24 hC hM hG b1 b2 b3 b4) nx
  | 25, _ => exact kcase_25 Z hl hW hc hs (pcase_25 hC hM hG b1 b2 b3 b4) nx
  | 26, _ => exact kcase_26 Z hl hW hc hs (pcase_26 hC hM hG b1 b2 b3 b4) nx
  | 27, _ => exact kcase_27 Z hl hW hc hs (pcase_27 hC hM hG b1 b2 b3 b4) nx
  | 28, _ => exact kcase_28 Z hl hW hc hs (pcase_28 hC hM hG b1 b2 b3 b4) nx
  | 29, _ => exact kcase_29 Z hl hW hc hs (pcase_29 hC hM hG b1 b2 b3 b4) nx
  | 30, _ => exact kcase_30 Z hl hW hc hs (pcase_30 hC hM hG b1 b2 b3 b4) nx
  | 31, _ => exact kcase_31 Z hl hW hc hs (pcase_31 hC hM hG b1 b2 b3 b4) nx
  | 32, _ => exact kcase_32 Z hl hW hc hs (pcase_32 hC hM hG b1 b2 b3 b4) nx
  | 33, _ => exact kcase_33 Z hl hW hc hs (pcase_33 hC hM hG b1 b2 b3 b4) nx
  | 34, _ => exact kcase_34 Z hl hW hc hs (pcase_34 hC hM hG b1 b2 b3 b4) nx
  | 35, _ => exact kcase_35 Z hl hW hc hs (pcase_35 hC hM hG b1 b2 b3 b4) nx
  | 36, _ => exact kcase_36 Z hl hW hc hs (pcase_36 hC hM hG b1 b2 b3 b4) nx
  | 37, _ => exact kcase_37 Z hl hW hc hs (pcase_37 hC hM hG b1 b2 b3 b4) nx
  | 38, _ => exact kcase_38 Z hl hW hc hs (pcase_38 hC hM hG b1 b2 b3 b4) nx
  | 39, _ => exact kcase_39 Z hl hW hc hs (pcase_39 hC hM hG b1 b2 b3 b4) nx
  | 40, _ => exact kcase_40 Z hl hW hc hs (pcase_40 hC hM hG b1 b2 b3 b4) nx
  | 41, _ => exact kcase_41 Z hl hW hc hs (pcase_41 hC hM hG b1 b2 b3 b4) nx
  | 42, _ => exact kcase_42 Z hl hW hc hs (pcase_42 hC hM hG b1 b2 b3 b4) nx
  | 43, _ => exact kcase_43 Z hl hW hc hs (pcase_43 hC hM hG b1 b2 b3 b4) nx
  | 44, _ => exact kcase_44 Z hl hW hc hs (pcase_44 hC hM hG b1 b2 b3 b4) nx
  | 45, _ => exact kcase_45 Z hl hW hc hs (pcase_45 hC hM hG b1 b2 b3 b4) nx
  | 46, _ => exact kcase_46 Z hl hW hc hs (pcase_46 hC hM hG b1 b2 b3 b4) nx
  | 47, _ => exact kcase_47 Z hl hW hc hs (pcase_47 hC hM hG b1 b2 b3 b4) nx
  | 48, _ => exact kcase_48 Z hl hW hc hs (pcase_48 hC hM hG b1 b2 b3 b4) nx
  | 49, _ => exact kcase_49 Z hl hW hc hs (pcase_49 hC hM hG b1 b2 b3 b4) nx
  | 50, _ => exact kcase_50 Z hl hW hc hs (pcase_50 hC hM hG b1 b2 b3 b4) nx
  | 51, _ => exact kcase_51 Z hl hW hc hs (pcase_51 hC hM hG b1 b2 b3 b4) nx
  | 52, _ => exact kcase_52 Z hl hW hc hs (pcase_52 hC hM hG b1 b2 b3 b4) nx
  | 53, _ => exact nx M o d _ _ _ _ _ (Nat.le_add_right _ _) (Nat.le_add_right _ _) hl hW ⟨z, hC, hM, hG⟩
  | k + 54, h => exact absurd h (by omega)
theorem kloop (Z : zLw p l s m meth c b L xs g) (hL : L ≤ 2560)
    (fin : ∀ (M : sM) (o : sO) (d : sE) (H : Heap) (locs : List Loc) (ls : Array Slot) (cells slots : Nat), cells ≤ 603072 → slots ≤ 7211114 → sw_Wd g o d M s H locs → W p l e room_1 s m #[Value.ref b] below meth c H locs cells slots Q (F0 m 2879 ls [])) :
    ∀ (n q : Nat) (M : sM) (o : sO) (d : sE) (H : Heap) (locs : List Loc) (ls : Array Slot) (cells slots : Nat), n + q = 513 → L < 5 * (q + n) → cells ≤ 1000 + 8 * q → slots ≤ 20000 + 48 * q → lv_has ls 9 (zLs g b (nI (5 * q))) → sw_Wd g o d M s H locs → zEo M o d → W p l e room_1 s m #[Value.ref b] below meth c H locs cells slots Q (F0 m 28 ls []) := by
  intro n
  induction n with
  | zero =>
    intro q M o d H locs ls cells slots hn hq hc hs hl hW hI
    refine khead Z hl hW (p_head (fun h => absurd ((p_cmp hL (by omega)).mpr (by omega)) h)) (fun j hj => ?_)
    rcases hj with ⟨rfl, -⟩ | ⟨-, h⟩
    · exact fin M o d H locs ls cells slots (by omega) (by omega) hW
    · exact absurd ((p_cmp hL (by omega)).mpr (by omega)) h
  | succ n ih =>
    intro q M o d H locs ls cells slots hn hq hc hs hl hW hI
    refine khead Z hl hW (p_head (fun h => ?_)) (fun j hj => ?_)
    · have r : ¬ L < 5 * q + 5 := fun w => h ((p_cmp hL (by omega)).mpr w)
      exact vin (by omega) (by omega)
    · rcases hj with ⟨rfl, -⟩ | ⟨hj, h⟩
      · exact fin M o d H locs ls cells slots (by omega) (by omega) hW
      · have r : ¬ L < 5 * q + 5 := fun w => h ((p_cmp hL (by omega)).mpr w)
        obtain ⟨z, hC, hM, hG⟩ := hI
        have bk : ∀ k, k < 5 → vp_in (nI (5 * q) + nI k) L := fun k hk => by rw [nI_add]; exact vin (by omega) (by omega)
        refine kany Z hl hW (by omega) (by omega) hC hM hG (bk 1 (by decide)) (bk 2 (by decide)) (bk 3 (by decide)) (bk 4 (by decide)) (fun M o d H locs ls c2 s2 hc2 hs2 hl hW hI => ?_) j hj
        obtain ⟨hx, hb, -⟩ := id Z
        have e5 : nI (5 * (q + 1)) = nI (5 * q) + (5 : Int32) := (nI_add (5 * q) 5).symm
        refine lv_iinc (v := nI (5 * (q + 1))) (lv' := zLs g b (nI (5 * (q + 1)))) hx hb dL_law_2873 hl (k := 0) rfl (by rw [e5]; rfl) (Nat.le_of_ble_eq_true rfl) rfl (fun ls hl => ?_)
        refine lv_goto (tgt := 28) hx hb dL_law_2876 (by decide) ?_
        exact ih (q + 1) M o d H locs ls c2 s2 (by omega) (by omega) (by omega) (by omega) hl hW hI
end LOOP
