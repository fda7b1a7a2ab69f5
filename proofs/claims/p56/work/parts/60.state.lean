/-! The State's constructor. -/
def zWs (ac : Nat → ClassId) (h0 : Nat) (u : Nat → Nat) (M : Nat → Nat → Int32) : va_W := (h0, .inr (5, [.int 0, .int 0, .int 0, .int 0, .ref (u 1), .ref (u 2), .int 0, .ref (u 3), .ref (u 4), .ref (u 5), .ref (u 6), .ref (u 7), .ref (u 8), .ref (u 9), .int 10, .int 0, .ref (u 10)])) :: ([(u 1, .inl (ac 0, 8, .inl (fun _ => 0))), (u 2, .inl (ac 1, 8, .inl (fun _ => 0))), (u 3, .inl (ac 0, 6, .inl (fun _ => 0))), (u 4, .inl (ac 1, 6, .inl (fun _ => 0))), (u 5, .inl (ac 1, 6, .inl (fun _ => 0))), (u 6, .inl (ac 1, 6, .inl (fun _ => 0))), (u 7, .inl (ac 1, 6, .inl (fun _ => 0))), (u 8, .inl (ac 1, 6, .inl (fun _ => 0)))] ++ ((((u 9), .inl (ac 4, 6, .inr (.inr (.inr (.inr (fun j => some ((u 9) + 1 + j))))))) :: (List.range 6).map (fun j => ((u 9) + 1 + j, (.inl (ac 1, 8, .inl (M j)) : va_E)))) ++ [(u 10, .inl (ac 1, 8, .inl (fun _ => 0)))]))
def zSv (i j : Nat) (M : Nat → Nat → Int32) : Prop := ∀ a c, a < 6 → c < 8 → (a < i ∨ (a = i ∧ c < j)) → M a c = -1
def zSB : Type := { u : (Nat → Nat) × (Nat → Nat → Int32) // zSv 6 0 u.2 }
def zWX5 (ac : Nat → ClassId) (h0 : Nat) (u : zSB) : va_W := zWs ac h0 u.1.1 u.1.2
theorem zWs_get {ac : Nat → ClassId} {h0 : Nat} {u : Nat → Nat} {M : Nat → Nat → Int32} {i : Nat} (hi : i < 6) : (zWs ac h0 u M)[10 + i]? = some (u 9 + 1 + i, .inl (ac 1, 8, .inl (M i))) := by
  rcases (show i = 0 ∨ i = 1 ∨ i = 2 ∨ i = 3 ∨ i = 4 ∨ i = 5 by omega) with rfl | rfl | rfl | rfl | rfl | rfl <;> rfl
theorem zWs_set {ac : Nat → ClassId} {h0 : Nat} {u : Nat → Nat} {M : Nat → Nat → Int32} {i : Nat} (hi : i < 6) (j : Nat) (v : Int32) : (zWs ac h0 u M).set (10 + i) (u 9 + 1 + i, .inl (ac 1, 8, .inl (upd (M i) j v))) = zWs ac h0 u (sw_ms M i j v) := by
  rcases (show i = 0 ∨ i = 1 ∨ i = 2 ∨ i = 3 ∨ i = 4 ∨ i = 5 by omega) with rfl | rfl | rfl | rfl | rfl | rfl <;> rfl
section ZAA
variable {p : Program} {l : Launch} {e : Env} {R : Room} {s : State} {m : MethodId} {args : Array Value} {below : List Frame} {meth : Method} {c : Code} {H : Heap} {locs : List Loc} {cells slots : Nat} {Q : State → Prop}
variable {cc : ByteArray} {pc : Nat} {ls : Array Slot} {rest : List Value} {D : va_G} {ac : Nat → ClassId} {A : Nat → Prop} {ws : va_W} {c0 : Cond}
theorem zn_aa (hx : p.tables.exec = Jvm.exec) (hb : c.code = cc) (hB : zBw D ac A ws s H locs) (q0 : Nat) {a n : Nat} {f : Nat → Nat} (ha : ws[q0]? = some (a, .inl (ac 4, n, .inr (.inr (.inr (.inr (fun j => some (f j)))))))) {i : Int32} (hin : vp_in i n) (hdg : decode cc pc = .ok (.aaload, 1))
    (kk : W p l e R s m args below meth c H locs cells slots Q (F0 m (pc + 1) ls (.ref (f i.toNatClampNeg) :: rest))) : W p l e R s m args below meth c H locs cells slots Q (F0 m pc ls (.int i :: .ref a :: rest)) := by
  have hlt : i.toNatClampNeg < n := Nat.not_le.mp fun q => hin (Or.inr q)
  exact W.aald (v := .ref (f i.toNatClampNeg)) (ty := .array .int) hx hb (hB.2.1 q0 _ ha) ((hB.1.2 4 _ rfl).1 n (fun j => va_rf (some (f j)))) rfl (fun q => by cases q) (by show ¬ (i < 0 ∨ (arrV _ _ _).slots.size ≤ _); rw [arrV_size]; exact hin) (by show (arrV _ _ _).slots[_]? = _; rw [arrV_read _ _ hlt]; rfl) rfl rfl hdg kk
end ZAA
set_option maxRecDepth 20000 in
theorem kc_X5 (l : Launch) (D : va_G) (ac : Nat → ClassId) : zKc l D ac yX5_init cX5_init 3 5 [.int 0, .int 0, .int 0, .int 0, .null, .null, .int 0, .null, .null, .null, .null, .null, .null, .null, .int 0, .int 0, .null] { frames := 2, cells := 16, slots := 114, locals := 40 } 16 114 (zWX5 ac) := by
  refine zmet (by decide) rfl (by decide) ?_
  intro h0 p e s m args below meth c ls hx hb hr hts hown hml hin hB hl fin
  have hown : s.vm.findClass RX5 = some m.cls := hown
  have hl : lv_has ls 3 [(0, .ref h0)] := hl
  generalize zAf h0 s.heap.size = A at hB fin ⊢
  generalize hH : s.heap = H at hB ⊢
  generalize hLo : ([] : List Loc) = locs at hB ⊢
  refine lv_aload_n hx hb dX5_init_0 rfl (lv_at hl 0 rfl) ?_
  refine W.objInit hx hb hown (sw_w hts q_47) (sw_w hts q_40) (sw_w hts q_41) rfl (by rw [hml]; exact hl.1) rfl dX5_init_1 (Nat.le_of_ble_eq_true rfl) (Nat.le_of_ble_eq_true rfl) ?_
  refine W.eq (g2 := F0 m 4 ls []) rfl ?_
  refine lv_aload_n hx hb dX5_init_4 rfl (lv_at hl 0 rfl) ?_
  refine lv_iconst (v := 0) hx hb dX5_init_5 (by decide) ?_
  refine zn_put hx hb hts hown qf_5 tyX5 tyX5_ok nmX5 rfl hB 0 (Nat.le_of_ble_eq_true rfl) q_49 (by first | exact Or.inl rfl | exact Or.inr ⟨rfl, hin, rfl⟩) (by first | rfl | decide) (by first | rfl | decide) (Nat.le_of_ble_eq_true rfl) dX5_init_6 (fun H locs hB => ?_)
  have hB : zBw D ac A ((h0, .inr (5, [.int 0, .int 0, .int 0, .int 0, .null, .null, .int 0, .null, .null, .null, .null, .null, .null, .null, .int 0, .int 0, .null])) :: []) s H locs := hB
  refine lv_aload_n hx hb dX5_init_9 rfl (lv_at hl 0 rfl) ?_
  refine lv_iconst (v := 0) hx hb dX5_init_10 (by decide) ?_
  refine zn_put hx hb hts hown qf_5 tyX5 tyX5_ok nmX5 rfl hB 1 (Nat.le_of_ble_eq_true rfl) q_51 (by first | exact Or.inl rfl | exact Or.inr ⟨rfl, hin, rfl⟩) (by first | rfl | decide) (by first | rfl | decide) (Nat.le_of_ble_eq_true rfl) dX5_init_11 (fun H locs hB => ?_)
  have hB : zBw D ac A ((h0, .inr (5, [.int 0, .int 0, .int 0, .int 0, .null, .null, .int 0, .null, .null, .null, .null, .null, .null, .null, .int 0, .int 0, .null])) :: []) s H locs := hB
  refine lv_aload_n hx hb dX5_init_14 rfl (lv_at hl 0 rfl) ?_
  refine lv_iconst (v := 0) hx hb dX5_init_15 (by decide) ?_
  refine zn_put hx hb hts hown qf_5 tyX5 tyX5_ok nmX5 rfl hB 2 (Nat.le_of_ble_eq_true rfl) q_54 (by first | exact Or.inl rfl | exact Or.inr ⟨rfl, hin, rfl⟩) (by first | rfl | decide) (by first | rfl | decide) (Nat.le_of_ble_eq_true rfl) dX5_init_16 (fun H locs hB => ?_)
  have hB : zBw D ac A ((h0, .inr (5, [.int 0, .int 0, .int 0, .int 0, .null, .null, .int 0, .null, .null, .null, .null, .null, .null, .null, .int 0, .int 0, .null])) :: []) s H locs := hB
  refine lv_aload_n hx hb dX5_init_19 rfl (lv_at hl 0 rfl) ?_
  refine lv_iconst (v := 0) hx hb dX5_init_20 (by decide) ?_
  refine zn_put hx hb hts hown qf_5 tyX5 tyX5_ok nmX5 rfl hB 3 (Nat.le_of_ble_eq_true rfl) q_56 (by first | exact Or.inl rfl | exact Or.inr ⟨rfl, hin, rfl⟩) (by first | rfl | decide) (by first | rfl | decide) (Nat.le_of_ble_eq_true rfl) dX5_init_21 (fun H locs hB => ?_)
  have hB : zBw D ac A ((h0, .inr (5, [.int 0, .int 0, .int 0, .int 0, .null, .null, .int 0, .null, .null, .null, .null, .null, .null, .null, .int 0, .int 0, .null])) :: []) s H locs := hB
  refine lv_aload_n hx hb dX5_init_24 rfl (lv_at hl 0 rfl) ?_
  refine lv_bipush (v := 8) hx hb dX5_init_25 (by decide) ?_
  refine zn_a hx hb hts (atype := .char) qa_char 0 rfl rfl hB (a0 := (8, .inl (fun _ => 0))) (fun _ => rfl) (by decide) (by decide) (by decide) (Nat.le_of_ble_eq_true rfl) (Nat.le_of_ble_eq_true rfl) dX5_init_27 (fun q1 H hB => ?_)
  have hB : zBw D ac A ((h0, .inr (5, [.int 0, .int 0, .int 0, .int 0, .null, .null, .int 0, .null, .null, .null, .null, .null, .null, .null, .int 0, .int 0, .null])) :: [(q1, .inl (ac 0, 8, .inl (fun _ => 0)))]) s H locs := hB
  refine zn_put hx hb hts hown qf_5 tyX5 tyX5_ok nmX5 rfl hB 4 (Nat.le_of_ble_eq_true rfl) q_59 (by first | exact Or.inl rfl | exact Or.inr ⟨rfl, hin, rfl⟩) (by first | rfl | decide) (by first | rfl | decide) (Nat.le_of_ble_eq_true rfl) dX5_init_29 (fun H locs hB => ?_)
  have hB : zBw D ac A ((h0, .inr (5, [.int 0, .int 0, .int 0, .int 0, .ref q1, .null, .int 0, .null, .null, .null, .null, .null, .null, .null, .int 0, .int 0, .null])) :: [(q1, .inl (ac 0, 8, .inl (fun _ => 0)))]) s H locs := hB
  refine lv_aload_n hx hb dX5_init_32 rfl (lv_at hl 0 rfl) ?_
  refine lv_bipush (v := 8) hx hb dX5_init_33 (by decide) ?_
  refine zn_a hx hb hts (atype := .int) qa_int 1 rfl rfl hB (a0 := (8, .inl (fun _ => 0))) (fun _ => rfl) (by decide) (by decide) (by decide) (Nat.le_of_ble_eq_true rfl) (Nat.le_of_ble_eq_true rfl) dX5_init_35 (fun q2 H hB => ?_)
  have hB : zBw D ac A ((h0, .inr (5, [.int 0, .int 0, .int 0, .int 0, .ref q1, .null, .int 0, .null, .null, .null, .null, .null, .null, .null, .int 0, .int 0, .null])) :: [(q1, .inl (ac 0, 8, .inl (fun _ => 0))), (q2, .inl (ac 1, 8, .inl (fun _ => 0)))]) s H locs := hB
  refine zn_put hx hb hts hown qf_5 tyX5 tyX5_ok nmX5 rfl hB 5 (Nat.le_of_ble_eq_true rfl) q_62 (by first | exact Or.inl rfl | exact Or.inr ⟨rfl, hin, rfl⟩) (by first | rfl | decide) (by first | rfl | decide) (Nat.le_of_ble_eq_true rfl) dX5_init_37 (fun H locs hB => ?_)
  have hB : zBw D ac A ((h0, .inr (5, [.int 0, .int 0, .int 0, .int 0, .ref q1, .ref q2, .int 0, .null, .null, .null, .null, .null, .null, .null, .int 0, .int 0, .null])) :: [(q1, .inl (ac 0, 8, .inl (fun _ => 0))), (q2, .inl (ac 1, 8, .inl (fun _ => 0)))]) s H locs := hB
  refine lv_aload_n hx hb dX5_init_40 rfl (lv_at hl 0 rfl) ?_
  refine lv_iconst (v := 0) hx hb dX5_init_41 (by decide) ?_
  refine zn_put hx hb hts hown qf_5 tyX5 tyX5_ok nmX5 rfl hB 6 (Nat.le_of_ble_eq_true rfl) q_65 (by first | exact Or.inl rfl | exact Or.inr ⟨rfl, hin, rfl⟩) (by first | rfl | decide) (by first | rfl | decide) (Nat.le_of_ble_eq_true rfl) dX5_init_42 (fun H locs hB => ?_)
  have hB : zBw D ac A ((h0, .inr (5, [.int 0, .int 0, .int 0, .int 0, .ref q1, .ref q2, .int 0, .null, .null, .null, .null, .null, .null, .null, .int 0, .int 0, .null])) :: [(q1, .inl (ac 0, 8, .inl (fun _ => 0))), (q2, .inl (ac 1, 8, .inl (fun _ => 0)))]) s H locs := hB
  refine lv_aload_n hx hb dX5_init_45 rfl (lv_at hl 0 rfl) ?_
  refine lv_bipush (v := 6) hx hb dX5_init_46 (by decide) ?_
  refine zn_a hx hb hts (atype := .char) qa_char 0 rfl rfl hB (a0 := (6, .inl (fun _ => 0))) (fun _ => rfl) (by decide) (by decide) (by decide) (Nat.le_of_ble_eq_true rfl) (Nat.le_of_ble_eq_true rfl) dX5_init_48 (fun q3 H hB => ?_)
  have hB : zBw D ac A ((h0, .inr (5, [.int 0, .int 0, .int 0, .int 0, .ref q1, .ref q2, .int 0, .null, .null, .null, .null, .null, .null, .null, .int 0, .int 0, .null])) :: [(q1, .inl (ac 0, 8, .inl (fun _ => 0))), (q2, .inl (ac 1, 8, .inl (fun _ => 0))), (q3, .inl (ac 0, 6, .inl (fun _ => 0)))]) s H locs := hB
  refine zn_put hx hb hts hown qf_5 tyX5 tyX5_ok nmX5 rfl hB 7 (Nat.le_of_ble_eq_true rfl) q_70 (by first | exact Or.inl rfl | exact Or.inr ⟨rfl, hin, rfl⟩) (by first | rfl | decide) (by first | rfl | decide) (Nat.le_of_ble_eq_true rfl) dX5_init_50 (fun H locs hB => ?_)
  have hB : zBw D ac A ((h0, .inr (5, [.int 0, .int 0, .int 0, .int 0, .ref q1, .ref q2, .int 0, .ref q3, .null, .null, .null, .null, .null, .null, .int 0, .int 0, .null])) :: [(q1, .inl (ac 0, 8, .inl (fun _ => 0))), (q2, .inl (ac 1, 8, .inl (fun _ => 0))), (q3, .inl (ac 0, 6, .inl (fun _ => 0)))]) s H locs := hB
  refine lv_aload_n hx hb dX5_init_53 rfl (lv_at hl 0 rfl) ?_
  refine lv_bipush (v := 6) hx hb dX5_init_54 (by decide) ?_
  refine zn_a hx hb hts (atype := .int) qa_int 1 rfl rfl hB (a0 := (6, .inl (fun _ => 0))) (fun _ => rfl) (by decide) (by decide) (by decide) (Nat.le_of_ble_eq_true rfl) (Nat.le_of_ble_eq_true rfl) dX5_init_56 (fun q4 H hB => ?_)
  have hB : zBw D ac A ((h0, .inr (5, [.int 0, .int 0, .int 0, .int 0, .ref q1, .ref q2, .int 0, .ref q3, .null, .null, .null, .null, .null, .null, .int 0, .int 0, .null])) :: [(q1, .inl (ac 0, 8, .inl (fun _ => 0))), (q2, .inl (ac 1, 8, .inl (fun _ => 0))), (q3, .inl (ac 0, 6, .inl (fun _ => 0))), (q4, .inl (ac 1, 6, .inl (fun _ => 0)))]) s H locs := hB
  refine zn_put hx hb hts hown qf_5 tyX5 tyX5_ok nmX5 rfl hB 8 (Nat.le_of_ble_eq_true rfl) q_74 (by first | exact Or.inl rfl | exact Or.inr ⟨rfl, hin, rfl⟩) (by first | rfl | decide) (by first | rfl | decide) (Nat.le_of_ble_eq_true rfl) dX5_init_58 (fun H locs hB => ?_)
  have hB : zBw D ac A ((h0, .inr (5, [.int 0, .int 0, .int 0, .int 0, .ref q1, .ref q2, .int 0, .ref q3, .ref q4, .null, .null, .null, .null, .null, .int 0, .int 0, .null])) :: [(q1, .inl (ac 0, 8, .inl (fun _ => 0))), (q2, .inl (ac 1, 8, .inl (fun _ => 0))), (q3, .inl (ac 0, 6, .inl (fun _ => 0))), (q4, .inl (ac 1, 6, .inl (fun _ => 0)))]) s H locs := hB
  refine lv_aload_n hx hb dX5_init_61 rfl (lv_at hl 0 rfl) ?_
  refine lv_bipush (v := 6) hx hb dX5_init_62 (by decide) ?_
  refine zn_a hx hb hts (atype := .int) qa_int 1 rfl rfl hB (a0 := (6, .inl (fun _ => 0))) (fun _ => rfl) (by decide) (by decide) (by decide) (Nat.le_of_ble_eq_true rfl) (Nat.le_of_ble_eq_true rfl) dX5_init_64 (fun q5 H hB => ?_)
  have hB : zBw D ac A ((h0, .inr (5, [.int 0, .int 0, .int 0, .int 0, .ref q1, .ref q2, .int 0, .ref q3, .ref q4, .null, .null, .null, .null, .null, .int 0, .int 0, .null])) :: [(q1, .inl (ac 0, 8, .inl (fun _ => 0))), (q2, .inl (ac 1, 8, .inl (fun _ => 0))), (q3, .inl (ac 0, 6, .inl (fun _ => 0))), (q4, .inl (ac 1, 6, .inl (fun _ => 0))), (q5, .inl (ac 1, 6, .inl (fun _ => 0)))]) s H locs := hB
  refine zn_put hx hb hts hown qf_5 tyX5 tyX5_ok nmX5 rfl hB 9 (Nat.le_of_ble_eq_true rfl) q_76 (by first | exact Or.inl rfl | exact Or.inr ⟨rfl, hin, rfl⟩) (by first | rfl | decide) (by first | rfl | decide) (Nat.le_of_ble_eq_true rfl) dX5_init_66 (fun H locs hB => ?_)
  have hB : zBw D ac A ((h0, .inr (5, [.int 0, .int 0, .int 0, .int 0, .ref q1, .ref q2, .int 0, .ref q3, .ref q4, .ref q5, .null, .null, .null, .null, .int 0, .int 0, .null])) :: [(q1, .inl (ac 0, 8, .inl (fun _ => 0))), (q2, .inl (ac 1, 8, .inl (fun _ => 0))), (q3, .inl (ac 0, 6, .inl (fun _ => 0))), (q4, .inl (ac 1, 6, .inl (fun _ => 0))), (q5, .inl (ac 1, 6, .inl (fun _ => 0)))]) s H locs := hB
  refine lv_aload_n hx hb dX5_init_69 rfl (lv_at hl 0 rfl) ?_
  refine lv_bipush (v := 6) hx hb dX5_init_70 (by decide) ?_
  refine zn_a hx hb hts (atype := .int) qa_int 1 rfl rfl hB (a0 := (6, .inl (fun _ => 0))) (fun _ => rfl) (by decide) (by decide) (by decide) (Nat.le_of_ble_eq_true rfl) (Nat.le_of_ble_eq_true rfl) dX5_init_72 (fun q6 H hB => ?_)
  have hB : zBw D ac A ((h0, .inr (5, [.int 0, .int 0, .int 0, .int 0, .ref q1, .ref q2, .int 0, .ref q3, .ref q4, .ref q5, .null, .null, .null, .null, .int 0, .int 0, .null])) :: [(q1, .inl (ac 0, 8, .inl (fun _ => 0))), (q2, .inl (ac 1, 8, .inl (fun _ => 0))), (q3, .inl (ac 0, 6, .inl (fun _ => 0))), (q4, .inl (ac 1, 6, .inl (fun _ => 0))), (q5, .inl (ac 1, 6, .inl (fun _ => 0))), (q6, .inl (ac 1, 6, .inl (fun _ => 0)))]) s H locs := hB
  refine zn_put hx hb hts hown qf_5 tyX5 tyX5_ok nmX5 rfl hB 10 (Nat.le_of_ble_eq_true rfl) q_78 (by first | exact Or.inl rfl | exact Or.inr ⟨rfl, hin, rfl⟩) (by first | rfl | decide) (by first | rfl | decide) (Nat.le_of_ble_eq_true rfl) dX5_init_74 (fun H locs hB => ?_)
  have hB : zBw D ac A ((h0, .inr (5, [.int 0, .int 0, .int 0, .int 0, .ref q1, .ref q2, .int 0, .ref q3, .ref q4, .ref q5, .ref q6, .null, .null, .null, .int 0, .int 0, .null])) :: [(q1, .inl (ac 0, 8, .inl (fun _ => 0))), (q2, .inl (ac 1, 8, .inl (fun _ => 0))), (q3, .inl (ac 0, 6, .inl (fun _ => 0))), (q4, .inl (ac 1, 6, .inl (fun _ => 0))), (q5, .inl (ac 1, 6, .inl (fun _ => 0))), (q6, .inl (ac 1, 6, .inl (fun _ => 0)))]) s H locs := hB
  refine lv_aload_n hx hb dX5_init_77 rfl (lv_at hl 0 rfl) ?_
  refine lv_bipush (v := 6) hx hb dX5_init_78 (by decide) ?_
  refine zn_a hx hb hts (atype := .int) qa_int 1 rfl rfl hB (a0 := (6, .inl (fun _ => 0))) (fun _ => rfl) (by decide) (by decide) (by decide) (Nat.le_of_ble_eq_true rfl) (Nat.le_of_ble_eq_true rfl) dX5_init_80 (fun q7 H hB => ?_)
  have hB : zBw D ac A ((h0, .inr (5, [.int 0, .int 0, .int 0, .int 0, .ref q1, .ref q2, .int 0, .ref q3, .ref q4, .ref q5, .ref q6, .null, .null, .null, .int 0, .int 0, .null])) :: [(q1, .inl (ac 0, 8, .inl (fun _ => 0))), (q2, .inl (ac 1, 8, .inl (fun _ => 0))), (q3, .inl (ac 0, 6, .inl (fun _ => 0))), (q4, .inl (ac 1, 6, .inl (fun _ => 0))), (q5, .inl (ac 1, 6, .inl (fun _ => 0))), (q6, .inl (ac 1, 6, .inl (fun _ => 0))), (q7, .inl (ac 1, 6, .inl (fun _ => 0)))]) s H locs := hB
  refine zn_put hx hb hts hown qf_5 tyX5 tyX5_ok nmX5 rfl hB 11 (Nat.le_of_ble_eq_true rfl) q_81 (by first | exact Or.inl rfl | exact Or.inr ⟨rfl, hin, rfl⟩) (by first | rfl | decide) (by first | rfl | decide) (Nat.le_of_ble_eq_true rfl) dX5_init_82 (fun H locs hB => ?_)
  have hB : zBw D ac A ((h0, .inr (5, [.int 0, .int 0, .int 0, .int 0, .ref q1, .ref q2, .int 0, .ref q3, .ref q4, .ref q5, .ref q6, .ref q7, .null, .null, .int 0, .int 0, .null])) :: [(q1, .inl (ac 0, 8, .inl (fun _ => 0))), (q2, .inl (ac 1, 8, .inl (fun _ => 0))), (q3, .inl (ac 0, 6, .inl (fun _ => 0))), (q4, .inl (ac 1, 6, .inl (fun _ => 0))), (q5, .inl (ac 1, 6, .inl (fun _ => 0))), (q6, .inl (ac 1, 6, .inl (fun _ => 0))), (q7, .inl (ac 1, 6, .inl (fun _ => 0)))]) s H locs := hB
  refine lv_aload_n hx hb dX5_init_85 rfl (lv_at hl 0 rfl) ?_
  refine lv_bipush (v := 6) hx hb dX5_init_86 (by decide) ?_
  refine zn_a hx hb hts (atype := .int) qa_int 1 rfl rfl hB (a0 := (6, .inl (fun _ => 0))) (fun _ => rfl) (by decide) (by decide) (by decide) (Nat.le_of_ble_eq_true rfl) (Nat.le_of_ble_eq_true rfl) dX5_init_88 (fun q8 H hB => ?_)
  have hB : zBw D ac A ((h0, .inr (5, [.int 0, .int 0, .int 0, .int 0, .ref q1, .ref q2, .int 0, .ref q3, .ref q4, .ref q5, .ref q6, .ref q7, .null, .null, .int 0, .int 0, .null])) :: [(q1, .inl (ac 0, 8, .inl (fun _ => 0))), (q2, .inl (ac 1, 8, .inl (fun _ => 0))), (q3, .inl (ac 0, 6, .inl (fun _ => 0))), (q4, .inl (ac 1, 6, .inl (fun _ => 0))), (q5, .inl (ac 1, 6, .inl (fun _ => 0))), (q6, .inl (ac 1, 6, .inl (fun _ => 0))), (q7, .inl (ac 1, 6, .inl (fun _ => 0))), (q8, .inl (ac 1, 6, .inl (fun _ => 0)))]) s H locs := hB
  refine zn_put hx hb hts hown qf_5 tyX5 tyX5_ok nmX5 rfl hB 12 (Nat.le_of_ble_eq_true rfl) q_82 (by first | exact Or.inl rfl | exact Or.inr ⟨rfl, hin, rfl⟩) (by first | rfl | decide) (by first | rfl | decide) (Nat.le_of_ble_eq_true rfl) dX5_init_90 (fun H locs hB => ?_)
  have hB : zBw D ac A ((h0, .inr (5, [.int 0, .int 0, .int 0, .int 0, .ref q1, .ref q2, .int 0, .ref q3, .ref q4, .ref q5, .ref q6, .ref q7, .ref q8, .null, .int 0, .int 0, .null])) :: [(q1, .inl (ac 0, 8, .inl (fun _ => 0))), (q2, .inl (ac 1, 8, .inl (fun _ => 0))), (q3, .inl (ac 0, 6, .inl (fun _ => 0))), (q4, .inl (ac 1, 6, .inl (fun _ => 0))), (q5, .inl (ac 1, 6, .inl (fun _ => 0))), (q6, .inl (ac 1, 6, .inl (fun _ => 0))), (q7, .inl (ac 1, 6, .inl (fun _ => 0))), (q8, .inl (ac 1, 6, .inl (fun _ => 0)))]) s H locs := hB
  refine lv_aload_n hx hb dX5_init_93 rfl (lv_at hl 0 rfl) ?_
  refine lv_bipush (v := 6) hx hb dX5_init_94 (by decide) ?_
  refine lv_bipush (v := 8) hx hb dX5_init_96 (by decide) ?_
  refine zn_m hx hb hts hown q_48 qa_int hB (N := 6) (K := 8) (by decide) (by decide) (by decide) (by decide) (by decide) (by decide) (Nat.le_of_ble_eq_true rfl) (Nat.le_of_ble_eq_true rfl) dX5_init_98 (fun q9 H locs hB => ?_)
  have hB : zBw D ac A ((h0, .inr (5, [.int 0, .int 0, .int 0, .int 0, .ref q1, .ref q2, .int 0, .ref q3, .ref q4, .ref q5, .ref q6, .ref q7, .ref q8, .null, .int 0, .int 0, .null])) :: ([(q1, .inl (ac 0, 8, .inl (fun _ => 0))), (q2, .inl (ac 1, 8, .inl (fun _ => 0))), (q3, .inl (ac 0, 6, .inl (fun _ => 0))), (q4, .inl (ac 1, 6, .inl (fun _ => 0))), (q5, .inl (ac 1, 6, .inl (fun _ => 0))), (q6, .inl (ac 1, 6, .inl (fun _ => 0))), (q7, .inl (ac 1, 6, .inl (fun _ => 0))), (q8, .inl (ac 1, 6, .inl (fun _ => 0)))] ++ ((q9, .inl (ac 4, 6, .inr (.inr (.inr (.inr (fun j => some (q9 + 1 + j))))))) :: (List.range 6).map (fun j => (q9 + 1 + j, (.inl (ac 1, 8, .inl (fun _ => 0)) : va_E)))))) s H locs := hB
  refine zn_put hx hb hts hown qf_5 tyX5 tyX5_ok nmX5 rfl hB 13 (Nat.le_of_ble_eq_true rfl) q_83 (by first | exact Or.inl rfl | exact Or.inr ⟨rfl, hin, rfl⟩) (by first | rfl | decide) (by first | rfl | decide) (Nat.le_of_ble_eq_true rfl) dX5_init_102 (fun H locs hB => ?_)
  have hB : zBw D ac A ((h0, .inr (5, [.int 0, .int 0, .int 0, .int 0, .ref q1, .ref q2, .int 0, .ref q3, .ref q4, .ref q5, .ref q6, .ref q7, .ref q8, .ref q9, .int 0, .int 0, .null])) :: ([(q1, .inl (ac 0, 8, .inl (fun _ => 0))), (q2, .inl (ac 1, 8, .inl (fun _ => 0))), (q3, .inl (ac 0, 6, .inl (fun _ => 0))), (q4, .inl (ac 1, 6, .inl (fun _ => 0))), (q5, .inl (ac 1, 6, .inl (fun _ => 0))), (q6, .inl (ac 1, 6, .inl (fun _ => 0))), (q7, .inl (ac 1, 6, .inl (fun _ => 0))), (q8, .inl (ac 1, 6, .inl (fun _ => 0)))] ++ ((q9, .inl (ac 4, 6, .inr (.inr (.inr (.inr (fun j => some (q9 + 1 + j))))))) :: (List.range 6).map (fun j => (q9 + 1 + j, (.inl (ac 1, 8, .inl (fun _ => 0)) : va_E)))))) s H locs := hB
  refine lv_aload_n hx hb dX5_init_105 rfl (lv_at hl 0 rfl) ?_
  refine lv_bipush (v := 10) hx hb dX5_init_106 (by decide) ?_
  refine zn_put hx hb hts hown qf_5 tyX5 tyX5_ok nmX5 rfl hB 14 (Nat.le_of_ble_eq_true rfl) q_86 (by first | exact Or.inl rfl | exact Or.inr ⟨rfl, hin, rfl⟩) (by first | rfl | decide) (by first | rfl | decide) (Nat.le_of_ble_eq_true rfl) dX5_init_108 (fun H locs hB => ?_)
  have hB : zBw D ac A ((h0, .inr (5, [.int 0, .int 0, .int 0, .int 0, .ref q1, .ref q2, .int 0, .ref q3, .ref q4, .ref q5, .ref q6, .ref q7, .ref q8, .ref q9, .int 10, .int 0, .null])) :: ([(q1, .inl (ac 0, 8, .inl (fun _ => 0))), (q2, .inl (ac 1, 8, .inl (fun _ => 0))), (q3, .inl (ac 0, 6, .inl (fun _ => 0))), (q4, .inl (ac 1, 6, .inl (fun _ => 0))), (q5, .inl (ac 1, 6, .inl (fun _ => 0))), (q6, .inl (ac 1, 6, .inl (fun _ => 0))), (q7, .inl (ac 1, 6, .inl (fun _ => 0))), (q8, .inl (ac 1, 6, .inl (fun _ => 0)))] ++ ((q9, .inl (ac 4, 6, .inr (.inr (.inr (.inr (fun j => some (q9 + 1 + j))))))) :: (List.range 6).map (fun j => (q9 + 1 + j, (.inl (ac 1, 8, .inl (fun _ => 0)) : va_E)))))) s H locs := hB
  refine lv_aload_n hx hb dX5_init_111 rfl (lv_at hl 0 rfl) ?_
  refine lv_iconst (v := 0) hx hb dX5_init_112 (by decide) ?_
  refine zn_put hx hb hts hown qf_5 tyX5 tyX5_ok nmX5 rfl hB 15 (Nat.le_of_ble_eq_true rfl) q_89 (by first | exact Or.inl rfl | exact Or.inr ⟨rfl, hin, rfl⟩) (by first | rfl | decide) (by first | rfl | decide) (Nat.le_of_ble_eq_true rfl) dX5_init_113 (fun H locs hB => ?_)
  have hB : zBw D ac A ((h0, .inr (5, [.int 0, .int 0, .int 0, .int 0, .ref q1, .ref q2, .int 0, .ref q3, .ref q4, .ref q5, .ref q6, .ref q7, .ref q8, .ref q9, .int 10, .int 0, .null])) :: ([(q1, .inl (ac 0, 8, .inl (fun _ => 0))), (q2, .inl (ac 1, 8, .inl (fun _ => 0))), (q3, .inl (ac 0, 6, .inl (fun _ => 0))), (q4, .inl (ac 1, 6, .inl (fun _ => 0))), (q5, .inl (ac 1, 6, .inl (fun _ => 0))), (q6, .inl (ac 1, 6, .inl (fun _ => 0))), (q7, .inl (ac 1, 6, .inl (fun _ => 0))), (q8, .inl (ac 1, 6, .inl (fun _ => 0)))] ++ ((q9, .inl (ac 4, 6, .inr (.inr (.inr (.inr (fun j => some (q9 + 1 + j))))))) :: (List.range 6).map (fun j => (q9 + 1 + j, (.inl (ac 1, 8, .inl (fun _ => 0)) : va_E)))))) s H locs := hB
  refine lv_aload_n hx hb dX5_init_116 rfl (lv_at hl 0 rfl) ?_
  refine lv_bipush (v := 8) hx hb dX5_init_117 (by decide) ?_
  refine zn_a hx hb hts (atype := .int) qa_int 1 rfl rfl hB (a0 := (8, .inl (fun _ => 0))) (fun _ => rfl) (by decide) (by decide) (by decide) (Nat.le_of_ble_eq_true rfl) (Nat.le_of_ble_eq_true rfl) dX5_init_119 (fun q10 H hB => ?_)
  have hB : zBw D ac A ((h0, .inr (5, [.int 0, .int 0, .int 0, .int 0, .ref q1, .ref q2, .int 0, .ref q3, .ref q4, .ref q5, .ref q6, .ref q7, .ref q8, .ref q9, .int 10, .int 0, .null])) :: ([(q1, .inl (ac 0, 8, .inl (fun _ => 0))), (q2, .inl (ac 1, 8, .inl (fun _ => 0))), (q3, .inl (ac 0, 6, .inl (fun _ => 0))), (q4, .inl (ac 1, 6, .inl (fun _ => 0))), (q5, .inl (ac 1, 6, .inl (fun _ => 0))), (q6, .inl (ac 1, 6, .inl (fun _ => 0))), (q7, .inl (ac 1, 6, .inl (fun _ => 0))), (q8, .inl (ac 1, 6, .inl (fun _ => 0)))] ++ (((q9, .inl (ac 4, 6, .inr (.inr (.inr (.inr (fun j => some (q9 + 1 + j))))))) :: (List.range 6).map (fun j => (q9 + 1 + j, (.inl (ac 1, 8, .inl (fun _ => 0)) : va_E)))) ++ [(q10, .inl (ac 1, 8, .inl (fun _ => 0)))]))) s H locs := hB
  refine zn_put hx hb hts hown qf_5 tyX5 tyX5_ok nmX5 rfl hB 16 (Nat.le_of_ble_eq_true rfl) q_91 (by first | exact Or.inl rfl | exact Or.inr ⟨rfl, hin, rfl⟩) (by first | rfl | decide) (by first | rfl | decide) (Nat.le_of_ble_eq_true rfl) dX5_init_121 (fun H locs hB => ?_)
  have hB : zBw D ac A ((h0, .inr (5, [.int 0, .int 0, .int 0, .int 0, .ref q1, .ref q2, .int 0, .ref q3, .ref q4, .ref q5, .ref q6, .ref q7, .ref q8, .ref q9, .int 10, .int 0, .ref q10])) :: ([(q1, .inl (ac 0, 8, .inl (fun _ => 0))), (q2, .inl (ac 1, 8, .inl (fun _ => 0))), (q3, .inl (ac 0, 6, .inl (fun _ => 0))), (q4, .inl (ac 1, 6, .inl (fun _ => 0))), (q5, .inl (ac 1, 6, .inl (fun _ => 0))), (q6, .inl (ac 1, 6, .inl (fun _ => 0))), (q7, .inl (ac 1, 6, .inl (fun _ => 0))), (q8, .inl (ac 1, 6, .inl (fun _ => 0)))] ++ (((q9, .inl (ac 4, 6, .inr (.inr (.inr (.inr (fun j => some (q9 + 1 + j))))))) :: (List.range 6).map (fun j => (q9 + 1 + j, (.inl (ac 1, 8, .inl (fun _ => 0)) : va_E)))) ++ [(q10, .inl (ac 1, 8, .inl (fun _ => 0)))]))) s H locs := hB
  obtain ⟨u, eu⟩ : ∃ u : Nat → Nat, u = (fun r => ([h0, q1, q2, q3, q4, q5, q6, q7, q8, q9, q10] : List Nat).getD r 0) := ⟨_, rfl⟩
  have hB : zBw D ac A (zWs ac h0 u (fun _ _ => 0)) s H locs := by rw [eu]; exact hB
  clear eu
  have inner : ∀ i, i < 6 → (∀ (M : Nat → Nat → Int32) (H : Heap) (locs : List Loc) (ls : Array Slot), lv_has ls 3 [(1, .int (nI i)), (0, .ref h0)] → zBw D ac A (zWs ac h0 u M) s H locs → zSv (i + 1) 0 M → W p l e ({ frames := 2, cells := 16, slots := 114, locals := 40 } : Room) s m args below meth c H locs 16 114 (MQ below (va_Qv (fun _ : zSB => True) (zPo D (zWX5 ac h0) A) A) args s 16 114 A) (F0 m 155 ls [])) → ∀ n j, j + n = 8 → ∀ (M : Nat → Nat → Int32) (H : Heap) (locs : List Loc) (ls : Array Slot), lv_has ls 3 [(2, .int (nI j)), (1, .int (nI i)), (0, .ref h0)] → zBw D ac A (zWs ac h0 u M) s H locs → zSv i j M → W p l e ({ frames := 2, cells := 16, slots := 114, locals := 40 } : Room) s m args below meth c H locs 16 114 (MQ below (va_Qv (fun _ : zSB => True) (zPo D (zWX5 ac h0) A) A) args s 16 114 A) (F0 m 134 ls []) := by
    intro i hi out n
    induction n with
    | zero =>
      intro j hj M H locs ls hl hB hv
      have e : j = 8 := by omega
      subst e
      refine lv_iload_n hx hb dX5_init_134 rfl (lv_at hl 0 rfl) ?_
      refine lv_bipush (v := 8) hx hb dX5_init_135 (by decide) ?_
      refine lv_icmp_ge (tgt := 155) hx hb dX5_init_137 (by decide) (fun _ => ?_) (fun z => absurd (by decide) z)
      exact out M H locs ls (lv_sub hl [1, 2] rfl) hB (fun a c ha hc q => hv a c ha hc (by omega))
    | succ n ih =>
      intro j hj M H locs ls hl hB hv
      refine lv_iload_n hx hb dX5_init_134 rfl (lv_at hl 0 rfl) ?_
      refine lv_bipush (v := 8) hx hb dX5_init_135 (by decide) ?_
      refine lv_icmp_ge (tgt := 155) hx hb dX5_init_137 (by decide) (fun z => absurd z (nI_ge (show j < 8 by omega) (by decide))) (fun _ => ?_)
      refine lv_aload_n hx hb dX5_init_140 rfl (lv_at hl 2 rfl) ?_
      refine va_get hx hb hts (fun w h => List.mem_cons_of_mem _ (qf_5 w h)) hown hB.1 hB.2.1 0 rfl rfl 13 (Nat.le_of_ble_eq_true rfl) (sw_w hts q_83) (fun _ h => h) (v := .ref (u 9)) rfl dX5_init_141 ?_
      refine lv_iload_n hx hb dX5_init_144 rfl (lv_at hl 1 rfl) ?_
      refine zn_aa hx hb hB 9 (n := 6) (f := fun j => u 9 + 1 + j) rfl (vin hi (by decide)) dX5_init_145 ?_
      refine lv_iload_n hx hb dX5_init_146 rfl (lv_at hl 0 rfl) ?_
      refine lv_iconst (v := -1) hx hb dX5_init_147 (by decide) ?_
      rw [cl (show i < 2 ^ 31 by omega)]
      refine va_iast hx hb hB.1 hB.2.1 hB.2.2.1 hB.2.2.2.1 (10 + i) 1 (zWs_get hi) rfl (vin (show j < 8 by omega) (by decide)) dX5_init_148 (fun H locs hP hD hS => ?_)
      rw [cl (show j < 2 ^ 31 by omega), zWs_set hi] at hP hD
      have hB : zBw D ac A (zWs ac h0 u (sw_ms M i j (-1))) s H locs := ⟨hB.1, hP, hD, hS, hB.2.2.2.2⟩
      refine lv_iinc (v := nI (j + 1)) (lv' := [(2, .int (nI (j + 1))), (1, .int (nI i)), (0, .ref h0)]) hx hb dX5_init_149 hl (k := 0) rfl (by rw [nI_succ j]; rfl) (Nat.le_of_ble_eq_true rfl) rfl (fun ls hl => ?_)
      refine lv_goto (tgt := 134) hx hb dX5_init_152 (by decide) ?_
      refine ih (j + 1) (by omega) _ H locs ls hl hB (fun a c ha hc q => ?_)
      by_cases e : a = i ∧ c = j
      · obtain ⟨rfl, rfl⟩ := e
        rw [sw_ms_k]; exact if_pos rfl
      · by_cases e1 : a = i
        · subst e1
          rw [sw_ms_k]
          exact (if_neg (fun w => e ⟨rfl, w⟩)).trans (hv a c ha hc (by omega))
        · rw [sw_ms_n _ _ _ e1]
          exact hv a c ha hc (by omega)
  have outer : ∀ n i, i + n = 6 → ∀ (M : Nat → Nat → Int32) (H : Heap) (locs : List Loc) (ls : Array Slot), lv_has ls 3 [(1, .int (nI i)), (0, .ref h0)] → zBw D ac A (zWs ac h0 u M) s H locs → zSv i 0 M → W p l e ({ frames := 2, cells := 16, slots := 114, locals := 40 } : Room) s m args below meth c H locs 16 114 (MQ below (va_Qv (fun _ : zSB => True) (zPo D (zWX5 ac h0) A) A) args s 16 114 A) (F0 m 126 ls []) := by
    intro n
    induction n with
    | zero =>
      intro i hi M H locs ls hl hB hv
      have e : i = 6 := by omega
      subst e
      refine lv_iload_n hx hb dX5_init_126 rfl (lv_at hl 0 rfl) ?_
      refine lv_bipush (v := 6) hx hb dX5_init_127 (by decide) ?_
      refine lv_icmp_ge (tgt := 161) hx hb dX5_init_129 (by decide) (fun _ => ?_) (fun z => absurd (by decide) z)
      exact fin ⟨(u, M), hv⟩ _ _ _ _ dX5_init_161 hB
    | succ n ih =>
      intro i hi M H locs ls hl hB hv
      refine lv_iload_n hx hb dX5_init_126 rfl (lv_at hl 0 rfl) ?_
      refine lv_bipush (v := 6) hx hb dX5_init_127 (by decide) ?_
      refine lv_icmp_ge (tgt := 161) hx hb dX5_init_129 (by decide) (fun z => absurd z (nI_ge (show i < 6 by omega) (by decide))) (fun _ => ?_)
      refine lv_iconst (v := 0) hx hb dX5_init_132 (by decide) ?_
      refine lv_istore_n (lv' := [(2, .int (nI 0)), (1, .int (nI i)), (0, .ref h0)]) hx hb dX5_init_133 rfl hl (Nat.le_of_ble_eq_true rfl) rfl (fun ls hl => ?_)
      refine inner i (by omega) (fun M H locs ls hl hB hv => ?_) 8 0 rfl M H locs ls hl hB hv
      refine lv_iinc (v := nI (i + 1)) (lv' := [(1, .int (nI (i + 1))), (0, .ref h0)]) hx hb dX5_init_155 hl (k := 0) rfl (by rw [nI_succ i]; rfl) (Nat.le_of_ble_eq_true rfl) rfl (fun ls hl => ?_)
      refine lv_goto (tgt := 126) hx hb dX5_init_158 (by decide) ?_
      exact ih (i + 1) (by omega) M H locs ls hl hB hv
  refine lv_iconst (v := 0) hx hb dX5_init_124 (by decide) ?_
  refine lv_istore_n (lv' := [(1, .int (nI 0)), (0, .ref h0)]) hx hb dX5_init_125 rfl hl (Nat.le_of_ble_eq_true rfl) rfl (fun ls hl => ?_)
  exact outer 6 0 rfl (fun _ _ => 0) H locs ls hl hB (fun a c _ _ q => by omega)
theorem ci_X5 : sw_cI yX5_init cX5_init 3 := ⟨q_45, q_3, q_46, rfl, by decide +kernel⟩
