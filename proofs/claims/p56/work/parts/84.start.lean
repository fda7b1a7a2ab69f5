/-! The classes and arrays at the start. -/
theorem z_D {args : Array Value} {s : State} (hts : ∀ w ∈ lw_tbl, w.before args s = true) : ∃ D : va_G, ∀ (c : Nat) (q : vw_C), sw_cl[c]? = some q → u_Kn s q.1 q.2.1 q.2.2 (D.1 c) (D.2 c) := by
  have ht : ∀ w ∈ sw_all, w.before args s = true := fun w hw => hts w (sw_q_tbl hw)
  have h0 : ∀ c : Nat, ∃ x : ClassId × (Nat → Nat), ∀ q : vw_C, sw_cl[c]? = some q → u_Kn s q.1 q.2.1 q.2.2 x.1 x.2 := by
    intro c
    match c with
    | 0 => obtain ⟨a, b, h⟩ := u_known ht qf_0 (ht _ q_94); exact ⟨(a, b), fun q hq => by cases hq; exact h⟩
    | 1 => obtain ⟨a, b, h⟩ := u_known ht qf_1 (ht _ q_142); exact ⟨(a, b), fun q hq => by cases hq; exact h⟩
    | 2 => obtain ⟨a, b, h⟩ := u_known ht qf_2 (ht _ q_121); exact ⟨(a, b), fun q hq => by cases hq; exact h⟩
    | 3 => obtain ⟨a, b, h⟩ := u_known ht qf_3 (ht _ q_106); exact ⟨(a, b), fun q hq => by cases hq; exact h⟩
    | 4 => obtain ⟨a, b, h⟩ := u_known ht qf_4 (ht _ q_127); exact ⟨(a, b), fun q hq => by cases hq; exact h⟩
    | 5 => obtain ⟨a, b, h⟩ := u_known ht qf_5 (ht _ q_43); exact ⟨(a, b), fun q hq => by cases hq; exact h⟩
    | 6 => obtain ⟨a, b, h⟩ := u_known ht qf_6 (ht _ q_35); exact ⟨(a, b), fun q hq => by cases hq; exact h⟩
    | 7 => obtain ⟨a, b, h⟩ := u_known ht qf_J (ht _ q_292); exact ⟨(a, b), fun q hq => by cases hq; exact h⟩
    | 8 => obtain ⟨a, b, h⟩ := u_known ht qf_B (ht _ q_774); exact ⟨(a, b), fun q hq => by cases hq; exact h⟩
    | k + 9 => exact ⟨(0, fun _ => 0), fun q hq => by cases hq⟩
  obtain ⟨f, hf⟩ := Classical.axiomOfChoice h0
  exact ⟨(fun c => (f c).1, fun c => (f c).2), hf⟩
theorem z_prim {args : Array Value} {s : State} {ty : FieldType} (hty : ty.isReference = false) (h : (Cond.arrayClass ty).before args s = true) : ∃ cA : ClassId, ArrOfT s cA ty ∧ va_RA s cA ty := by
  obtain ⟨cI, kI, c0, hcI, hkI, hkindI⟩ := Cond.arrayClass_spec h
  refine ⟨cI, fun n f => ⟨(fun k h => by cases h), kI, hkI, c0, hkindI⟩, ?_⟩
  cases ty with
  | object C => cases hty
  | _ => exact hcI
theorem qt_oI : Cond.arrayOver (.array .int) ∈ lw_tbl := qt_1 _ (List.mem_of_getElem? (i := 48) rfl)
theorem qt_oS : Cond.arrayOver (.object RX5) ∈ lw_tbl := qt_1 _ (List.mem_of_getElem? (i := 137) rfl)
theorem z_ac {args : Array Value} {s : State} (hts : ∀ w ∈ lw_tbl, w.before args s = true) : ∃ ac : Nat → ClassId, ∀ (k : Nat) (q : ClassId × FieldType), (zty ac)[k]? = some q → ArrOfT s q.1 q.2 ∧ va_RA s q.1 q.2 := by
  have ht : ∀ w ∈ sw_all, w.before args s = true := fun w hw => hts w (sw_q_tbl hw)
  obtain ⟨a0, h0⟩ := z_prim rfl (ht _ qa_char)
  obtain ⟨a1, h1⟩ := z_prim rfl (ht _ qa_int)
  obtain ⟨a2, h2⟩ := z_prim rfl (ht _ qa_boolean)
  obtain ⟨comp, a3, k3, g1, -, g3, g4, g5⟩ := Cond.arrayOver_spec (hts _ qt_oS)
  obtain ⟨cI, a4, k4, f1, f2, f3, f4⟩ := zAI.of (hts _ qt_oI)
  obtain ⟨a5, h5⟩ := z_prim rfl (ht _ qa_long)
  obtain ⟨a6, h6⟩ := z_prim rfl (ht _ qa_byte)
  refine ⟨fun t => ([a0, a1, a2, a3, a4, a5, a6] : List ClassId).getD t 0, fun k q hq => ?_⟩
  match k with
  | 0 => cases hq; exact h0
  | 1 => cases hq; exact h1
  | 2 => cases hq; exact h2
  | 3 => cases hq; exact ⟨fun n f => ⟨(fun k h => by cases h), k3, g3, comp, g4⟩, k3, comp, g3, g4, g1, g5⟩
  | 4 => cases hq; exact ⟨fun n f => ⟨(fun k h => by cases h), k4, f2, cI, f3⟩, f4⟩
  | 5 => cases hq; exact h5
  | 6 => cases hq; exact h6
  | k + 7 => cases hq
theorem z_B {args : Array Value} {s : State} (hts : ∀ w ∈ lw_tbl, w.before args s = true) : ∃ (D : va_G) (ac : Nat → ClassId), zBw D ac (fun q => s.heap.size ≤ q) [] s s.heap [] := by
  obtain ⟨D, hD⟩ := z_D hts
  obtain ⟨ac, hac⟩ := z_ac hts
  refine ⟨D, ac, ⟨hD, hac⟩, (fun k q hk => by cases hk), ⟨(fun i j p q hi => by cases hi), (fun k q hk => by cases hk)⟩, va_S.rf, (fun q h => h), zAI.of (hts _ qt_oI), va_AO.of (hts _ qt_oS), fun w hw hp => ?_⟩
  have ho : w.onTables = true := by
    simp only [sw_per, Bool.and_eq_true] at hp
    exact hp.1
  exact va_tabs ho rfl (hts w hw)
