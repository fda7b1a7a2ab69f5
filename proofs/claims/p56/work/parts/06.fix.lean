/-! What stays true of the start: classes, arrays, statics, strings, nest mates; and the instruction rows over the static world. -/
def sw_isN : Cond → Bool
  | .methodLinkNest _ _ _ _ => true
  | _ => false
def sw_per (w : Cond) : Bool := w.onTables && (w.faceAtom || sw_isN w)
theorem sw_per_warm {w : Cond} (hp : sw_per w = true) {s U : State} (hW : s.WarmedH U.vm) (h : w.before #[] s = true) : w.before #[] U = true := by
  simp only [sw_per, Bool.and_eq_true, Bool.or_eq_true] at hp
  obtain ⟨ht, hp⟩ := hp
  rcases hp with hp | hp
  · exact va_tabs ht (rfl : (s.setVm U.vm).vm = U.vm) (Cond.faceAtom_setVm hW.alike w hp h)
  · cases w <;> first | exact va_Nw.warmM hW h | (exfalso; simp [sw_isN] at hp)
def sw_so (i : Nat) : String := match i with
  | 0 => "DoorAcademy$Program"
  | 1 => "DoorAcademy$Program"
  | 2 => "DoorAcademy$Program"
  | 3 => "DoorAcademy$Program"
  | 4 => "DoorAcademy$Program"
  | 5 => "DoorAcademy$Program"
  | 6 => "DoorAcademy$Program"
  | 7 => "DoorAcademy$Program"
  | 8 => "DoorAcademy$Program"
  | 9 => "DoorAcademy$Program"
  | 10 => "DoorAcademyLaw"
  | 11 => "DoorAcademyLaw"
  | 12 => "DoorAcademyLaw"
  | 13 => "DoorAcademyLaw"
  | 14 => "DoorAcademyLaw"
  | 15 => "DoorAcademyLaw"
  | 16 => "DoorAcademyLaw"
  | _ => "DoorAcademyLaw"
def sw_si (i : Nat) : Nat := match i with
  | 0 => 75
  | 1 => 77
  | 2 => 79
  | 3 => 81
  | 4 => 83
  | 5 => 85
  | 6 => 87
  | 7 => 89
  | 8 => 91
  | 9 => 93
  | 10 => 325
  | 11 => 340
  | 12 => 342
  | 13 => 344
  | 14 => 346
  | 15 => 372
  | 16 => 374
  | _ => 376
def sw_stx (i : Nat) : String := match i with
  | 0 => "door F D"
  | 1 => "examiner F N D D"
  | 2 => "conflict D D"
  | 3 => "assign D D"
  | 4 => "plan"
  | 5 => "grade D D N"
  | 6 => "threshold N"
  | 7 => "appeal D"
  | 8 => "award D"
  | 9 => "revoke D"
  | 10 => ""
  | 11 => " "
  | 12 => ":"
  | 13 => "="
  | 14 => "*"
  | 15 => "plan;threshold "
  | 16 => ";grade "
  | _ => " 9;award "
def sw_sb (i : Nat) : List Int32 := match i with
  | 0 => [100, 111, 111, 114, 32, 70, 32, 68]
  | 1 => [101, 120, 97, 109, 105, 110, 101, 114, 32, 70, 32, 78, 32, 68, 32, 68]
  | 2 => [99, 111, 110, 102, 108, 105, 99, 116, 32, 68, 32, 68]
  | 3 => [97, 115, 115, 105, 103, 110, 32, 68, 32, 68]
  | 4 => [112, 108, 97, 110]
  | 5 => [103, 114, 97, 100, 101, 32, 68, 32, 68, 32, 78]
  | 6 => [116, 104, 114, 101, 115, 104, 111, 108, 100, 32, 78]
  | 7 => [97, 112, 112, 101, 97, 108, 32, 68]
  | 8 => [97, 119, 97, 114, 100, 32, 68]
  | 9 => [114, 101, 118, 111, 107, 101, 32, 68]
  | 10 => []
  | 11 => [32]
  | 12 => [58]
  | 13 => [61]
  | 14 => [42]
  | 15 => [112, 108, 97, 110, 59, 116, 104, 114, 101, 115, 104, 111, 108, 100, 32]
  | 16 => [59, 103, 114, 97, 100, 101, 32]
  | _ => [32, 57, 59, 97, 119, 97, 114, 100, 32]
def sw_S1 (g : sG) (i : Nat) (U : State) (H : Heap) : Prop :=
  va_O "java/lang/String" (sw_sk g i) (sw_A g) U H ∧ va_OF "java/lang/String" "coder" "B" (.int 0) (sw_sk g i) (sw_A g) U H ∧ va_OF "java/lang/String" "value" "[B" (.ref (sw_sv g i)) (sw_sk g i) (sw_A g) U H ∧ va_T .byte (sw_sv g i) (sw_sb i).length (fun j => .int ((sw_sb i).getD j 0)) (sw_A g) U H ∧ vk_R (sw_so i) (sw_si i) (sw_stx i) (sw_sk g i) U
/-- what a handler ahead does not take -/
def sw_nc : List (String × String) := [("java/lang/IllegalArgumentException", "java/lang/IndexOutOfBoundsException"), ("java/lang/IllegalStateException", "java/lang/IllegalArgumentException"), ("java/lang/IllegalStateException", "java/lang/IndexOutOfBoundsException"), ("java/lang/IllegalStateException", "java/util/NoSuchElementException"), ("java/lang/UnsupportedOperationException", "java/lang/IllegalArgumentException"), ("java/lang/UnsupportedOperationException", "java/lang/IllegalStateException"), ("java/lang/UnsupportedOperationException", "java/lang/IndexOutOfBoundsException"), ("java/util/NoSuchElementException", "java/lang/IllegalArgumentException"), ("java/util/NoSuchElementException", "java/lang/IndexOutOfBoundsException")]
def sw_dg (g : sG) (U : State) (H : Heap) (F : String) (f : Nat → Nat) : Prop := ∃ t : Nat, va_Z "java/lang/Integer" F "[B" (.ref t) (sw_A g) U H ∧ va_T .byte t 100 (fun j => .int (nI (48 + f j))) (sw_A g) U H
def sw_CS (g : sG) (U : State) (H : Heap) : Prop := va_Z "java/lang/String" "COMPACT_STRINGS" "Z" (.int 1) (sw_A g) U H ∧ va_Zq "jdk/internal/util/Preconditions" "SIOOBE_FORMATTER" "Ljava/util/function/BiFunction;" (sw_A g) U H ∧ (∀ q ∈ sw_nc, va_Nc q.1 q.2 U) ∧ sw_dg g U H "DigitOnes" (fun j => j % 10) ∧ sw_dg g U H "DigitTens" (fun j => j / 10)
def sw_F (g : sG) (U : State) (H : Heap) : Prop :=
  va_K (sw_D g) sw_cl (sw_ty g) U ∧ sw_in g ∧ g.1 ≤ H.size ∧ vx_Zq Bundle.tN "UNASSIGNED_STACK" Bundle.steD (sw_A g) U H ∧ vx_Zq Bundle.tN "SUPPRESSED_SENTINEL" Bundle.listD (sw_A g) U H ∧ sw_CS g U H ∧ (∀ i : Nat, i < 18 → sw_S1 g i U H) ∧ ∀ w ∈ lw_tbl, sw_per w = true → w.before #[] U = true
theorem sw_F.go {g : sG} {s U : State} {H0 H : Heap} (h : sw_F g s H0) (hW : s.WarmedH U.vm) (hz : H0.size ≤ H.size) (hk : ∀ q : Nat, q < H0.size → ¬ sw_A g q → H[q]? = H0[q]?) : sw_F g U H := by
  obtain ⟨h1, h2, h3, h4, h5, h6, h7, h8⟩ := h
  have dg : ∀ {F : String} {f : Nat → Nat}, sw_dg g s H0 F f → sw_dg g U H F f := fun h => by
    obtain ⟨t, a1, a2⟩ := h
    exact ⟨t, (a1.kept hk).moved hW.alike, va_T.moved hW.alike (a2.kept hk)⟩
  exact ⟨h1.moved hW.alike, h2, Nat.le_trans h3 hz, (h4.kept hk).moved hW.alike, (h5.kept hk).moved hW.alike, ⟨(h6.1.kept hk).moved hW.alike, (h6.2.1.kept hk).moved hW.alike, fun q hq => (h6.2.2.1 q hq).moved hW.alike, dg h6.2.2.2.1, dg h6.2.2.2.2⟩,
    fun i hi => by
      obtain ⟨a1, a2, a3, a4, a5⟩ := h7 i hi
      exact ⟨va_O.moved hW.alike (a1.kept hk), va_OF.moved hW.alike (a2.kept hk), va_OF.moved hW.alike (a3.kept hk), va_T.moved hW.alike (a4.kept hk), a5.warm hW⟩,
    fun w hw hp => sw_per_warm hp hW (h8 w hw hp)⟩
def sw_Wd (g : sG) (M : sM) (s : State) (H : Heap) (locs : List Loc) : Prop :=
  va_P (sw_D g) sw_cl (sw_W g M) H ∧ va_S (sw_A g) s.heap H locs ∧ sw_F g s s.heap
def sw_Pr (g : sG) (M : sM) (U : State) : Prop := va_P (sw_D g) sw_cl (sw_W g M) U.heap ∧ sw_F g U U.heap
def sw_Po (g : sG) : sM → State → Prop := fun M t => va_P (sw_D g) sw_cl (sw_W g M) t.heap
theorem sw_Wd.pr {g : sG} {M : sM} {s U : State} {H : Heap} {locs : List Loc} (h : sw_Wd g M s H locs) (hU : U.heap = H) (hW : s.WarmedH U.vm) : sw_Pr g M U := by
  refine ⟨by rw [hU]; exact h.1, ?_⟩
  rw [hU]
  exact h.2.2.go hW h.2.1.1 h.2.1.2.1
theorem sw_Pr.wd {g : sG} {M : sM} {s : State} (h : sw_Pr g M s) : sw_Wd g M s s.heap [] := ⟨h.1, va_S.rf, h.2⟩
theorem sw_Pr.blind {g : sG} {M : sM} {av : List Value} : FrameBlind (va_Pc av (sw_Pr g M)) := fun a U f mk h => ⟨h.1, h.2.1, h.2.2.go (State.WarmedH.refl U) (Nat.le_refl _) (fun _ _ _ => rfl)⟩
theorem sw_preS {g : sG} {M : sM} {s : State} {H : Heap} {locs : List Loc} (hW : sw_Wd g M s H locs) (As : List Value) : PreS s H (va_Pc As (sw_Pr g M)) As := ⟨sw_Pr.blind, fun U hU hWm => ⟨rfl, hW.pr hU hWm⟩⟩
theorem sw_at {g : sG} {M : sM} {k ci : Nat} {fs : List (Option Nat)} (hk : sw_vk k) (hlay : sw_lay k = .inl (ci, fs)) : (sw_W g M)[sw_pl k]? = some (sw_ad g k, .inr (ci, sw_fv (sw_ad g) (M k) 0 fs)) := by
  rw [sw_W_get _ _ hk, sw_e, hlay]; rfl
theorem sw_atA {g : sG} {M : sM} {k t n : Nat} (hk : sw_vk k) (hlay : sw_lay k = .inr (t, n, none)) : (sw_W g M)[sw_pl k]? = some (sw_ad g k, .inl (sw_ac g t, n, .inl (M k))) := by
  rw [sw_W_get _ _ hk, sw_e, hlay]; rfl
theorem sw_atR {g : sG} {M : sM} {k t n b st : Nat} (hk : sw_vk k) (hlay : sw_lay k = .inr (t, n, some (b, st))) : (sw_W g M)[sw_pl k]? = some (sw_ad g k, .inl (sw_ac g t, n, .inr (.inr (.inr (.inr (fun j => some (sw_ad g (b + st * j)))))))) := by
  rw [sw_W_get _ _ hk, sw_e, hlay]; rfl
theorem sw_preV {g : sG} {M : sM} {s : State} {H : Heap} {locs : List Loc} {k ci N : Nat} {C : String} {T : u_T} {fs : List (Option Nat)} (hW : sw_Wd g M s H locs) (hk : sw_vk k) (hlay : sw_lay k = .inl (ci, fs)) (hc : sw_cl[ci]? = some (C, T, N)) (As : List Value) : PreV s H C (sw_ad g k) (va_Pc (.ref (sw_ad g k) :: As) (sw_Pr g M)) As :=
  ⟨sw_Pr.blind, va_recv hW.2.2.1 hW.1 hc (sw_at hk hlay), fun U hU hWm => ⟨rfl, hW.pr hU hWm⟩⟩
/-- the words of a method: its own code, and all good words of the tables -/
theorem sw_goodIn {c0 : Cond} {ws : List Cond} (h : ∀ w ∈ ws, w ∈ sw_all) : GoodIn (c0 :: sw_all) ws := fun w hw => ⟨List.mem_cons_of_mem _ (h w hw), good_of_word (List.mem_filter.mp (h w hw)).2⟩
theorem sw_w {args : Array Value} {s : State} {c0 w : Cond} (hts : ∀ w ∈ c0 :: sw_all, w.before args s = true) (h : w ∈ sw_all) : w.before args s = true := hts w (List.mem_cons_of_mem _ h)
section SWR
variable {p : Program} {l : Launch} {e : Env} {R : Room} {s : State} {m : MethodId} {args : Array Value} {below : List Frame} {meth : Method} {c : Code} {H : Heap} {locs : List Loc} {cells slots : Nat} {Q : State → Prop}
variable {cc : ByteArray} {pc : Nat} {ls : Array Slot} {rest : List Value} {g : sG} {M : sM} {c0 : Cond}
theorem sw_gi (hx : p.tables.exec = Jvm.exec) (hb : c.code = cc) {own C : String} {T : u_T} {N ci index k j : Nat} {fs : List (Option Nat)} (hts : ∀ w ∈ c0 :: sw_all, w.before args s = true) (hown : s.vm.findClass own = some m.cls) (hW : sw_Wd g M s H locs) (hc : sw_cl[ci]? = some (C, T, N)) (hin : ∀ w ∈ u_ws C T N, w ∈ sw_all) (hk : sw_vk k) (hlay : sw_lay k = .inl (ci, fs)) (hf : fs[j]? = some none) (hj : j < N) (hlink : Cond.fieldLink own index (T j).1 (T j).2.1 (T j).2.2.1 ∈ sw_all) (hdg : decode cc pc = .ok (.getfield index, 3))
    (kk : W p l e R s m args below meth c H locs cells slots Q (F0 m (pc + 3) ls (.int (M k j) :: rest))) : W p l e R s m args below meth c H locs cells slots Q (F0 m pc ls (.ref (sw_ad g k) :: rest)) :=
  va_get hx hb hts (fun w h => List.mem_cons_of_mem _ (hin w h)) hown hW.2.2.1 hW.1 (sw_pl k) (sw_at hk hlay) hc j hj (sw_w hts hlink) (fun _ h => h) (v := .int (M k j)) (by rw [sw_fv_int hf, Nat.zero_add]) hdg kk
theorem sw_gr (hx : p.tables.exec = Jvm.exec) (hb : c.code = cc) {own C : String} {T : u_T} {N ci index k j r : Nat} {fs : List (Option Nat)} (hts : ∀ w ∈ c0 :: sw_all, w.before args s = true) (hown : s.vm.findClass own = some m.cls) (hW : sw_Wd g M s H locs) (hc : sw_cl[ci]? = some (C, T, N)) (hin : ∀ w ∈ u_ws C T N, w ∈ sw_all) (hk : sw_vk k) (hlay : sw_lay k = .inl (ci, fs)) (hf : fs[j]? = some (some r)) (hj : j < N) (hlink : Cond.fieldLink own index (T j).1 (T j).2.1 (T j).2.2.1 ∈ sw_all) (hdg : decode cc pc = .ok (.getfield index, 3))
    (kk : W p l e R s m args below meth c H locs cells slots Q (F0 m (pc + 3) ls (.ref (sw_ad g r) :: rest))) : W p l e R s m args below meth c H locs cells slots Q (F0 m pc ls (.ref (sw_ad g k) :: rest)) :=
  va_get hx hb hts (fun w h => List.mem_cons_of_mem _ (hin w h)) hown hW.2.2.1 hW.1 (sw_pl k) (sw_at hk hlay) hc j hj (sw_w hts hlink) (fun _ h => h) (v := .ref (sw_ad g r)) (sw_fv_ref hf) hdg kk
theorem sw_set {k : Nat} (hk : sw_vk k) (j : Nat) (v : Int32) {en : va_E} (he : en = sw_mk g (upd (M k) j v) (sw_lay k)) : (sw_W g M).set (sw_pl k) (sw_ad g k, en) = sw_W g (sw_ms M k j v) := by
  rw [he]; exact sw_W_set g M hk j v
theorem sw_pi (hx : p.tables.exec = Jvm.exec) (hb : c.code = cc) {own C : String} {T : u_T} {N ci index k j : Nat} {fs : List (Option Nat)} (hts : ∀ w ∈ c0 :: sw_all, w.before args s = true) (hown : s.vm.findClass own = some m.cls) (hW : sw_Wd g M s H locs) (hc : sw_cl[ci]? = some (C, T, N)) (hin : ∀ w ∈ u_ws C T N, w ∈ sw_all) (ty0 : Nat → FieldType) (hty : ∀ k, k < N → parseFieldDescriptor (T k).2.2.1 = some (ty0 k)) (hnm : ∀ a, a < N → ∀ b, b < N → a ≠ b → (T a).2.1 ≠ (T b).2.1) (hk : sw_vk k) (hlay : sw_lay k = .inl (ci, fs)) (hf : fs[j]? = some none) (hj : j < N) (hlink : Cond.fieldLink own index (T j).1 (T j).2.1 (T j).2.2.1 ∈ sw_all) (hfin : (T j).2.2.2 = false) {v : Int32} (hn : narrow (ty0 j) (.int v) = .int v) (hfit : fits (ty0 j) (.int v) = true) (hdg : decode cc pc = .ok (.putfield index, 3))
    (kk : ∀ (H : Heap) (locs : List Loc), sw_Wd g (sw_ms M k j v) s H locs → W p l e R s m args below meth c H locs cells slots Q (F0 m (pc + 3) ls rest)) : W p l e R s m args below meth c H locs cells slots Q (F0 m pc ls (.int v :: .ref (sw_ad g k) :: rest)) := by
  refine va_put hx hb hts (fun w h => List.mem_cons_of_mem _ (hin w h)) ty0 hty hnm hown hW.2.2.1 hW.1 (sw_W_D hW.2.2.2.1 M) hW.2.1 (sw_pl k) (sw_at hk hlay) hc j hj (sw_w hts hlink) (fun _ h => h) hfin (hty j hj) hn hfit (by rw [sw_fv_len]; exact (List.getElem?_eq_some_iff.mp hf).1) hdg (fun H1 locs1 hP hD hS => ?_)
  rw [sw_set hk j v (by rw [hlay]; simp only [sw_mk]; rw [sw_fv_set hf, Nat.zero_add])] at hP
  exact kk H1 locs1 ⟨hP, hS, hW.2.2⟩
theorem sw_ia (hx : p.tables.exec = Jvm.exec) (hb : c.code = cc) (hW : sw_Wd g M s H locs) {k n : Nat} (hk : sw_vk k) (hlay : sw_lay k = .inr (1, n, none)) {i : Int32} (hin : vp_in i n) (hdg : decode cc pc = .ok (.iaload, 1))
    (kk : W p l e R s m args below meth c H locs cells slots Q (F0 m (pc + 1) ls (.int (M k i.toNatClampNeg) :: rest))) : W p l e R s m args below meth c H locs cells slots Q (F0 m pc ls (.int i :: .ref (sw_ad g k) :: rest)) :=
  va_iald hx hb hW.2.2.1 hW.1 (sw_pl k) 1 (sw_atA hk hlay) rfl hin hdg kk
theorem sw_ca (hx : p.tables.exec = Jvm.exec) (hb : c.code = cc) (hW : sw_Wd g M s H locs) {k n : Nat} (hk : sw_vk k) (hlay : sw_lay k = .inr (0, n, none)) {i : Int32} (hin : vp_in i n) (hdg : decode cc pc = .ok (.caload, 1))
    (kk : W p l e R s m args below meth c H locs cells slots Q (F0 m (pc + 1) ls (.int (M k i.toNatClampNeg) :: rest))) : W p l e R s m args below meth c H locs cells slots Q (F0 m pc ls (.int i :: .ref (sw_ad g k) :: rest)) :=
  va_cald hx hb hW.2.2.1 hW.1 (sw_pl k) 0 (sw_atA hk hlay) rfl hin hdg kk
theorem sw_za (hx : p.tables.exec = Jvm.exec) (hb : c.code = cc) (hW : sw_Wd g M s H locs) {k n : Nat} (hk : sw_vk k) (hlay : sw_lay k = .inr (2, n, none)) {i : Int32} (hin : vp_in i n) (hdg : decode cc pc = .ok (.baload, 1))
    (kk : W p l e R s m args below meth c H locs cells slots Q (F0 m (pc + 1) ls (.int (M k i.toNatClampNeg) :: rest))) : W p l e R s m args below meth c H locs cells slots Q (F0 m pc ls (.int i :: .ref (sw_ad g k) :: rest)) :=
  va_zald hx hb hW.2.2.1 hW.1 (sw_pl k) 2 (sw_atA hk hlay) rfl hin hdg kk
theorem sw_is (hx : p.tables.exec = Jvm.exec) (hb : c.code = cc) (hW : sw_Wd g M s H locs) {k n : Nat} (hk : sw_vk k) (hlay : sw_lay k = .inr (1, n, none)) {i x : Int32} (hin : vp_in i n) (hdg : decode cc pc = .ok (.iastore, 1))
    (kk : ∀ (H : Heap) (locs : List Loc), sw_Wd g (sw_ms M k i.toNatClampNeg x) s H locs → W p l e R s m args below meth c H locs cells slots Q (F0 m (pc + 1) ls rest)) : W p l e R s m args below meth c H locs cells slots Q (F0 m pc ls (.int x :: .int i :: .ref (sw_ad g k) :: rest)) := by
  refine va_iast hx hb hW.2.2.1 hW.1 (sw_W_D hW.2.2.2.1 M) hW.2.1 (sw_pl k) 1 (sw_atA hk hlay) rfl hin hdg (fun H1 locs1 hP hD hS => ?_)
  rw [sw_set hk i.toNatClampNeg x (by rw [hlay]; rfl)] at hP
  exact kk H1 locs1 ⟨hP, hS, hW.2.2⟩
theorem sw_cs (hx : p.tables.exec = Jvm.exec) (hb : c.code = cc) (hW : sw_Wd g M s H locs) {k n : Nat} (hk : sw_vk k) (hlay : sw_lay k = .inr (0, n, none)) {i x : Int32} (hin : vp_in i n) (hdg : decode cc pc = .ok (.castore, 1))
    (kk : ∀ (H : Heap) (locs : List Loc), sw_Wd g (sw_ms M k i.toNatClampNeg (vp_nar .char x)) s H locs → W p l e R s m args below meth c H locs cells slots Q (F0 m (pc + 1) ls rest)) : W p l e R s m args below meth c H locs cells slots Q (F0 m pc ls (.int x :: .int i :: .ref (sw_ad g k) :: rest)) := by
  refine va_cast hx hb hW.2.2.1 hW.1 (sw_W_D hW.2.2.2.1 M) hW.2.1 (sw_pl k) 0 (sw_atA hk hlay) rfl hin hdg (fun H1 locs1 hP hD hS => ?_)
  rw [sw_set hk i.toNatClampNeg (vp_nar .char x) (by rw [hlay]; rfl)] at hP
  exact kk H1 locs1 ⟨hP, hS, hW.2.2⟩
theorem sw_zs (hx : p.tables.exec = Jvm.exec) (hb : c.code = cc) (hW : sw_Wd g M s H locs) {k n : Nat} (hk : sw_vk k) (hlay : sw_lay k = .inr (2, n, none)) {i x : Int32} (hin : vp_in i n) (hdg : decode cc pc = .ok (.bastore, 1))
    (kk : ∀ (H : Heap) (locs : List Loc), sw_Wd g (sw_ms M k i.toNatClampNeg (vp_nar .boolean x)) s H locs → W p l e R s m args below meth c H locs cells slots Q (F0 m (pc + 1) ls rest)) : W p l e R s m args below meth c H locs cells slots Q (F0 m pc ls (.int x :: .int i :: .ref (sw_ad g k) :: rest)) := by
  refine va_zast hx hb hW.2.2.1 hW.1 (sw_W_D hW.2.2.2.1 M) hW.2.1 (sw_pl k) 2 (sw_atA hk hlay) rfl hin hdg (fun H1 locs1 hP hD hS => ?_)
  rw [sw_set hk i.toNatClampNeg (vp_nar .boolean x) (by rw [hlay]; rfl)] at hP
  exact kk H1 locs1 ⟨hP, hS, hW.2.2⟩
theorem sw_aa (hx : p.tables.exec = Jvm.exec) (hb : c.code = cc) (hW : sw_Wd g M s H locs) {k t n b st : Nat} {ty : FieldType} (hk : sw_vk k) (hlay : sw_lay k = .inr (t, n, some (b, st))) (ht : (sw_ty g)[t]? = some (sw_ac g t, ty)) (hty : ty.isReference = true) {i : Int32} (hin : vp_in i n) (hdg : decode cc pc = .ok (.aaload, 1))
    (kk : W p l e R s m args below meth c H locs cells slots Q (F0 m (pc + 1) ls (.ref (sw_ad g (b + st * i.toNatClampNeg)) :: rest))) : W p l e R s m args below meth c H locs cells slots Q (F0 m pc ls (.int i :: .ref (sw_ad g k) :: rest)) := by
  have hlt : i.toNatClampNeg < n := Nat.not_le.mp fun q => hin (Or.inr q)
  exact W.aald (v := .ref (sw_ad g (b + st * i.toNatClampNeg))) (ty := ty) hx hb (hW.1 (sw_pl k) _ (sw_atR hk hlay)) ((hW.2.2.1.2 t _ ht).1 n (fun j => va_rf (some (sw_ad g (b + st * j))))) hty (fun q => by cases q) (by show ¬ (i < 0 ∨ (arrV _ _ _).slots.size ≤ _); rw [arrV_size]; exact hin) (by show (arrV _ _ _).slots[_]? = _; rw [arrV_read _ _ hlt]; rfl) rfl rfl hdg kk
theorem sw_alen (hx : p.tables.exec = Jvm.exec) (hb : c.code = cc) (hW : sw_Wd g M s H locs) {k t n : Nat} {ty : FieldType} (hk : sw_vk k) (hlay : sw_lay k = .inr (t, n, none)) (ht : (sw_ty g)[t]? = some (sw_ac g t, ty)) {v : Int32} (hv : Int32.ofNat n = v) (hdg : decode cc pc = .ok (.arraylength, 1))
    (kk : W p l e R s m args below meth c H locs cells slots Q (F0 m (pc + 1) ls (.int v :: rest))) : W p l e R s m args below meth c H locs cells slots Q (F0 m pc ls (.ref (sw_ad g k) :: rest)) :=
  va_alen hx hb hW.2.2.1 hW.1 (sw_pl k) t (sw_atA hk hlay) ht hv hdg kk
end SWR
