/-! Constructors: a world that grows, kept with what the tables say of it. -/
def zty (ac : Nat → ClassId) : List (ClassId × FieldType) := [(ac 0, .char), (ac 1, .int), (ac 2, .boolean), (ac 3, .object RX5), (ac 4, .array .int), (ac 5, .long), (ac 6, .byte)]
theorem zty_sw (g : sG) : zty (sw_ac g) = sw_ty g := rfl
/-- the tables' words about nest mates, and others that only warm -/
def zNs (s : State) : Prop := ∀ w ∈ lw_tbl, sw_per w = true → w.before #[] s = true
theorem zNs.moved {s U : State} (hW : s.WarmedH U.vm) (h : zNs s) : zNs U := fun w hw hp => sw_per_warm hp hW (h w hw hp)
def zBw (D : va_G) (ac : Nat → ClassId) (A : Nat → Prop) (ws : va_W) (s : State) (H : Heap) (locs : List Loc) : Prop :=
  va_K D sw_cl (zty ac) s ∧ va_P D sw_cl ws H ∧ va_D A ws ∧ va_S A s.heap H locs ∧ (∀ q, s.heap.size ≤ q → A q) ∧ zAI s ∧ va_AO RX5 s ∧ zNs s
theorem va_RA_inj {s : State} {a b : ClassId} {ty : FieldType} (h1 : va_RA s a ty) (h2 : va_RA s b ty) : a = b := by
  cases ty with
  | object C =>
    obtain ⟨_, _, _, _, _, h1⟩ := h1
    obtain ⟨_, _, _, _, _, h2⟩ := h2
    exact Option.some.inj (h1.symm.trans h2)
  | _ => exact Option.some.inj (h1.symm.trans h2)
def zAf (h0 sz : Nat) : Nat → Prop := fun q => q = h0 ∨ sz ≤ q
def zPre (D : va_G) (ac : Nat → ClassId) (ci : Nat) (fs : List Value) (h0 sz : Nat) (U : State) : Prop := U.heap.size = sz ∧ (va_K D sw_cl (zty ac) U ∧ zAI U ∧ va_AO RX5 U ∧ zNs U) ∧ va_P D sw_cl [(h0, .inr (ci, fs))] U.heap
def zPo {β : Type} (D : va_G) (Wf : β → va_W) (A : Nat → Prop) (u : β) (t : State) : Prop := va_P D sw_cl (Wf u) t.heap ∧ va_D A (Wf u)
abbrev zKc {β : Type} (l : Launch) (D : va_G) (ac : Nat → ClassId) (y : MethodName) (cc : ByteArray) (maxL ci : Nat) (fs : List Value) (rm : Room) (mc ms : Nat) (Wf : Nat → β → va_W) : Prop :=
  ∀ h0 sz : Nat, Met l y (sw_ws y cc maxL none) rm (va_Pc [.ref h0] (zPre D ac ci fs h0 sz)) (va_Qv (fun _ : β => True) (zPo D (Wf h0) (zAf h0 sz)) (zAf h0 sz)) mc ms (zAf h0 sz)
theorem zD_1 {h0 sz : Nat} {e : va_E} : va_D (zAf h0 sz) [(h0, e)] := by
  refine ⟨fun i j p q hi hj _ => ?_, fun k q hk => ?_⟩
  · have h1 : i < 1 := (List.getElem?_eq_some_iff.mp hi).1
    have h2 : j < 1 := (List.getElem?_eq_some_iff.mp hj).1
    omega
  · have h1 : k < 1 := (List.getElem?_eq_some_iff.mp hk).1
    have h2 : k = 0 := by omega
    subst h2
    cases hk
    exact Or.inl rfl
theorem zmet {β : Type} {l : Launch} {D : va_G} {ac : Nat → ClassId} {y : MethodName} {cc : ByteArray} {maxL ci : Nat} {fs : List Value} {rm : Room} {mc ms : Nat} {Wf : Nat → β → va_W} (hy : plainName y.cls = true) (hy1 : y.name = "<init>") (hlen : 1 ≤ maxL)
    (body : ∀ (h0 : Nat) (p : Program) (e : Env) (s : State) (m : MethodId) (args : Array Value) (below : List Frame) (meth : Method) (c : Code) (ls : Array Slot), p.tables.exec = Jvm.exec → c.code = cc → meth.sig.returnType = none → (∀ w ∈ sw_ws y cc maxL none, w.before args s = true) → s.vm.findClass y.cls = some m.cls → c.maxLocals = maxL → meth.name = "<init>" → zBw D ac (zAf h0 s.heap.size) [(h0, .inr (ci, fs))] s s.heap [] → lv_has ls maxL [(0, .ref h0)] →
      (∀ (u : β) (H : Heap) (locs : List Loc) (pc : Nat) (ls : Array Slot), decode cc pc = .ok (.return_, 1) → zBw D ac (zAf h0 s.heap.size) (Wf h0 u) s H locs → W p l e rm s m args below meth c H locs mc ms (MQ below (va_Qv (fun _ : β => True) (zPo D (Wf h0) (zAf h0 s.heap.size)) (zAf h0 s.heap.size)) args s mc ms (zAf h0 s.heap.size)) (F0 m pc ls [])) →
      W p l e rm s m args below meth c s.heap [] 0 0 (MQ below (va_Qv (fun _ : β => True) (zPo D (Wf h0) (zAf h0 s.heap.size)) (zAf h0 s.heap.size)) args s mc ms (zAf h0 s.heap.size)) (F0 m 0 ls [])) : zKc l D ac y cc maxL ci fs rm mc ms Wf := by
  intro h0 sz
  refine Met.ofW hy rfl ?_
  intro p e s m args below meth c s₁ B hml hv
  obtain ⟨rfl, hsz, ⟨hK, hX⟩, hP⟩ := hv
  subst hsz
  have hl := lv_entry ([.ref h0]) (n := maxL) hlen
  rw [lg_entry_eq]
  have hin : meth.name = "<init>" := (name_of_methodNamed B.named B.method).1.trans hy1
  refine body h0 p e s m _ below meth c _ B.exec B.bytes B.returns (atoms_spec (ws := sw_ws y cc maxL none) B.pre) (findClass_of_methodNamed B.named) hml hin ⟨hK, hP, zD_1, va_S.rf, fun q h => Or.inr h, hX⟩ hl ?_
  intro u H locs pc ls hdg hB
  exact W.vret B.exec B.bytes B.returns (fun t ht hW => ⟨⟨u, rfl, trivial, by rw [ht]; exact hB.2.1, hB.2.2.1⟩, hB.2.2.2.1.F ht⟩) hB.2.2.2.1.2.2 hdg B.notSynchronized
def sw_cI (y : MethodName) (bytes : ByteArray) (maxL : Nat) : Prop :=
  Cond.instanceMethod y ∈ sw_all ∧ Cond.initialized y.cls ∈ sw_all ∧ Cond.code y bytes maxL none ∈ sw_all ∧ y.name = "<init>" ∧ (y.cls ≠ "java/lang/invoke/MethodHandle" ∧ y.cls ≠ "java/lang/invoke/VarHandle" ∧ (parseMethodDescriptor y.desc).map (fun d => d.parameters.length) = some 0)
section ZB
variable {p : Program} {l : Launch} {e : Env} {R : Room} {s : State} {m : MethodId} {args : Array Value} {below : List Frame} {meth : Method} {c : Code} {H : Heap} {locs : List Loc} {cells slots : Nat} {Q : State → Prop}
variable {cc : ByteArray} {pc : Nat} {ls : Array Slot} {rest : List Value} {D : va_G} {ac : Nat → ClassId} {A : Nat → Prop} {ws : va_W} {c0 : Cond}
theorem zn_a (hx : p.tables.exec = Jvm.exec) (hb : c.code = cc) (hts : ∀ w ∈ c0 :: sw_all, w.before args s = true) {atype : ArrayType} (harr : Cond.arrayClass (newarray.typeOf atype) ∈ sw_all) (t : Nat) {ty : FieldType} (hty : newarray.typeOf atype = ty) (ht : (zty ac)[t]? = some (ac t, ty)) (hB : zBw D ac A ws s H locs)
    {n : Int32} {N : Nat} {a0 : vp_A} (ha : ∀ cA : ClassId, vp_cell cA a0 = arrV cA N (fun _ => defaultValue ty)) (hn : ¬ n < 0) (hN : n.toNatClampNeg = N) (hbytes : N * componentBytes ty ≤ 536870912) (hcells : cells + 1 ≤ R.cells) (hslots : slots + N ≤ R.slots) (hdg : decode cc pc = .ok (.newarray atype, 2))
    (kk : ∀ (q : Nat) (H : Heap), zBw D ac A (ws ++ [(q, .inl (ac t, a0))]) s H locs → W p l e R s m args below meth c H locs (cells + 1) (slots + N) Q (F0 m (pc + 2) ls (.ref q :: rest))) : W p l e R s m args below meth c H locs cells slots Q (F0 m pc ls (.int n :: rest)) := by
  refine va_newa hx hb (sw_w hts harr) hty hB.1 hB.2.1 hB.2.2.1 hB.2.2.2.1 hB.2.2.2.2.1 ha hn hN hbytes hcells hslots hdg (fun q cA H1 hK hP hD hS => ?_)
  have e1 := (hK.2 (zty ac).length (cA, ty) (by rw [List.getElem?_append_right (Nat.le_refl _), Nat.sub_self]; rfl)).2
  have e2 := (hB.1.2 t (ac t, ty) ht).2
  have e : cA = ac t := va_RA_inj e1 e2
  subst e
  exact kk q H1 ⟨hB.1, hP, hD, hS, hB.2.2.2.2⟩
theorem zn_put (hx : p.tables.exec = Jvm.exec) (hb : c.code = cc) {own C : String} {T : u_T} {N ci index : Nat} (hts : ∀ w ∈ c0 :: sw_all, w.before args s = true) (hown : s.vm.findClass own = some m.cls) (hin : ∀ w ∈ u_ws C T N, w ∈ sw_all) (ty0 : Nat → FieldType) (hty : ∀ k, k < N → parseFieldDescriptor (T k).2.2.1 = some (ty0 k)) (hnm : ∀ a, a < N → ∀ b, b < N → a ≠ b → (T a).2.1 ≠ (T b).2.1) (hc : sw_cl[ci]? = some (C, T, N)) {a : Nat} {fs : List Value} (hB : zBw D ac A ((a, .inr (ci, fs)) :: ws) s H locs) (k : Nat) (hk : k < N) (hlink : Cond.fieldLink own index (T k).1 (T k).2.1 (T k).2.2.1 ∈ sw_all) (hfin : (T k).2.2.2 = false ∨ ((T k).2.2.2 = true ∧ meth.name = "<init>" ∧ (T k).1 = own)) {v : Value} (hn : narrow (ty0 k) v = v) (hfit : fits (ty0 k) v = true) (hl : k < fs.length) (hdg : decode cc pc = .ok (.putfield index, 3))
    (kk : ∀ (H : Heap) (locs : List Loc), zBw D ac A ((a, .inr (ci, fs.set k v)) :: ws) s H locs → W p l e R s m args below meth c H locs cells slots Q (F0 m (pc + 3) ls rest)) : W p l e R s m args below meth c H locs cells slots Q (F0 m pc ls (v :: .ref a :: rest)) := by
  rcases hfin with hfin | ⟨hfin, hin2, hdecl⟩
  · exact va_put hx hb hts (fun w h => List.mem_cons_of_mem _ (hin w h)) ty0 hty hnm hown hB.1 hB.2.1 hB.2.2.1 hB.2.2.2.1 0 rfl hc k hk (sw_w hts hlink) (fun _ h => h) hfin (hty k hk) hn hfit hl hdg (fun H1 locs1 hP hD hS => kk H1 locs1 ⟨hB.1, hP, hD, hS, hB.2.2.2.2⟩)
  · exact va_putF hx hb hts (fun w h => List.mem_cons_of_mem _ (hin w h)) ty0 hty hnm hown hB.1 hB.2.1 hB.2.2.1 hB.2.2.2.1 0 rfl hc k hk (sw_w hts hlink) (fun _ h => h) hfin hin2 hdecl (hty k hk) hn hfit hl hdg (fun H1 locs1 hP hD hS => kk H1 locs1 ⟨hB.1, hP, hD, hS, hB.2.2.2.2⟩)
theorem zn_new (hx : p.tables.exec = Jvm.exec) (hb : c.code = cc) {own C : String} {T : u_T} {N ci index : Nat} (hts : ∀ w ∈ c0 :: sw_all, w.before args s = true) (hown : s.vm.findClass own = some m.cls) (hin : ∀ w ∈ u_ws C T N, w ∈ sw_all) (ty0 : Nat → FieldType) (hty : ∀ k, k < N → parseFieldDescriptor (T k).2.2.1 = some (ty0 k)) (hc : sw_cl[ci]? = some (C, T, N)) (hcl : Cond.classLink own index C ∈ sw_all) (hinst : Cond.instantiable C N ∈ sw_all) (hini : Cond.initialized C ∈ sw_all) (hB : zBw D ac A ws s H locs) {fs : List Value} (hfs : ∀ j, j < N → defaultValue (ty0 j) = vp_V fs j) (hcells : cells + 1 ≤ R.cells) (hslots : slots + N ≤ R.slots) (hdg : decode cc pc = .ok (.new index, 3))
    (kk : ∀ (q : Nat) (H : Heap), zBw D ac A (ws ++ [(q, .inr (ci, fs))]) s H locs → W p l e R s m args below meth c H locs (cells + 1) (slots + N) Q (F0 m (pc + 3) ls (.ref q :: rest))) : W p l e R s m args below meth c H locs cells slots Q (F0 m pc ls rest) :=
  va_new hx hb hts (fun w h => List.mem_cons_of_mem _ (hin w h)) ty0 hty hown (sw_w hts hcl) (sw_w hts hinst) (sw_w hts hini) hB.1 hB.2.1 hB.2.2.1 hB.2.2.2.1 hB.2.2.2.2.1 hc hfs hcells hslots hdg (fun q H1 hP hD hS => kk q H1 ⟨hB.1, hP, hD, hS, hB.2.2.2.2⟩)
theorem zn_pre {ci : Nat} {fs : List Value} {q : Nat} (hB : zBw D ac A (ws ++ [(q, .inr (ci, fs))]) s H locs) : PreS s H (va_Pc [.ref q] (zPre D ac ci fs q H.size)) [.ref q] := by
  obtain ⟨hK, hP, hD, hS, hA, hX⟩ := hB
  have hlast : (ws ++ [(q, .inr (ci, fs))])[ws.length]? = some (q, (.inr (ci, fs) : va_E)) := by rw [List.getElem?_append_right (Nat.le_refl _), Nat.sub_self]; rfl
  have hPc : va_P D sw_cl [(q, .inr (ci, fs))] H := fun k x hk => by
    have h1 : k < 1 := (List.getElem?_eq_some_iff.mp hk).1
    have h2 : k = 0 := by omega
    subst h2
    cases hk
    exact hP _ _ hlast
  exact ⟨fun a U g mk h => ⟨h.1, h.2.1, ⟨va_K.moved (u := U) (U := U.calling g mk a) (Vm.Alike.refl U.vm) h.2.2.1.1, zAI.moved (u := U) (U := U.calling g mk a) (Vm.Alike.refl U.vm) h.2.2.1.2.1, va_AO.moved (u := U) (U := U.calling g mk a) (Vm.Alike.refl U.vm) h.2.2.1.2.2.1, zNs.moved (s := U) (U := U.calling g mk a) (State.WarmedH.refl U) h.2.2.1.2.2.2⟩, h.2.2.2⟩, fun U hU hW => ⟨rfl, by rw [hU], ⟨va_K.moved hW.alike hK, hX.1.moved hW.alike, hX.2.1.moved hW.alike, hX.2.2.moved hW⟩, by rw [hU]; exact hPc⟩⟩
theorem zn_callW {β : Type} {ci mc ms : Nat} {fs : List Value} {Wf : Nat → β → va_W} {q : Nat} {a : Array Value} (hB : zBw D ac A (ws ++ [(q, .inr (ci, fs))]) s H locs)
    (hr : va_Run p l e R s m args below meth c H locs cells slots mc ms (F0 m pc ls (.ref q :: rest)) rest (va_Qv (fun _ : β => True) (zPo D (Wf q) (zAf q H.size)) (zAf q H.size) a) (zAf q H.size))
    (kk : ∀ (u : β) (H : Heap) (locs : List Loc), zBw D ac A (ws ++ Wf q u) s H locs → W p l e R s m args below meth c H locs (cells + mc) (slots + ms) Q (F0 m (pc + 3) ls rest)) : W p l e R s m args below meth c H locs cells slots Q (F0 m pc ls (.ref q :: rest)) := by
  obtain ⟨hK, hP, hD, hS, hA, hX⟩ := hB
  have hlast : (ws ++ [(q, .inr (ci, fs))])[ws.length]? = some (q, (.inr (ci, fs) : va_E)) := by rw [List.getElem?_append_right (Nat.le_refl _), Nat.sub_self]; rfl
  have hAq : ∀ x, zAf q H.size x → A x := fun x h => by
    rcases h with rfl | h
    · exact hD.2 _ _ hlast
    · exact hA x (Nat.le_trans hS.1 h)
  refine va_callv hr hS (fun x _ h => hAq x h) hAq (fun u t H1 locs1 ht hvm hw hBu hz hk hS1 => ?_)
  obtain ⟨hP1, hD1⟩ := hBu
  rw [ht] at hP1
  have hold : ∀ (k : Nat) (x : Nat × va_E), ws[k]? = some x → x.1 < H.size ∧ x.1 ≠ q := fun k x hx => by
    have hl := (List.getElem?_eq_some_iff.mp hx).1
    have hx' : (ws ++ [(q, (.inr (ci, fs) : va_E))])[k]? = some x := by rw [List.getElem?_append_left hl]; exact hx
    refine ⟨(hP k x hx').lt, fun z => ?_⟩
    have := hD.1 k ws.length x _ hx' hlast z
    omega
  refine kk u H1 locs1 ⟨hK, va_P.app (fun k x hx => ?_) hP1, va_D.app ⟨fun i j x y hi hj hxy => ?_, fun k x hx => ?_⟩ (hD1.weaken (fun k x _ h => hAq x.1 h)) (fun i j x y hi hj hxy => ?_), hS1, hA, hX⟩
  · obtain ⟨b1, b2⟩ := hold k x hx
    have hl := (List.getElem?_eq_some_iff.mp hx).1
    refine (hP k x (by rw [List.getElem?_append_left hl]; exact hx)).kept (hk x.1 b1 (fun z => ?_))
    rcases z with z | z
    · exact b2 z
    · omega
  · have hl := (List.getElem?_eq_some_iff.mp hi).1
    have hl2 := (List.getElem?_eq_some_iff.mp hj).1
    exact hD.1 i j x y (by rw [List.getElem?_append_left hl]; exact hi) (by rw [List.getElem?_append_left hl2]; exact hj) hxy
  · have hl := (List.getElem?_eq_some_iff.mp hx).1
    exact hD.2 k x (by rw [List.getElem?_append_left hl]; exact hx)
  · obtain ⟨b1, b2⟩ := hold i x hi
    rcases hD1.2 j y hj with z | z
    · exact b2 (hxy.trans z)
    · omega
theorem zn_call {β : Type} {y : MethodName} {bytes : ByteArray} {maxL nL ci mc ms index : Nat} {fs : List Value} {rm : Room} {Wf : Nat → β → va_W} {own : String} {q : Nat} (hx : p.tables.exec = Jvm.exec) (hb : c.code = cc) (hml : c.maxLocals = nL) (hown : s.vm.findClass own = some m.cls) (hts : ∀ w ∈ c0 :: sw_all, w.before args s = true) (hM : zKc l D ac y bytes maxL ci fs rm mc ms Wf) (hc : sw_cI y bytes maxL) (hlk : Cond.methodLink own index y ∈ sw_all) (hrc : rm.cells = mc) (hrs : rm.slots = ms) (hR : rm.frames + 1 ≤ R.frames ∧ 8 + (maxL + 11) + rm.locals ≤ R.locals)
    (hB : zBw D ac A (ws ++ [(q, .inr (ci, fs))]) s H locs) (hsize : ls.size = nL) (hroom : (rest.map fun v => v.category).sum ≤ 8) (hdg : decode cc pc = .ok (.invokespecial index, 3)) (hf : cells + mc ≤ R.cells ∧ slots + ms ≤ R.slots)
    (kk : ∀ (u : β) (H : Heap) (locs : List Loc), zBw D ac A (ws ++ Wf q u) s H locs → W p l e R s m args below meth c H locs (cells + mc) (slots + ms) Q (F0 m (pc + 3) ls rest)) : W p l e R s m args below meth c H locs cells slots Q (F0 m pc ls (.ref q :: rest)) := by
  obtain ⟨q1, q2, q3, hy1, hd⟩ := hc
  have cw := cwI (R := R) (index := index) (own := own) (mc := mc) (ms := ms) (rm := rm) 0 hts (sw_goodIn (c0 := c0) (ws := sw_ws y bytes maxL none) (fun w hw => by
    rcases List.mem_cons.mp hw with rfl | hw
    · exact q3
    · exact hw)) rfl hrc hrs (sw_w hts q2) (sw_w hts hlk) (sw_w hts q1) hy1 hd hR
  exact zn_callW hB (va_runI (As := []) (rest := rest) ⟨hx, hb, hml, hown, hts⟩ (hM q H.size) cw (zn_pre hB) rfl rfl hsize rfl (lv_room hroom) hdg hf) kk
theorem zn_callN {β : Type} {y : MethodName} {bytes : ByteArray} {maxL nL ci mc ms index : Nat} {fs : List Value} {rm : Room} {Wf : Nat → β → va_W} {own host : String} {q : Nat} (hx : p.tables.exec = Jvm.exec) (hb : c.code = cc) (hml : c.maxLocals = nL) (hown : s.vm.findClass own = some m.cls) (hts : ∀ w ∈ c0 :: sw_all, w.before args s = true) (hM : zKc l D ac y bytes maxL ci fs rm mc ms Wf) (hc : sw_cI y bytes maxL) (hlk : Cond.methodLinkNest own index y host ∈ lw_tbl) (hrc : rm.cells = mc) (hrs : rm.slots = ms) (hR : rm.frames + 1 ≤ R.frames ∧ 8 + (maxL + 11) + rm.locals ≤ R.locals)
    (hB : zBw D ac A (ws ++ [(q, .inr (ci, fs))]) s H locs) (hsize : ls.size = nL) (hroom : (rest.map fun v => v.category).sum ≤ 8) (hdg : decode cc pc = .ok (.invokespecial index, 3)) (hf : cells + mc ≤ R.cells ∧ slots + ms ≤ R.slots)
    (kk : ∀ (u : β) (H : Heap) (locs : List Loc), zBw D ac A (ws ++ Wf q u) s H locs → W p l e R s m args below meth c H locs (cells + mc) (slots + ms) Q (F0 m (pc + 3) ls rest)) : W p l e R s m args below meth c H locs cells slots Q (F0 m pc ls (.ref q :: rest)) := by
  obtain ⟨q1, q2, q3, hy1, hd⟩ := hc
  have cw := va_cnB (R := R) (index := index) (own := own) (host := host) (mc := mc) (ms := ms) (rm := rm) 0 hts (sw_goodIn (c0 := c0) (ws := sw_ws y bytes maxL none) (fun w hw => by
    rcases List.mem_cons.mp hw with rfl | hw
    · exact q3
    · exact hw)) rfl hrc hrs (hB.2.2.2.2.2.2.2 _ hlk rfl) (sw_w hts q2) hd hR
  exact zn_callW hB (va_runIN (As := []) (rest := rest) ⟨hx, hb, hml, hown, hts⟩ (hM q H.size) ⟨cw, hy1, sw_w hts q1⟩ (zn_pre hB) rfl rfl hsize rfl (lv_room hroom) hdg hf) kk
theorem zn_m (hx : p.tables.exec = Jvm.exec) (hb : c.code = cc) (hts : ∀ w ∈ c0 :: sw_all, w.before args s = true) {own : String} {index : Nat} (hown : s.vm.findClass own = some m.cls) (hclink : Cond.classLink own index "[[I" ∈ sw_all) (harr : Cond.arrayClass .int ∈ sw_all) (hB : zBw D ac A ws s H locs) {n k : Int32} {N K : Nat} (hN : n.toNatClampNeg = N) (hK : k.toNatClampNeg = K) (hn : ¬ n < 0) (hk : ¬ k < 0) (hb1 : N ≤ 1000) (hb2 : K ≤ 1000) (hcells : cells + (1 + N) ≤ R.cells) (hslots : slots + (N + N * K) ≤ R.slots) (hdg : decode cc pc = .ok (.multianewarray index 2, 4))
    (kk : ∀ (q : Nat) (H : Heap) (locs : List Loc), zBw D ac A (ws ++ ((q, .inl (ac 4, N, .inr (.inr (.inr (.inr (fun j => some (q + 1 + j))))))) :: (List.range N).map (fun j => (q + 1 + j, (.inl (ac 1, K, .inl (fun _ => 0)) : va_E))))) s H locs → W p l e R s m args below meth c H locs (cells + 1 + N) (slots + N + N * K) Q (F0 m (pc + 4) ls (.ref q :: rest))) : W p l e R s m args below meth c H locs cells slots Q (F0 m pc ls (.int k :: .int n :: rest)) := by
  obtain ⟨hKK, hP, hD, hS, hA, hX⟩ := hB
  refine mw_row hx hb hown (sw_w hts hclink) hX.1 (sw_w hts harr) rfl hdg hN hK rfl hn hk hb1 hb2 hcells hslots (fun cA cI H1 r1 r2 _ _ hz ho hout hinn => ?_)
  have eA : cA = ac 4 := va_RA_inj r1 (hKK.2 4 (ac 4, .array .int) rfl).2
  have eI : cI = ac 1 := va_RA_inj r2 (hKK.2 1 (ac 1, .int) rfl).2
  subst eA; subst eI
  have hin : ∀ (i : Nat) (x : Nat × va_E), (((H.size, .inl (ac 4, N, .inr (.inr (.inr (.inr (fun j => some (H.size + 1 + j))))))) :: (List.range N).map (fun j => (H.size + 1 + j, (.inl (ac 1, K, .inl (fun _ => 0)) : va_E)))) : va_W)[i]? = some x → x.1 = H.size + i ∧ va_at D sw_cl x H1 := by
    intro i x hx
    cases i with
    | zero => cases hx; exact ⟨rfl, hout⟩
    | succ i =>
      rw [List.getElem?_cons_succ, List.getElem?_map] at hx
      have hi : i < N := by
        rcases Nat.lt_or_ge i N with h | h
        · exact h
        · rw [List.getElem?_eq_none (by simpa using h)] at hx; cases hx
      rw [List.getElem?_range hi] at hx
      cases hx
      exact ⟨by show H.size + 1 + i = _; omega, hinn i hi⟩
  have hold : ∀ (k : Nat) (x : Nat × va_E), ws[k]? = some x → x.1 < H.size := fun k x hx => (hP k x hx).lt
  have hS0 := hS.1
  refine kk H.size H1 _ ⟨hKK, va_P.app (hP.kept (fun k x hx => ho x.1 (hold k x hx))) (fun i x hx => (hin i x hx).2), va_D.app hD ⟨fun i j x y hi hj hxy => ?_, fun i x hx => ?_⟩ (fun i j x y hi hj hxy => ?_), ⟨by omega, fun q h1 h2 => (ho q (by omega)).trans (hS.2.1 q h1 h2), fun q hq => ?_⟩, hA, hX⟩
  · have a := (hin i x hi).1
    have b := (hin j y hj).1
    omega
  · have a := (hin i x hx).1
    exact hA _ (by omega)
  · have a := hold i x hi
    have b := (hin j y hj).1
    omega
  · rcases List.mem_append.mp hq with h | h
    · exact hS.2.2 q h
    · obtain ⟨j, -, rfl⟩ := List.mem_map.mp h
      exact hA _ hS0
end ZB
