/-! The law's level: the class as a picture z, the law's own objects E beside it. -/
def zl_re (g : sG) (n : Nat) : sG := (n, g.2)
theorem zl_A {g : sG} {n q : Nat} (h : g.1 ≤ n) (hq : sw_A (zl_re g n) q) : sw_A g q := by
  rcases hq with hq | hq
  · exact Or.inl (Nat.le_trans h hq)
  · exact Or.inr hq
theorem zl_Zq {C n d : String} {A B : Nat → Prop} {U : State} {H : Heap} (h : vx_Zq C n d A U H) (hAB : ∀ q, B q → A q) : vx_Zq C n d B U H := ⟨va_Zq.narrow h.1 hAB, vx_L.narrow h.2 hAB⟩
theorem zl_F {g : sG} {U : State} {H : Heap} {n : Nat} (h : sw_F g U H) (h1 : g.1 ≤ n) (h2 : n ≤ H.size) : sw_F (zl_re g n) U H := by
  obtain ⟨a1, a2, a3, a4, a5, a6, a7, a8⟩ := h
  have hA : ∀ q, sw_A (zl_re g n) q → sw_A g q := fun q hq => zl_A h1 hq
  have dg : ∀ {F : String} {f : Nat → Nat}, sw_dg g U H F f → sw_dg (zl_re g n) U H F f := fun h => by
    obtain ⟨t, b1, b2⟩ := h
    exact ⟨t, b1.narrow hA, b2.narrow hA⟩
  refine ⟨a1, a2, h2, zl_Zq a4 hA, zl_Zq a5 hA, ⟨a6.1.narrow hA, a6.2.1.narrow hA, a6.2.2.1, dg a6.2.2.2.1, dg a6.2.2.2.2⟩, fun i hi => ?_, a8⟩
  obtain ⟨b1, b2, b3, b4, b5⟩ := a7 i hi
  exact ⟨b1.narrow hA, b2.narrow hA, b3.narrow hA, b4.narrow hA, b5⟩
/-- the law's own objects: apart, and none of the class -/
def zl_E (g : sG) (E : va_W) : Prop := va_D (fun _ => True) E ∧ ∀ (k : Nat) (q : Nat × va_E), E[k]? = some q → ¬ sw_fx g q.1 ∧ g.1 ≤ q.1
theorem zl_E0 {g : sG} : zl_E g [] := ⟨⟨fun i j p q hi => (by cases hi), fun k q hk => trivial⟩, fun k q hk => (by cases hk)⟩
theorem zl_D {g : sG} {E : va_W} (hg : sw_in g) (hE : zl_E g E) (M : sM) : va_D (sw_A g) (sw_W g M ++ E) := by
  refine va_D.app (sw_W_D hg M) ⟨hE.1.1, fun k q hk => Or.inl (hE.2 k q hk).2⟩ (fun i j p q hi hj e => ?_)
  obtain ⟨h1, h2⟩ := sw_W_at g M hi
  exact (hE.2 j q hj).1 ⟨_, sw_vk_un h1, by rw [← e, h2]⟩
def zl_H (g : sG) (E : va_W) (z : zG) (H : Heap) : Prop := ∃ M, CI M z ∧ GI z ∧ va_P (sw_D g) sw_cl (sw_W g M ++ E) H
def zl_Wd (g : sG) (E : va_W) (z : zG) (s : State) (H : Heap) (locs : List Loc) : Prop := zl_H g E z H ∧ zl_E g E ∧ va_S (sw_A g) s.heap H locs ∧ sw_F g s s.heap
def zl_Pr (g : sG) (z : zG) (U : State) : Prop := zl_H g [] z U.heap ∧ sw_F g U U.heap
def zl_Po (g : sG) (z : zG) (t : State) : Prop := zl_H g [] z t.heap
theorem zl_H.nil {g : sG} {E : va_W} {z : zG} {H : Heap} (h : zl_H g E z H) : zl_H g [] z H := by
  obtain ⟨M, h1, h2, h3⟩ := h
  refine ⟨M, h1, h2, fun k q hk => h3 k q ?_⟩
  rw [List.append_nil] at hk
  rw [List.getElem?_append_left (List.getElem?_eq_some_iff.mp hk).1]
  exact hk
theorem zl_H.E {g : sG} {E : va_W} {z : zG} {H : Heap} (h : zl_H g E z H) : va_P (sw_D g) sw_cl E H := by
  obtain ⟨M, h1, h2, h3⟩ := h
  intro k q hk
  refine h3 (220 + k) q ?_
  rw [List.getElem?_append_right (by rw [sw_W_len]; omega), sw_W_len, Nat.add_sub_cancel_left]
  exact hk
theorem zl_H.mk {g : sG} {E : va_W} {z : zG} {H : Heap} (h : zl_H g [] z H) (hE : va_P (sw_D g) sw_cl E H) : zl_H g E z H := by
  obtain ⟨M, h1, h2, h3⟩ := h
  rw [List.append_nil] at h3
  exact ⟨M, h1, h2, va_P.app h3 hE⟩
/-- a call has changed only the class's objects: the law's own stand -/
theorem zl_H.call {g : sG} {E : va_W} {z z' : zG} {H H1 : Heap} (h : zl_H g E z H) (hE : zl_E g E) (h1 : zl_H g [] z' H1) (hk : ∀ q : Nat, q < H.size → ¬ sw_A (zl_re g H.size) q → H1[q]? = H[q]?) : zl_H g E z' H1 := by
  refine h1.mk (fun k q hq => ((h.E) k q hq).kept (hk _ (h.E k q hq).lt (fun z => ?_)))
  rcases z with z | z
  · have := (h.E k q hq).lt
    exact absurd z (Nat.not_le.mpr this)
  · exact (hE.2 k q hq).1 z
theorem zl_H.kept {g : sG} {E : va_W} {z : zG} {H H1 : Heap} (h : zl_H g E z H) (hk : ∀ q : Nat, q < H.size → H1[q]? = H[q]?) : zl_H g E z H1 := by
  obtain ⟨M, h1, h2, h3⟩ := h
  exact ⟨M, h1, h2, h3.kept (fun k q hq => hk _ (h3 k q hq).lt)⟩
theorem zl_Wd.pr {g : sG} {E : va_W} {z : zG} {s U : State} {H : Heap} {locs : List Loc} (h : zl_Wd g E z s H locs) (hU : U.heap = H) (hW : s.WarmedH U.vm) : zl_Pr (zl_re g H.size) z U := by
  obtain ⟨h1, h2, h3, h4⟩ := h
  have h5 := h4.go hW h3.1 h3.2.1
  refine ⟨by rw [hU]; exact h1.nil, ?_⟩
  rw [hU]
  exact zl_F h5 (Nat.le_trans h4.2.2.1 h3.1) (Nat.le_refl _)
theorem zl_Pr.wd {g : sG} {z : zG} {s : State} (h : zl_Pr g z s) : zl_Wd g [] z s s.heap [] := ⟨h.1, zl_E0, va_S.rf, h.2⟩
theorem zl_Pr.blind {g : sG} {z : zG} {av : List Value} : FrameBlind (va_Pc av (zl_Pr g z)) := fun a U f mk h => ⟨h.1, h.2.1, h.2.2.go (State.WarmedH.refl U) (Nat.le_refl _) (fun _ _ _ => rfl)⟩
theorem zl_preS {g : sG} {E : va_W} {z : zG} {s : State} {H : Heap} {locs : List Loc} (hW : zl_Wd g E z s H locs) (As : List Value) : PreS s H (va_Pc As (zl_Pr (zl_re g H.size) z)) As := ⟨zl_Pr.blind, fun U hU hWm => ⟨rfl, hW.pr hU hWm⟩⟩
theorem zl_preV {g : sG} {E : va_W} {z : zG} {s : State} {H : Heap} {locs : List Loc} {k ci N : Nat} {C : String} {T : u_T} {fs : List (Option Nat)} (hW : zl_Wd g E z s H locs) (hk : sw_vk k) (hlay : sw_lay k = .inl (ci, fs)) (hc : sw_cl[ci]? = some (C, T, N)) (As : List Value) : PreV s H C (sw_ad g k) (va_Pc (.ref (sw_ad g k) :: As) (zl_Pr (zl_re g H.size) z)) As := by
  refine ⟨zl_Pr.blind, ?_, fun U hU hWm => ⟨rfl, hW.pr hU hWm⟩⟩
  obtain ⟨M, h1, h2, h3⟩ := hW.1.nil
  rw [List.append_nil] at h3
  exact va_recv hW.2.2.2.1 h3 hc (sw_at hk hlay)
theorem zl_met {l : Launch} {y : MethodName} {cc : ByteArray} {maxL : Nat} {ret : Option FieldType} {rm : Room} {mc ms : Nat} {Qc : Array Value → State → Outcome → State → Prop} {g : sG} {z : zG} {av : List Value} (hy : plainName y.cls = true) (hlen : (lg_sl av).length ≤ maxL)
    (body : ∀ (p : Program) (e : Env) (s : State) (m : MethodId) (args : Array Value) (below : List Frame) (meth : Method) (c : Code) (ls : Array Slot), p.tables.exec = Jvm.exec → c.code = cc → meth.sig.returnType = ret → (∀ w ∈ sw_ws y cc maxL ret, w.before args s = true) → s.vm.findClass y.cls = some m.cls → c.maxLocals = maxL → meth.locks = false → zl_Wd g [] z s s.heap [] → lv_has ls maxL (lv_args 0 av) → W p l e rm s m args below meth c s.heap [] 0 0 (MQ below Qc args s mc ms (sw_A g)) (F0 m 0 ls [])) : Met l y (sw_ws y cc maxL ret) rm (va_Pc av (zl_Pr g z)) Qc mc ms (sw_A g) := by
  refine Met.ofW hy rfl ?_
  intro p e s m args below meth c s₁ B hml hv
  obtain ⟨rfl, hv⟩ := hv
  have hl := lv_entry av (n := maxL) hlen
  rw [lg_entry_eq]
  exact body p e s m _ below meth c _ B.exec B.bytes B.returns (atoms_spec (ws := sw_ws y cc maxL ret) B.pre) (findClass_of_methodNamed B.named) hml B.notSynchronized hv.wd hl
abbrev sw_wsH (y : MethodName) (bytes : ByteArray) (maxL : Nat) (ret : Option FieldType) (hh : List (Nat × Nat × Nat × Nat)) : List Cond := Cond.codeWith y bytes maxL ret hh :: sw_all
def sw_cH (y : MethodName) (bytes : ByteArray) (maxL : Nat) (ret : Option FieldType) (hh : List (Nat × Nat × Nat × Nat)) (n : Nat) : Prop :=
  Cond.static y ∈ sw_all ∧ Cond.initialized y.cls ∈ sw_all ∧ Cond.codeWith y bytes maxL ret hh ∈ sw_all ∧ (y.cls ≠ "java/lang/invoke/MethodHandle" ∧ y.cls ≠ "java/lang/invoke/VarHandle" ∧ (parseMethodDescriptor y.desc).map (fun d => d.parameters.length) = some n)
theorem zl_metH {l : Launch} {y : MethodName} {cc : ByteArray} {maxL : Nat} {ret : Option FieldType} {hh : List (Nat × Nat × Nat × Nat)} {rm : Room} {mc ms : Nat} {Qc : Array Value → State → Outcome → State → Prop} {g : sG} {z : zG} {av : List Value} (hy : plainName y.cls = true) (hlen : (lg_sl av).length ≤ maxL)
    (body : ∀ (p : Program) (e : Env) (s : State) (m : MethodId) (args : Array Value) (below : List Frame) (meth : Method) (c : Code) (ls : Array Slot), p.tables.exec = Jvm.exec → c.code = cc → meth.sig.returnType = ret → (∀ w ∈ sw_wsH y cc maxL ret hh, w.before args s = true) → s.vm.findClass y.cls = some m.cls → c.maxLocals = maxL → meth.locks = false → c.exceptionTable.toList = tableOf hh → zl_Wd g [] z s s.heap [] → lv_has ls maxL (lv_args 0 av) → W p l e rm s m args below meth c s.heap [] 0 0 (MQ below Qc args s mc ms (sw_A g)) (F0 m 0 ls [])) : Met l y (sw_wsH y cc maxL ret hh) rm (va_Pc av (zl_Pr g z)) Qc mc ms (sw_A g) := by
  refine MetFree.of_bodyS (code := cc) (maxLocals := maxL) (ret := ret) hy ?_ ?_
  · intro args s m h hn
    obtain ⟨m9, meth, c, hn9, h1, h2, h3, h4, -, h5, h6, -⟩ := Cond.codeWith_spec (atoms_spec (ws := sw_wsH y cc maxL ret hh) h _ List.mem_cons_self)
    cases hn.symm.trans hn9
    exact ⟨meth, c, h1, h2, h3, h4, h5, h6⟩
  · intro p e s m args below meth c s₁ B hml hv _
    obtain ⟨rfl, hv⟩ := hv
    have hh0 : s₁.heap = s.heap := by rw [B.state]; rfl
    have hts := atoms_spec (ws := sw_wsH y cc maxL ret hh) B.pre
    have hl := lv_entry av (n := maxL) hlen
    have K := body p e s m _ below meth c _ B.exec B.bytes B.returns hts (findClass_of_methodNamed B.named) hml B.notSynchronized (vx_table (x := y) B (hts _ List.mem_cons_self)) hv.wd hl
    rw [← lg_entry_eq] at K
    obtain ⟨t, a1, o1, b1, b2, b3⟩ := K s₁ hh0 (Stand.of_body B)
    exact ⟨t, o1, a1, b1, b2, ⟨b3.1, b3.2⟩⟩
def zQ (P : zG → Prop) (M : sM) : Prop := ∃ z, CI M z ∧ GI z ∧ P z
/-- the picture's contract of a method of the class, out of its contract over memories -/
theorem zl_up {l : Launch} {y : MethodName} {ws : List Cond} {rm : Room} {g : sG} {z : zG} {av : List Value} {Qc : sM → Array Value → State → Outcome → State → Prop} {Qz : Array Value → State → Outcome → State → Prop} {mc ms : Nat} {free : Addr → Prop} (hM : ∀ M, CI M z → GI z → Met l y ws rm (va_Pc av (sw_Pr g M)) (Qc M) mc ms free) (hq : ∀ M, CI M z → GI z → ∀ a st o t, Qc M a st o t → Qz a st o t) : Met l y ws rm (va_Pc av (zl_Pr g z)) Qz mc ms free := by
  intro p e ha hc hk s m args below hf happ hP hK
  obtain ⟨hav, ⟨M, hC, hG, hW⟩, hF⟩ := hP
  rw [List.append_nil] at hW
  obtain ⟨n, o, h1, h2, h3, h4, h5⟩ := hM M hC hG p e ha hc hk s m args below hf happ ⟨hav, hW, hF⟩ hK
  exact ⟨n, o, h1, h2, h3, hq M hC hG _ _ _ _ h4, h5⟩
theorem zl_upx {l : Launch} {y : MethodName} {ws : List Cond} {rm : Room} {g : sG} {z : zG} {av : List Value} {Qc : sM → Array Value → State → Outcome → State → Prop} {Qz : Array Value → State → Outcome → State → Prop} {XC : sM → String → State → State → Prop} {XZ : String → State → State → Prop} {mc ms : Nat} {free : Addr → Prop} (hM : ∀ M, CI M z → GI z → vx_Met l y ws rm (va_Pc av (sw_Pr g M)) (Qc M) (XC M) mc ms free) (hq : ∀ M, CI M z → GI z → ∀ a st o t, Qc M a st o t → Qz a st o t) (hX : ∀ M, CI M z → GI z → ∀ E st t, XC M E st t → XZ E st t) : vx_Met l y ws rm (va_Pc av (zl_Pr g z)) Qz XZ mc ms free := by
  intro p e ha hc hk s m args below hf happ hP hK
  obtain ⟨hav, ⟨M, hC, hG, hW⟩, hF⟩ := hP
  rw [List.append_nil] at hW
  obtain ⟨n, o, h1, h2, h3, h4⟩ := hM M hC hG p e ha hc hk s m args below hf happ ⟨hav, hW, hF⟩ hK
  refine ⟨n, o, h1, h2, h3, ?_⟩
  rcases h4 with ⟨h4, h5⟩ | ⟨q, h4, E, ce, L, h5, h6⟩
  · exact Or.inl ⟨hq M hC hG _ _ _ _ h4, h5⟩
  · exact Or.inr ⟨q, h4, E, ce, L, hX M hC hG _ _ _ h5, h6⟩
/-- a method that can't throw here -/
theorem zl_nox {l : Launch} {y : MethodName} {ws : List Cond} {rm : Room} {Pc : Array Value → State → Prop} {Qc : Array Value → State → Outcome → State → Prop} {XC : String → State → State → Prop} {mc ms : Nat} {free : Addr → Prop} (hM : vx_Met l y ws rm Pc Qc XC mc ms free) (hX : ∀ E st t, ¬ XC E st t) : Met l y ws rm Pc Qc mc ms free := by
  intro p e ha hc hk s m args below hf happ hP hK
  obtain ⟨n, o, h1, h2, h3, h4⟩ := hM p e ha hc hk s m args below hf happ hP hK
  refine ⟨n, o, h1, h2, h3, ?_⟩
  rcases h4 with h4 | ⟨q, h4, E, ce, L, h5, h6⟩
  · exact h4
  · exact absurd h5 (hX _ _ _)
theorem zP_i {g : sG} {A : Nat → Prop} {Q : Int32 → zG → Prop} (a : Array Value) (st : State) (o : Outcome) (t : State) (h : va_Qi (fun r M => zQ (Q r) M) (sw_Po g) A a st o t) : va_Qi Q (zl_Po g) A a st o t := by
  obtain ⟨⟨r, M, h1, ⟨z, h2, h3, h4⟩, h5⟩, h6⟩ := h
  exact ⟨⟨r, z, h1, h4, M, h2, h3, by rw [List.append_nil]; exact h5⟩, h6⟩
theorem zP_v {g : sG} {A : Nat → Prop} {Q : zG → Prop} (a : Array Value) (st : State) (o : Outcome) (t : State) (h : va_Qv (fun M => zQ Q M) (sw_Po g) A a st o t) : va_Qv Q (zl_Po g) A a st o t := by
  obtain ⟨⟨M, h1, ⟨z, h2, h3, h4⟩, h5⟩, h6⟩ := h
  exact ⟨⟨z, h1, h4, M, h2, h3, by rw [List.append_nil]; exact h5⟩, h6⟩
theorem zP_l {g : sG} {A : Nat → Prop} {Q : Int64 → zG → Prop} (a : Array Value) (st : State) (o : Outcome) (t : State) (h : va_Ql (fun r M => zQ (Q r) M) (sw_Po g) A a st o t) : va_Ql Q (zl_Po g) A a st o t := by
  obtain ⟨⟨r, M, h1, ⟨z, h2, h3, h4⟩, h5⟩, h6⟩ := h
  exact ⟨⟨r, z, h1, h4, M, h2, h3, by rw [List.append_nil]; exact h5⟩, h6⟩
theorem zP_d {g : sG} {A : Nat → Prop} {Q : UInt64 → zG → Prop} (a : Array Value) (st : State) (o : Outcome) (t : State) (h : va_Qd (fun r M => zQ (Q r) M) (sw_Po g) A a st o t) : va_Qd Q (zl_Po g) A a st o t := by
  obtain ⟨⟨r, M, h1, ⟨z, h2, h3, h4⟩, h5⟩, h6⟩ := h
  exact ⟨⟨r, z, h1, h4, M, h2, h3, by rw [List.append_nil]; exact h5⟩, h6⟩
theorem zP_f {g : sG} {A : Nat → Prop} {Q : UInt32 → zG → Prop} (a : Array Value) (st : State) (o : Outcome) (t : State) (h : va_Qf (fun r M => zQ (Q r) M) (sw_Po g) A a st o t) : va_Qf Q (zl_Po g) A a st o t := by
  obtain ⟨⟨r, M, h1, ⟨z, h2, h3, h4⟩, h5⟩, h6⟩ := h
  exact ⟨⟨r, z, h1, h4, M, h2, h3, by rw [List.append_nil]; exact h5⟩, h6⟩
def zl_XC (g : sG) (X : String → zG → Prop) : String → State → State → Prop := vx_X (fun _ : zG => True) (fun E z t => X E z ∧ zl_Po g z t) (sw_A g)
abbrev zx1 (a E : String) (P : Nat → Prop) : Prop := (E = a → P 1) ∧ (¬ E = a → False)
abbrev zx2 (a b E : String) (P : Nat → Prop) : Prop := (E = a → P 1) ∧ (¬ E = a → ((E = b → P 2) ∧ (¬ E = b → False)))
abbrev zx3 (a b c E : String) (P : Nat → Prop) : Prop := (E = a → P 1) ∧ (¬ E = a → ((E = b → P 2) ∧ (¬ E = b → ((E = c → P 3) ∧ (¬ E = c → False)))))
theorem zx1_n (a : String) (E : String) (P : Nat → Prop) (h : zx1 a E P) : ∃ c, P c ∧ ∀ P' : Nat → Prop, P' c → zx1 a E P' := by
  by_cases e : E = a
  · exact ⟨1, h.1 e, fun P' h' => ⟨fun _ => h', fun n => absurd e n⟩⟩
  · exact (h.2 e).elim
theorem zx2_n (a b : String) (E : String) (P : Nat → Prop) (h : zx2 a b E P) : ∃ c, P c ∧ ∀ P' : Nat → Prop, P' c → zx2 a b E P' := by
  by_cases e : E = a
  · exact ⟨1, h.1 e, fun P' h' => ⟨fun _ => h', fun n => absurd e n⟩⟩
  · by_cases e2 : E = b
    · exact ⟨2, (h.2 e).1 e2, fun P' h' => ⟨fun n => absurd n e, fun _ => ⟨fun _ => h', fun n => absurd e2 n⟩⟩⟩
    · exact ((h.2 e).2 e2).elim
theorem zx3_n (a b c : String) (E : String) (P : Nat → Prop) (h : zx3 a b c E P) : ∃ k, P k ∧ ∀ P' : Nat → Prop, P' k → zx3 a b c E P' := by
  by_cases e : E = a
  · exact ⟨1, h.1 e, fun P' h' => ⟨fun _ => h', fun n => absurd e n⟩⟩
  · by_cases e2 : E = b
    · exact ⟨2, (h.2 e).1 e2, fun P' h' => ⟨fun n => absurd n e, fun _ => ⟨fun _ => h', fun n => absurd e2 n⟩⟩⟩
    · by_cases e3 : E = c
      · exact ⟨3, ((h.2 e).2 e2).1 e3, fun P' h' => ⟨fun n => absurd n e, fun _ => ⟨fun n => absurd n e2, fun _ => ⟨fun _ => h', fun n => absurd e3 n⟩⟩⟩⟩
      · exact (((h.2 e).2 e2).2 e3).elim
theorem zP_x {g : sG} {X : Nat → zG → Prop} {XX : String → (Nat → Prop) → Prop} (hn : ∀ E (P : Nat → Prop), XX E P → ∃ c, P c ∧ ∀ P' : Nat → Prop, P' c → XX E P') (E : String) (st t : State) (h : sw_XC g (fun E M => XX E (fun c => zQ (X c) M)) E st t) : zl_XC g (fun E z => XX E (fun c => X c z)) E st t := by
  obtain ⟨M, -, ⟨h2, h3⟩, h4⟩ := h
  obtain ⟨c, ⟨z, e1, e2, e3⟩, h5⟩ := hn E _ h2
  exact ⟨z, trivial, ⟨h5 _ e3, M, e1, e2, by rw [List.append_nil]; exact h3⟩, h4⟩
/-- what a call of the face answers: its value or its refusal -/
def zS (s : Nat × Nat × zG) (Q : Int32 → zG → Prop) (X : Nat → zG → Prop) : Prop := (s.1 = 0 → Q (nI s.2.1) s.2.2) ∧ (s.1 ≠ 0 → X s.1 s.2.2)
theorem kC_z {M : sM} {s : Nat × Nat × zG} {Q : Int32 → zG → Prop} {X : Nat → zG → Prop} (hG : GI s.2.2) (h : zS s Q X) : kC M s (fun r M' => zQ (Q r) M') (fun c M' => zQ (X c) M') := fun M' f hC => ⟨fun e => ⟨_, hC, hG, h.1 e⟩, fun e => ⟨_, hC, hG, h.2 e⟩⟩
