/-! Rows for the law: its two small arrays, its wrappers with their handlers, their calls. -/
abbrev sO : Type := Nat → Int64
abbrev sE : Type := Nat → UInt64
def sw_Po3 (g : sG) : sM × sO × sE → State → Prop := fun u t => sw_Po g u.2.1 u.2.2 u.1 t
abbrev sw_wsH (y : MethodName) (bytes : ByteArray) (maxL : Nat) (ret : Option FieldType) (hh : List (Nat × Nat × Nat × Nat)) : List Cond := Cond.codeWith y bytes maxL ret hh :: sw_all
def sw_cH (y : MethodName) (bytes : ByteArray) (maxL : Nat) (ret : Option FieldType) (hh : List (Nat × Nat × Nat × Nat)) (n : Nat) : Prop :=
  Cond.static y ∈ sw_all ∧ Cond.initialized y.cls ∈ sw_all ∧ Cond.codeWith y bytes maxL ret hh ∈ sw_all ∧ (y.cls ≠ "java/lang/invoke/MethodHandle" ∧ y.cls ≠ "java/lang/invoke/VarHandle" ∧ (parseMethodDescriptor y.desc).map (fun d => d.parameters.length) = some n)
theorem sw_metH {l : Launch} {y : MethodName} {cc : ByteArray} {maxL : Nat} {ret : Option FieldType} {hh : List (Nat × Nat × Nat × Nat)} {rm : Room} {mc ms : Nat} {Qc : Array Value → State → Outcome → State → Prop} {g : sG} {o : sO} {d : sE} {M : sM} {av : List Value} (hy : plainName y.cls = true) (hlen : (lg_sl av).length ≤ maxL)
    (body : ∀ (p : Program) (e : Env) (s : State) (m : MethodId) (args : Array Value) (below : List Frame) (meth : Method) (c : Code) (ls : Array Slot), p.tables.exec = Jvm.exec → c.code = cc → meth.sig.returnType = ret → (∀ w ∈ sw_wsH y cc maxL ret hh, w.before args s = true) → s.vm.findClass y.cls = some m.cls → c.maxLocals = maxL → meth.locks = false → c.exceptionTable.toList = tableOf hh → sw_Wd g o d M s s.heap [] → lv_has ls maxL (lv_args 0 av) → W p l e rm s m args below meth c s.heap [] 0 0 (MQ below Qc args s mc ms (sw_A g)) (F0 m 0 ls [])) : Met l y (sw_wsH y cc maxL ret hh) rm (va_Pc av (sw_Pr g o d M)) Qc mc ms (sw_A g) := by
  refine MetFree.of_bodyS (code := cc) (maxLocals := maxL) (ret := ret) hy ?_ ?_
  · intro args s m h hn
    obtain ⟨m9, meth, c, hn9, h1, h2, h3, h4, -, h5, h6, -⟩ := Cond.codeWith_spec (atoms_spec (ws := sw_wsH y cc maxL ret hh) h _ List.mem_cons_self)
    cases hn.symm.trans hn9
    exact ⟨meth, c, h1, h2, h3, h4, h5, h6⟩
  · intro p e s m args below meth c s₁ B hml hv _
    obtain ⟨rfl, hv⟩ := hv
    have hh0 : s₁.heap = s.heap := by rw [B.state]; rfl
    have hts := atoms_spec (ws := sw_wsH y cc maxL ret hh) B.pre
    have hl := lv_entry av (n := maxL) hlen
    have K := body p e s m _ below meth c _ B.exec B.bytes B.returns hts (findClass_of_methodNamed B.named) hml B.notSynchronized (vx_table (x := y) B (hts _ List.mem_cons_self)) hv.wd hl
    rw [← lg_entry_eq] at K
    obtain ⟨t, a1, o1, b1, b2, b3⟩ := K s₁ hh0 (Stand.of_body B)
    exact ⟨t, o1, a1, b1, b2, ⟨b3.1, b3.2⟩⟩
section SWH
variable {p : Program} {l : Launch} {e : Env} {R : Room} {s : State} {m : MethodId} {args : Array Value} {below : List Frame} {meth : Method} {c : Code} {H : Heap} {locs : List Loc} {cells slots : Nat} {Q : State → Prop}
variable {cc : ByteArray} {pc : Nat} {ls : Array Slot} {rest st0 : List Value} {g : sG} {o : sO} {d : sE} {M : sM} {c0 : Cond}
variable {y : MethodName} {bytes : ByteArray} {maxL nL mc ms n index : Nat} {ret : Option FieldType} {rm : Room} {own C : String} {As : List Value} {Qc : Array Value → State → Outcome → State → Prop}
theorem sw_catch {hh : List (Nat × Nat × Nat × Nat)} (htab : c.exceptionTable.toList = tableOf hh) (pre : List (Nat × Nat × Nat × Nat)) {a1 a2 a3 a4 : Nat} (suf : List (Nat × Nat × Nat × Nat)) (hsp : hh = pre ++ (a1, a2, a3, a4) :: suf) {E : String} {ce : Cell} {q : Addr} (hown : s.vm.findClass own = some m.cls) (hts : ∀ w ∈ c0 :: sw_all, w.before args s = true)
    (hpass : ∀ z ∈ pre, z.2.2.2 ≠ 0 ∧ ∃ nm : String, Cond.classLink own z.2.2.2 nm ∈ sw_all ∧ va_Nc E nm s) (hc1 : a1 ≤ pc ∧ pc < a2) (h0 : a4 ≠ 0) (hlink : Cond.classLink own a4 E ∈ sw_all) (hcast : Cond.castable E E ∈ lw_tbl) (hW : sw_Wd g o d M s H locs) (hcell : H[q]? = some ce) (hv : ce.vm = .none) (hcl : s.vm.findClass E = some ce.cls)
    (kk : W p l e R s m args below meth c H locs cells slots Q (F0 m a3 ls [.ref q])) : vx_W p l e R s m args below meth c H locs cells slots Q (F0 m pc ls rest) q := by
  refine vx_catch (E := E) (name := E) hown (tableOf pre) ⟨a1, a2, a3, a4⟩ (tableOf suf) (by rw [htab, hsp]; simp [tableOf]) (fun z hz => ?_) (by simp [covers, hc1]) h0 (sw_w hts hlink) (va_Nw.use rfl (hW.2.2.2.2.2.2.2.2.2 _ hcast rfl)) hcell hv hcl kk
  obtain ⟨z0, hz0, rfl⟩ := List.mem_map.mp hz
  obtain ⟨h1, nm, h2, h3⟩ := hpass z0 hz0
  exact Or.inr ⟨h1, nm, sw_w hts h2, h3⟩
theorem sw_ls (hx : p.tables.exec = Jvm.exec) (hb : c.code = cc) (hW : sw_Wd g o d M s H locs) {i : Int32} {x : Int64} (hin : vp_in i 1) (hdg : decode cc pc = .ok (.lastore, 1))
    (kk : ∀ (H : Heap) (locs : List Loc), sw_Wd g (vp_updL o i.toNatClampNeg x) d M s H locs → W p l e R s m args below meth c H locs cells slots Q (F0 m (pc + 1) ls rest)) : W p l e R s m args below meth c H locs cells slots Q (F0 m pc ls (.long x :: .int i :: .ref (sw_ad g 233) :: rest)) := by
  refine va_last hx hb hW.2.2.1 hW.1 (sw_W_D hW.2.2.2.1 o d M) hW.2.1 233 5 (sw_W_o g o d M) rfl hin hdg (fun H1 locs1 hP hD hS => ?_)
  rw [sw_W_seto] at hP
  exact kk H1 locs1 ⟨hP, hS, hW.2.2⟩
theorem sw_ds (hx : p.tables.exec = Jvm.exec) (hb : c.code = cc) (hW : sw_Wd g o d M s H locs) {i : Int32} {x : UInt64} (hin : vp_in i 1) (hdg : decode cc pc = .ok (.dastore, 1))
    (kk : ∀ (H : Heap) (locs : List Loc), sw_Wd g o (vf_upd d i.toNatClampNeg x) M s H locs → W p l e R s m args below meth c H locs cells slots Q (F0 m (pc + 1) ls rest)) : W p l e R s m args below meth c H locs cells slots Q (F0 m pc ls (.double x :: .int i :: .ref (sw_ad g 234) :: rest)) := by
  refine va_dast hx hb hW.2.2.1 hW.1 (sw_W_D hW.2.2.2.1 o d M) hW.2.1 234 6 (sw_W_d g o d M) rfl hin hdg (fun H1 locs1 hP hD hS => ?_)
  rw [sw_W_setd] at hP
  exact kk H1 locs1 ⟨hP, hS, hW.2.2⟩
theorem sw_ll (hx : p.tables.exec = Jvm.exec) (hb : c.code = cc) (hW : sw_Wd g o d M s H locs) {i : Int32} (hin : vp_in i 1) (hdg : decode cc pc = .ok (.laload, 1))
    (kk : W p l e R s m args below meth c H locs cells slots Q (F0 m (pc + 1) ls (.long (o i.toNatClampNeg) :: rest))) : W p l e R s m args below meth c H locs cells slots Q (F0 m pc ls (.int i :: .ref (sw_ad g 233) :: rest)) :=
  va_lald hx hb hW.2.2.1 hW.1 233 5 (sw_W_o g o d M) rfl hin hdg kk
theorem sw_dl (hx : p.tables.exec = Jvm.exec) (hb : c.code = cc) (hW : sw_Wd g o d M s H locs) {i : Int32} (hin : vp_in i 1) (hdg : decode cc pc = .ok (.daload, 1))
    (kk : W p l e R s m args below meth c H locs cells slots Q (F0 m (pc + 1) ls (.double (d i.toNatClampNeg) :: rest))) : W p l e R s m args below meth c H locs cells slots Q (F0 m pc ls (.int i :: .ref (sw_ad g 234) :: rest)) :=
  va_dald hx hb hW.2.2.1 hW.1 234 6 (sw_W_d g o d M) rfl hin hdg kk
theorem sw_ri3 (hx : p.tables.exec = Jvm.exec) (hb : c.code = cc) {ty : FieldType} (hr : meth.sig.returnType = some ty) (hlocks : meth.locks = false) (hW : sw_Wd g o d M s H locs) {v : Int32} {Q1 : Int32 → sM → sO → sE → Prop} (hn : narrow ty (.int v) = .int v) (hq : Q1 v M o d) (hdg : decode cc pc = .ok (.ireturn, 1)) : W p l e R s m args below meth c H locs cells slots (MQ below (va_Qi (fun r u => Q1 r u.1 u.2.1 u.2.2) (sw_Po3 g) (sw_A g)) args s cells slots (sw_A g)) (F0 m pc ls [.int v]) :=
  W.zret hx hb hr hn (fun t ht hW' => ⟨⟨v, (M, o, d), rfl, hq, by show va_P _ _ _ _; rw [ht]; exact hW.1⟩, hW.2.1.F ht⟩) hW.2.1.2.2 hdg hlocks
theorem sw_cwH {hh : List (Nat × Nat × Nat × Nat)} (hts : ∀ w ∈ c0 :: sw_all, w.before args s = true) (hc : sw_cH y bytes maxL ret hh n) (q : Cond.methodLink own index y ∈ sw_all) (hrc : rm.cells = mc) (hrs : rm.slots = ms) (hR : rm.frames + 1 ≤ R.frames ∧ 8 + (maxL + 11) + rm.locals ≤ R.locals) : vx_CSW R s args own index y bytes maxL ret hh (sw_wsH y bytes maxL ret hh) rm mc ms n := by
  obtain ⟨q2, q4, q5, hd⟩ := hc
  refine vx_cwSW n hts (sw_goodIn (fun w hw => ?_)) rfl hrc hrs hd hR
  simp only [va_wsS, List.mem_append, List.mem_cons, List.not_mem_nil, or_false] at hw
  rcases hw with (rfl | rfl | rfl) | rfl | hw
  · exact q
  · exact q2
  · exact q4
  · exact q5
  · exact hw
theorem sw_k3 {a : Array Value} {Q1 : Int32 → sM → sO → sE → Prop} (hr : va_Run p l e R s m args below meth c H locs cells slots mc ms (F0 m pc ls st0) rest (va_Qi (fun r u => Q1 r u.1 u.2.1 u.2.2) (sw_Po3 g) (sw_A g) a) (sw_A g)) (hW : sw_Wd g o d M s H locs)
    (kk : ∀ (r : Int32) (M : sM) (o : sO) (d : sE) (H : Heap) (locs : List Loc), Q1 r M o d → sw_Wd g o d M s H locs → W p l e R s m args below meth c H locs (cells + mc) (slots + ms) Q (F0 m (pc + 3) ls (.int r :: rest))) : W p l e R s m args below meth c H locs cells slots Q (F0 m pc ls st0) :=
  va_calli hr hW.2.1 (fun q _ h => h) (fun q h => h) (fun r u t H1 locs1 ht hvm hw hB hz hk hS => kk r u.1 u.2.1 u.2.2 H1 locs1 hw ⟨by rw [← ht]; exact hB, hS, hW.2.2⟩)
theorem sw_runH {hh : List (Nat × Nat × Nat × Nat)} (hx : p.tables.exec = Jvm.exec) (hb : c.code = cc) (hml : c.maxLocals = nL) (hown : s.vm.findClass own = some m.cls) (hts : ∀ w ∈ c0 :: sw_all, w.before args s = true) (hM : Met l y (sw_wsH y bytes maxL ret hh) rm (va_Pc As (sw_Pr g o d M)) Qc mc ms (sw_A g)) (hc : sw_cH y bytes maxL ret hh n) (q : Cond.methodLink own index y ∈ sw_all) (hrc : rm.cells = mc) (hrs : rm.slots = ms) (hR : rm.frames + 1 ≤ R.frames ∧ 8 + (maxL + 11) + rm.locals ≤ R.locals) (hW : sw_Wd g o d M s H locs)
    (hn : As.length = n) (hsize : ls.size = nL) (hst : st0 = As.reverse ++ rest) (hroom : (rest.map fun v => v.category).sum ≤ 8) (hdg : decode cc pc = .ok (.invokestatic index, 3)) (hf : cells + mc ≤ R.cells ∧ slots + ms ≤ R.slots) : va_Run p l e R s m args below meth c H locs cells slots mc ms (F0 m pc ls st0) rest (Qc As.toArray) (sw_A g) :=
  vx_runSW ⟨hx, hb, hml, hown, hts⟩ hM (sw_cwH hts hc q hrc hrs hR) (sw_preS hW As) rfl hn hsize hst (lv_room hroom) hdg hf
end SWH
theorem cast_IndexOutOfBoundsException : Cond.castable "java/lang/IndexOutOfBoundsException" "java/lang/IndexOutOfBoundsException" ∈ lw_tbl := qt_2 _ (List.mem_of_getElem? (i := 117) rfl)
theorem cast_IllegalArgumentException : Cond.castable "java/lang/IllegalArgumentException" "java/lang/IllegalArgumentException" ∈ lw_tbl := qt_2 _ (List.mem_of_getElem? (i := 185) rfl)
theorem cast_IllegalStateException : Cond.castable "java/lang/IllegalStateException" "java/lang/IllegalStateException" ∈ lw_tbl := qt_2 _ (List.mem_of_getElem? (i := 200) rfl)
theorem cast_UnsupportedOperationException : Cond.castable "java/lang/UnsupportedOperationException" "java/lang/UnsupportedOperationException" ∈ lw_tbl := qt_2 _ (List.mem_of_getElem? (i := 215) rfl)
theorem cast_NoSuchElementException : Cond.castable "java/util/NoSuchElementException" "java/util/NoSuchElementException" ∈ lw_tbl := qt_2 _ (List.mem_of_getElem? (i := 230) rfl)
theorem cast_ArrayIndexOutOfBoundsException : Cond.castable "java/lang/ArrayIndexOutOfBoundsException" "java/lang/ArrayIndexOutOfBoundsException" ∈ lw_tbl := qt_3 _ (List.mem_of_getElem? (i := 161) rfl)
theorem cast_ArithmeticException : Cond.castable "java/lang/ArithmeticException" "java/lang/ArithmeticException" ∈ lw_tbl := qt_5 _ (List.mem_of_getElem? (i := 27) rfl)
