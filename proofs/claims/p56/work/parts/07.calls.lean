/-! Methods over the static world: their start, their ends, their calls. -/
def sw_cV (y : MethodName) (C : String) (bytes : ByteArray) (maxL : Nat) (ret : Option FieldType) (n : Nat) : Prop :=
  Cond.instanceMethod y ∈ sw_all ∧ Cond.selects C y y ∈ sw_all ∧ Cond.initialized C ∈ sw_all ∧ Cond.code y bytes maxL ret ∈ sw_all ∧ (y.cls = C ∧ y.cls ≠ "java/lang/invoke/MethodHandle" ∧ y.cls ≠ "java/lang/invoke/VarHandle" ∧ (parseMethodDescriptor y.desc).map (fun d => d.parameters.length) = some n)
def sw_cS (y : MethodName) (bytes : ByteArray) (maxL : Nat) (ret : Option FieldType) (n : Nat) : Prop :=
  Cond.static y ∈ sw_all ∧ Cond.initialized y.cls ∈ sw_all ∧ Cond.code y bytes maxL ret ∈ sw_all ∧ (y.cls ≠ "java/lang/invoke/MethodHandle" ∧ y.cls ≠ "java/lang/invoke/VarHandle" ∧ (parseMethodDescriptor y.desc).map (fun d => d.parameters.length) = some n)
abbrev sw_ws (y : MethodName) (bytes : ByteArray) (maxL : Nat) (ret : Option FieldType) : List Cond := Cond.code y bytes maxL ret :: sw_all
section SWC
variable {p : Program} {l : Launch} {e : Env} {R : Room} {s : State} {m : MethodId} {args : Array Value} {below : List Frame} {meth : Method} {c : Code} {H : Heap} {locs : List Loc} {cells slots : Nat} {Q : State → Prop}
variable {cc : ByteArray} {pc : Nat} {ls : Array Slot} {rest st0 : List Value} {g : sG} {M : sM} {c0 : Cond}
variable {y : MethodName} {bytes : ByteArray} {maxL nL mc ms n index : Nat} {ret : Option FieldType} {rm : Room} {own C : String} {As : List Value} {Qc : Array Value → State → Outcome → State → Prop}
theorem sw_cwV (hts : ∀ w ∈ c0 :: sw_all, w.before args s = true) (hc : sw_cV y C bytes maxL ret n) (q : Cond.methodLink own index y ∈ sw_all) (hrc : rm.cells = mc) (hrs : rm.slots = ms) (hR : rm.frames + 1 ≤ R.frames ∧ 8 + (maxL + 11) + rm.locals ≤ R.locals) : CallW R s args own C index y bytes maxL ret (sw_ws y bytes maxL ret) rm mc ms n := by
  obtain ⟨q2, q3, q4, q5, hd⟩ := hc
  refine cwV n hts (sw_goodIn (fun w hw => ?_)) rfl hrc hrs hd hR
  simp only [wsV, List.mem_append, List.mem_cons, List.not_mem_nil, or_false] at hw
  rcases hw with (rfl | rfl | rfl | rfl) | rfl | hw
  · exact q
  · exact q2
  · exact q3
  · exact q4
  · exact q5
  · exact hw
theorem sw_cwS (hts : ∀ w ∈ c0 :: sw_all, w.before args s = true) (hc : sw_cS y bytes maxL ret n) (q : Cond.methodLink own index y ∈ sw_all) (hrc : rm.cells = mc) (hrs : rm.slots = ms) (hR : rm.frames + 1 ≤ R.frames ∧ 8 + (maxL + 11) + rm.locals ≤ R.locals) : CallB R s args own index y bytes maxL ret (sw_ws y bytes maxL ret) rm mc ms n ∧ (Cond.static y).before args s = true := by
  obtain ⟨q2, q4, q5, hd⟩ := hc
  refine va_cwS n hts (sw_goodIn (fun w hw => ?_)) rfl hrc hrs hd hR
  simp only [va_wsS, List.mem_append, List.mem_cons, List.not_mem_nil, or_false] at hw
  rcases hw with (rfl | rfl | rfl) | rfl | hw
  · exact q
  · exact q2
  · exact q4
  · exact q5
  · exact hw
theorem sw_cwN {host : String} (hts : ∀ w ∈ c0 :: sw_all, w.before args s = true) (hc : sw_cS y bytes maxL ret n) (hW : sw_Wd g M s H locs) (q : Cond.methodLinkNest own index y host ∈ lw_tbl) (hrc : rm.cells = mc) (hrs : rm.slots = ms) (hR : rm.frames + 1 ≤ R.frames ∧ 8 + (maxL + 11) + rm.locals ≤ R.locals) : va_CN R s args own index y host bytes maxL ret (sw_ws y bytes maxL ret) rm mc ms n ∧ (Cond.static y).before args s = true ∧ True := by
  obtain ⟨q2, q4, q5, hd⟩ := hc
  refine ⟨va_cnB n hts (sw_goodIn (fun w hw => ?_)) rfl hrc hrs (hW.2.2.2.2.2.2.2.2.2 _ q rfl) (sw_w hts q4) hd hR, sw_w hts q2, trivial⟩
  rcases List.mem_cons.mp hw with rfl | hw
  · exact q5
  · exact hw
theorem sw_runV (hx : p.tables.exec = Jvm.exec) (hb : c.code = cc) (hml : c.maxLocals = nL) (hown : s.vm.findClass own = some m.cls) (hts : ∀ w ∈ c0 :: sw_all, w.before args s = true) {k ci N : Nat} {T : u_T} {fs : List (Option Nat)} (hM : Met l y (sw_ws y bytes maxL ret) rm (va_Pc (.ref (sw_ad g k) :: As) (sw_Pr g M)) Qc mc ms (sw_A g)) (hc : sw_cV y C bytes maxL ret n) (q : Cond.methodLink own index y ∈ sw_all) (hrc : rm.cells = mc) (hrs : rm.slots = ms) (hR : rm.frames + 1 ≤ R.frames ∧ 8 + (maxL + 11) + rm.locals ≤ R.locals) (hW : sw_Wd g M s H locs) (hk : sw_vk k) (hlay : sw_lay k = .inl (ci, fs)) (hcl : sw_cl[ci]? = some (C, T, N))
    (hn : As.length = n) (hsize : ls.size = nL) (hst : st0 = As.reverse ++ .ref (sw_ad g k) :: rest) (hroom : (rest.map fun v => v.category).sum ≤ 8) (hdg : decode cc pc = .ok (.invokevirtual index, 3)) (hf : cells + mc ≤ R.cells ∧ slots + ms ≤ R.slots) : va_Run p l e R s m args below meth c H locs cells slots mc ms (F0 m pc ls st0) rest (Qc (Value.ref (sw_ad g k) :: As).toArray) (sw_A g) :=
  va_runV ⟨hx, hb, hml, hown, hts⟩ hM (sw_cwV hts hc q hrc hrs hR) (sw_preV hW hk hlay hcl As) rfl hn hsize hst (lv_room hroom) hdg hf
theorem sw_runS (hx : p.tables.exec = Jvm.exec) (hb : c.code = cc) (hml : c.maxLocals = nL) (hown : s.vm.findClass own = some m.cls) (hts : ∀ w ∈ c0 :: sw_all, w.before args s = true) (hM : Met l y (sw_ws y bytes maxL ret) rm (va_Pc As (sw_Pr g M)) Qc mc ms (sw_A g)) (hc : sw_cS y bytes maxL ret n) (q : Cond.methodLink own index y ∈ sw_all) (hrc : rm.cells = mc) (hrs : rm.slots = ms) (hR : rm.frames + 1 ≤ R.frames ∧ 8 + (maxL + 11) + rm.locals ≤ R.locals) (hW : sw_Wd g M s H locs)
    (hn : As.length = n) (hsize : ls.size = nL) (hst : st0 = As.reverse ++ rest) (hroom : (rest.map fun v => v.category).sum ≤ 8) (hdg : decode cc pc = .ok (.invokestatic index, 3)) (hf : cells + mc ≤ R.cells ∧ slots + ms ≤ R.slots) : va_Run p l e R s m args below meth c H locs cells slots mc ms (F0 m pc ls st0) rest (Qc As.toArray) (sw_A g) :=
  va_runS ⟨hx, hb, hml, hown, hts⟩ hM (sw_cwS hts hc q hrc hrs hR) (sw_preS hW As) rfl hn hsize hst (lv_room hroom) hdg hf
theorem sw_runN {host : String} (hx : p.tables.exec = Jvm.exec) (hb : c.code = cc) (hml : c.maxLocals = nL) (hown : s.vm.findClass own = some m.cls) (hts : ∀ w ∈ c0 :: sw_all, w.before args s = true) (hM : Met l y (sw_ws y bytes maxL ret) rm (va_Pc As (sw_Pr g M)) Qc mc ms (sw_A g)) (hc : sw_cS y bytes maxL ret n) (q : Cond.methodLinkNest own index y host ∈ lw_tbl) (hrc : rm.cells = mc) (hrs : rm.slots = ms) (hR : rm.frames + 1 ≤ R.frames ∧ 8 + (maxL + 11) + rm.locals ≤ R.locals) (hW : sw_Wd g M s H locs)
    (hn : As.length = n) (hsize : ls.size = nL) (hst : st0 = As.reverse ++ rest) (hroom : (rest.map fun v => v.category).sum ≤ 8) (hdg : decode cc pc = .ok (.invokestatic index, 3)) (hf : cells + mc ≤ R.cells ∧ slots + ms ≤ R.slots) : va_Run p l e R s m args below meth c H locs cells slots mc ms (F0 m pc ls st0) rest (Qc As.toArray) (sw_A g) :=
  va_runSN ⟨hx, hb, hml, hown, hts⟩ hM (sw_cwN hts hc hW q hrc hrs hR) (sw_preS hW As) rfl hn hsize hst (lv_room hroom) hdg hf
theorem sw_ki {a : Array Value} {Q1 : Int32 → sM → Prop} (hr : va_Run p l e R s m args below meth c H locs cells slots mc ms (F0 m pc ls st0) rest (va_Qi Q1 (sw_Po g) (sw_A g) a) (sw_A g)) (hW : sw_Wd g M s H locs)
    (kk : ∀ (r : Int32) (M : sM) (H : Heap) (locs : List Loc), Q1 r M → sw_Wd g M s H locs → W p l e R s m args below meth c H locs (cells + mc) (slots + ms) Q (F0 m (pc + 3) ls (.int r :: rest))) : W p l e R s m args below meth c H locs cells slots Q (F0 m pc ls st0) :=
  va_calli hr hW.2.1 (fun q _ h => h) (fun q h => h) (fun r u t H1 locs1 ht hvm hw hB hz hk hS => kk r u H1 locs1 hw ⟨by rw [← ht]; exact hB, hS, hW.2.2⟩)
theorem sw_kl {a : Array Value} {Q1 : Int64 → sM → Prop} (hr : va_Run p l e R s m args below meth c H locs cells slots mc ms (F0 m pc ls st0) rest (va_Ql Q1 (sw_Po g) (sw_A g) a) (sw_A g)) (hW : sw_Wd g M s H locs)
    (kk : ∀ (r : Int64) (M : sM) (H : Heap) (locs : List Loc), Q1 r M → sw_Wd g M s H locs → W p l e R s m args below meth c H locs (cells + mc) (slots + ms) Q (F0 m (pc + 3) ls (.long r :: rest))) : W p l e R s m args below meth c H locs cells slots Q (F0 m pc ls st0) :=
  va_calll hr hW.2.1 (fun q _ h => h) (fun q h => h) (fun r u t H1 locs1 ht hvm hw hB hz hk hS => kk r u H1 locs1 hw ⟨by rw [← ht]; exact hB, hS, hW.2.2⟩)
theorem sw_kd {a : Array Value} {Q1 : UInt64 → sM → Prop} (hr : va_Run p l e R s m args below meth c H locs cells slots mc ms (F0 m pc ls st0) rest (va_Qd Q1 (sw_Po g) (sw_A g) a) (sw_A g)) (hW : sw_Wd g M s H locs)
    (kk : ∀ (r : UInt64) (M : sM) (H : Heap) (locs : List Loc), Q1 r M → sw_Wd g M s H locs → W p l e R s m args below meth c H locs (cells + mc) (slots + ms) Q (F0 m (pc + 3) ls (.double r :: rest))) : W p l e R s m args below meth c H locs cells slots Q (F0 m pc ls st0) :=
  va_calld hr hW.2.1 (fun q _ h => h) (fun q h => h) (fun r u t H1 locs1 ht hvm hw hB hz hk hS => kk r u H1 locs1 hw ⟨by rw [← ht]; exact hB, hS, hW.2.2⟩)
theorem sw_kf {a : Array Value} {Q1 : UInt32 → sM → Prop} (hr : va_Run p l e R s m args below meth c H locs cells slots mc ms (F0 m pc ls st0) rest (va_Qf Q1 (sw_Po g) (sw_A g) a) (sw_A g)) (hW : sw_Wd g M s H locs)
    (kk : ∀ (r : UInt32) (M : sM) (H : Heap) (locs : List Loc), Q1 r M → sw_Wd g M s H locs → W p l e R s m args below meth c H locs (cells + mc) (slots + ms) Q (F0 m (pc + 3) ls (.float r :: rest))) : W p l e R s m args below meth c H locs cells slots Q (F0 m pc ls st0) :=
  va_callf hr hW.2.1 (fun q _ h => h) (fun q h => h) (fun r u t H1 locs1 ht hvm hw hB hz hk hS => kk r u H1 locs1 hw ⟨by rw [← ht]; exact hB, hS, hW.2.2⟩)
theorem sw_kv {a : Array Value} {Q1 : sM → Prop} (hr : va_Run p l e R s m args below meth c H locs cells slots mc ms (F0 m pc ls st0) rest (va_Qv Q1 (sw_Po g) (sw_A g) a) (sw_A g)) (hW : sw_Wd g M s H locs)
    (kk : ∀ (M : sM) (H : Heap) (locs : List Loc), Q1 M → sw_Wd g M s H locs → W p l e R s m args below meth c H locs (cells + mc) (slots + ms) Q (F0 m (pc + 3) ls rest)) : W p l e R s m args below meth c H locs cells slots Q (F0 m pc ls st0) :=
  va_callv hr hW.2.1 (fun q _ h => h) (fun q h => h) (fun u t H1 locs1 ht hvm hw hB hz hk hS => kk u H1 locs1 hw ⟨by rw [← ht]; exact hB, hS, hW.2.2⟩)
/-- ends -/
theorem sw_ri (hx : p.tables.exec = Jvm.exec) (hb : c.code = cc) {ty : FieldType} (hr : meth.sig.returnType = some ty) (hlocks : meth.locks = false) (hW : sw_Wd g M s H locs) {v : Int32} {Q1 : Int32 → sM → Prop} (hn : narrow ty (.int v) = .int v) (hq : Q1 v M) (hdg : decode cc pc = .ok (.ireturn, 1)) : W p l e R s m args below meth c H locs cells slots (MQ below (va_Qi Q1 (sw_Po g) (sw_A g)) args s cells slots (sw_A g)) (F0 m pc ls [.int v]) :=
  W.zret hx hb hr hn (fun t ht hW' => ⟨⟨v, M, rfl, hq, by show va_P _ _ _ _; rw [ht]; exact hW.1⟩, hW.2.1.F ht⟩) hW.2.1.2.2 hdg hlocks
theorem sw_rl (hx : p.tables.exec = Jvm.exec) (hb : c.code = cc) (hr : meth.sig.returnType = some .long) (hlocks : meth.locks = false) (hW : sw_Wd g M s H locs) {v : Int64} {Q1 : Int64 → sM → Prop} (hq : Q1 v M) (hdg : decode cc pc = .ok (.lreturn, 1)) : W p l e R s m args below meth c H locs cells slots (MQ below (va_Ql Q1 (sw_Po g) (sw_A g)) args s cells slots (sw_A g)) (F0 m pc ls [.long v]) :=
  W.lret hx hb hr (fun t ht hW' => ⟨⟨v, M, rfl, hq, by show va_P _ _ _ _; rw [ht]; exact hW.1⟩, hW.2.1.F ht⟩) hW.2.1.2.2 hdg hlocks
theorem sw_rd (hx : p.tables.exec = Jvm.exec) (hb : c.code = cc) (hr : meth.sig.returnType = some .double) (hlocks : meth.locks = false) (hW : sw_Wd g M s H locs) {v : UInt64} {Q1 : UInt64 → sM → Prop} (hq : Q1 v M) (hdg : decode cc pc = .ok (.dreturn, 1)) : W p l e R s m args below meth c H locs cells slots (MQ below (va_Qd Q1 (sw_Po g) (sw_A g)) args s cells slots (sw_A g)) (F0 m pc ls [.double v]) :=
  W.dret hx hb hr (fun t ht hW' => ⟨⟨v, M, rfl, hq, by show va_P _ _ _ _; rw [ht]; exact hW.1⟩, hW.2.1.F ht⟩) hW.2.1.2.2 hdg hlocks
theorem sw_rf (hx : p.tables.exec = Jvm.exec) (hb : c.code = cc) (hr : meth.sig.returnType = some .float) (hlocks : meth.locks = false) (hW : sw_Wd g M s H locs) {v : UInt32} {Q1 : UInt32 → sM → Prop} (hq : Q1 v M) (hdg : decode cc pc = .ok (.freturn, 1)) : W p l e R s m args below meth c H locs cells slots (MQ below (va_Qf Q1 (sw_Po g) (sw_A g)) args s cells slots (sw_A g)) (F0 m pc ls [.float v]) :=
  W.fret hx hb hr (fun t ht hW' => ⟨⟨v, M, rfl, hq, by show va_P _ _ _ _; rw [ht]; exact hW.1⟩, hW.2.1.F ht⟩) hW.2.1.2.2 hdg hlocks
theorem sw_rv (hx : p.tables.exec = Jvm.exec) (hb : c.code = cc) (hr : meth.sig.returnType = none) (hlocks : meth.locks = false) (hW : sw_Wd g M s H locs) {Q1 : sM → Prop} (hq : Q1 M) (hdg : decode cc pc = .ok (.return_, 1)) : W p l e R s m args below meth c H locs cells slots (MQ below (va_Qv Q1 (sw_Po g) (sw_A g)) args s cells slots (sw_A g)) (F0 m pc ls []) :=
  W.vret hx hb hr (fun t ht hW' => ⟨⟨M, rfl, hq, by show va_P _ _ _ _; rw [ht]; exact hW.1⟩, hW.2.1.F ht⟩) hW.2.1.2.2 hdg hlocks
end SWC
/-- a method's start -/
theorem sw_met {l : Launch} {y : MethodName} {cc : ByteArray} {maxL : Nat} {ret : Option FieldType} {rm : Room} {mc ms : Nat} {Qc : Array Value → State → Outcome → State → Prop} {g : sG} {M : sM} {av : List Value} (hy : plainName y.cls = true) (hlen : (lg_sl av).length ≤ maxL)
    (body : ∀ (p : Program) (e : Env) (s : State) (m : MethodId) (args : Array Value) (below : List Frame) (meth : Method) (c : Code) (ls : Array Slot), p.tables.exec = Jvm.exec → c.code = cc → meth.sig.returnType = ret → (∀ w ∈ sw_ws y cc maxL ret, w.before args s = true) → s.vm.findClass y.cls = some m.cls → c.maxLocals = maxL → meth.locks = false → sw_Wd g M s s.heap [] → lv_has ls maxL (lv_args 0 av) → W p l e rm s m args below meth c s.heap [] 0 0 (MQ below Qc args s mc ms (sw_A g)) (F0 m 0 ls [])) : Met l y (sw_ws y cc maxL ret) rm (va_Pc av (sw_Pr g M)) Qc mc ms (sw_A g) := by
  refine Met.ofW hy rfl ?_
  intro p e s m args below meth c s₁ B hml hv
  obtain ⟨rfl, hv⟩ := hv
  have hl := lv_entry av (n := maxL) hlen
  rw [lg_entry_eq]
  exact body p e s m _ below meth c _ B.exec B.bytes B.returns (atoms_spec (ws := sw_ws y cc maxL ret) B.pre) (findClass_of_methodNamed B.named) hml B.notSynchronized hv.wd hl
