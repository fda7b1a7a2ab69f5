/-! Rows at the law's level: calls, handlers, ends, the law's own arrays. -/
section ZLR
variable {p : Program} {l : Launch} {e : Env} {R : Room} {s : State} {m : MethodId} {args : Array Value} {below : List Frame} {meth : Method} {c : Code} {H : Heap} {locs : List Loc} {cells slots : Nat} {Q : State → Prop}
variable {cc : ByteArray} {pc : Nat} {ls : Array Slot} {rest st0 : List Value} {g : sG} {E : va_W} {z : zG} {c0 : Cond}
variable {y : MethodName} {bytes : ByteArray} {maxL nL mc ms n index : Nat} {ret : Option FieldType} {rm : Room} {own C : String} {As : List Value} {Qc : Array Value → State → Outcome → State → Prop} {XC : String → State → State → Prop}
theorem zl_b (hW : zl_Wd g E z s H locs) : g.1 ≤ H.size := Nat.le_trans hW.2.2.2.2.2.1 hW.2.2.1.1
theorem zl_hA (hW : zl_Wd g E z s H locs) : ∀ q, sw_A (zl_re g H.size) q → sw_A g q := fun q h => zl_A (zl_b hW) h
theorem zl_runV (hx : p.tables.exec = Jvm.exec) (hb : c.code = cc) (hml : c.maxLocals = nL) (hown : s.vm.findClass own = some m.cls) (hts : ∀ w ∈ c0 :: sw_all, w.before args s = true) {k ci N : Nat} {T : u_T} {fs : List (Option Nat)} (hM : Met l y (sw_ws y bytes maxL ret) rm (va_Pc (.ref (sw_ad g k) :: As) (zl_Pr (zl_re g H.size) z)) Qc mc ms (sw_A (zl_re g H.size))) (hc : sw_cV y C bytes maxL ret n) (q : Cond.methodLink own index y ∈ sw_all) (hrc : rm.cells = mc) (hrs : rm.slots = ms) (hR : rm.frames + 1 ≤ R.frames ∧ 8 + (maxL + 11) + rm.locals ≤ R.locals) (hW : zl_Wd g E z s H locs) (hk : sw_vk k) (hlay : sw_lay k = .inl (ci, fs)) (hcl : sw_cl[ci]? = some (C, T, N))
    (hn : As.length = n) (hsize : ls.size = nL) (hst : st0 = As.reverse ++ .ref (sw_ad g k) :: rest) (hroom : (rest.map fun v => v.category).sum ≤ 8) (hdg : decode cc pc = .ok (.invokevirtual index, 3)) (hf : cells + mc ≤ R.cells ∧ slots + ms ≤ R.slots) : va_Run p l e R s m args below meth c H locs cells slots mc ms (F0 m pc ls st0) rest (Qc (Value.ref (sw_ad g k) :: As).toArray) (sw_A (zl_re g H.size)) :=
  va_runV ⟨hx, hb, hml, hown, hts⟩ hM (sw_cwV hts hc q hrc hrs hR) (zl_preV hW hk hlay hcl As) rfl hn hsize hst (lv_room hroom) hdg hf
theorem zl_xrunV (hx : p.tables.exec = Jvm.exec) (hb : c.code = cc) (hml : c.maxLocals = nL) (hown : s.vm.findClass own = some m.cls) (hts : ∀ w ∈ c0 :: sw_all, w.before args s = true) {k ci N : Nat} {T : u_T} {fs : List (Option Nat)} (hM : vx_Met l y (sw_ws y bytes maxL ret) rm (va_Pc (.ref (sw_ad g k) :: As) (zl_Pr (zl_re g H.size) z)) Qc XC mc ms (sw_A (zl_re g H.size))) (hc : sw_cV y C bytes maxL ret n) (q : Cond.methodLink own index y ∈ sw_all) (hrc : rm.cells = mc) (hrs : rm.slots = ms) (hR : rm.frames + 1 ≤ R.frames ∧ 8 + (maxL + 11) + rm.locals ≤ R.locals) (hW : zl_Wd g E z s H locs) (hk : sw_vk k) (hlay : sw_lay k = .inl (ci, fs)) (hcl : sw_cl[ci]? = some (C, T, N))
    (hn : As.length = n) (hsize : ls.size = nL) (hst : st0 = As.reverse ++ .ref (sw_ad g k) :: rest) (hroom : (rest.map fun v => v.category).sum ≤ 8) (hdg : decode cc pc = .ok (.invokevirtual index, 3)) (hf : cells + mc ≤ R.cells ∧ slots + ms ≤ R.slots) : vx_Run p l e R s m args below meth c H locs cells slots mc ms (F0 m pc ls st0) rest (Qc (Value.ref (sw_ad g k) :: As).toArray) XC (sw_A (zl_re g H.size)) :=
  vx_runV ⟨hx, hb, hml, hown, hts⟩ hM (sw_cwV hts hc q hrc hrs hR) (zl_preV hW hk hlay hcl As) rfl hn hsize hst (lv_room hroom) hdg hf
theorem zl_runS (hx : p.tables.exec = Jvm.exec) (hb : c.code = cc) (hml : c.maxLocals = nL) (hown : s.vm.findClass own = some m.cls) (hts : ∀ w ∈ c0 :: sw_all, w.before args s = true) (hM : Met l y (sw_ws y bytes maxL ret) rm (va_Pc As (zl_Pr (zl_re g H.size) z)) Qc mc ms (sw_A (zl_re g H.size))) (hc : sw_cS y bytes maxL ret n) (q : Cond.methodLink own index y ∈ sw_all) (hrc : rm.cells = mc) (hrs : rm.slots = ms) (hR : rm.frames + 1 ≤ R.frames ∧ 8 + (maxL + 11) + rm.locals ≤ R.locals) (hW : zl_Wd g E z s H locs)
    (hn : As.length = n) (hsize : ls.size = nL) (hst : st0 = As.reverse ++ rest) (hroom : (rest.map fun v => v.category).sum ≤ 8) (hdg : decode cc pc = .ok (.invokestatic index, 3)) (hf : cells + mc ≤ R.cells ∧ slots + ms ≤ R.slots) : va_Run p l e R s m args below meth c H locs cells slots mc ms (F0 m pc ls st0) rest (Qc As.toArray) (sw_A (zl_re g H.size)) :=
  va_runS ⟨hx, hb, hml, hown, hts⟩ hM (sw_cwS hts hc q hrc hrs hR) (zl_preS hW As) rfl hn hsize hst (lv_room hroom) hdg hf
theorem sw_cwH {hh : List (Nat × Nat × Nat × Nat)} (hts : ∀ w ∈ c0 :: sw_all, w.before args s = true) (hc : sw_cH y bytes maxL ret hh n) (q : Cond.methodLink own index y ∈ sw_all) (hrc : rm.cells = mc) (hrs : rm.slots = ms) (hR : rm.frames + 1 ≤ R.frames ∧ 8 + (maxL + 11) + rm.locals ≤ R.locals) : vx_CSW R s args own index y bytes maxL ret hh (sw_wsH y bytes maxL ret hh) rm mc ms n := by
  obtain ⟨q2, q4, q5, hd⟩ := hc
  refine vx_cwSW n hts (sw_goodIn (fun w hw => ?_)) rfl hrc hrs hd hR
  simp only [va_wsS, List.mem_append, List.mem_cons, List.not_mem_nil, or_false] at hw
  rcases hw with (rfl | rfl | rfl) | rfl | hw
  · exact q
  · exact q2
  · exact q4
  · exact q5
  · exact hw
theorem zl_runH {hh : List (Nat × Nat × Nat × Nat)} (hx : p.tables.exec = Jvm.exec) (hb : c.code = cc) (hml : c.maxLocals = nL) (hown : s.vm.findClass own = some m.cls) (hts : ∀ w ∈ c0 :: sw_all, w.before args s = true) (hM : Met l y (sw_wsH y bytes maxL ret hh) rm (va_Pc As (zl_Pr (zl_re g H.size) z)) Qc mc ms (sw_A (zl_re g H.size))) (hc : sw_cH y bytes maxL ret hh n) (q : Cond.methodLink own index y ∈ sw_all) (hrc : rm.cells = mc) (hrs : rm.slots = ms) (hR : rm.frames + 1 ≤ R.frames ∧ 8 + (maxL + 11) + rm.locals ≤ R.locals) (hW : zl_Wd g E z s H locs)
    (hn : As.length = n) (hsize : ls.size = nL) (hst : st0 = As.reverse ++ rest) (hroom : (rest.map fun v => v.category).sum ≤ 8) (hdg : decode cc pc = .ok (.invokestatic index, 3)) (hf : cells + mc ≤ R.cells ∧ slots + ms ≤ R.slots) : va_Run p l e R s m args below meth c H locs cells slots mc ms (F0 m pc ls st0) rest (Qc As.toArray) (sw_A (zl_re g H.size)) :=
  vx_runSW ⟨hx, hb, hml, hown, hts⟩ hM (sw_cwH hts hc q hrc hrs hR) (zl_preS hW As) rfl hn hsize hst (lv_room hroom) hdg hf
theorem zl_ki {a : Array Value} {Q1 : Int32 → zG → Prop} (hr : va_Run p l e R s m args below meth c H locs cells slots mc ms (F0 m pc ls st0) rest (va_Qi Q1 (zl_Po (zl_re g H.size)) (sw_A (zl_re g H.size)) a) (sw_A (zl_re g H.size))) (hW : zl_Wd g E z s H locs)
    (kk : ∀ (r : Int32) (z' : zG) (H : Heap) (locs : List Loc), Q1 r z' → zl_Wd g E z' s H locs → W p l e R s m args below meth c H locs (cells + mc) (slots + ms) Q (F0 m (pc + 3) ls (.int r :: rest))) : W p l e R s m args below meth c H locs cells slots Q (F0 m pc ls st0) :=
  va_calli hr hW.2.2.1 (fun q _ h => zl_hA hW q h) (fun q h => zl_hA hW q h) (fun r u t H1 locs1 ht hvm hw hB hz hk hS => kk r u H1 locs1 hw ⟨hW.1.call hW.2.1 (by rw [← ht]; exact hB) hk, hW.2.1, hS, hW.2.2.2⟩)
theorem zl_kl {a : Array Value} {Q1 : Int64 → zG → Prop} (hr : va_Run p l e R s m args below meth c H locs cells slots mc ms (F0 m pc ls st0) rest (va_Ql Q1 (zl_Po (zl_re g H.size)) (sw_A (zl_re g H.size)) a) (sw_A (zl_re g H.size))) (hW : zl_Wd g E z s H locs)
    (kk : ∀ (r : Int64) (z' : zG) (H : Heap) (locs : List Loc), Q1 r z' → zl_Wd g E z' s H locs → W p l e R s m args below meth c H locs (cells + mc) (slots + ms) Q (F0 m (pc + 3) ls (.long r :: rest))) : W p l e R s m args below meth c H locs cells slots Q (F0 m pc ls st0) :=
  va_calll hr hW.2.2.1 (fun q _ h => zl_hA hW q h) (fun q h => zl_hA hW q h) (fun r u t H1 locs1 ht hvm hw hB hz hk hS => kk r u H1 locs1 hw ⟨hW.1.call hW.2.1 (by rw [← ht]; exact hB) hk, hW.2.1, hS, hW.2.2.2⟩)
theorem zl_kd {a : Array Value} {Q1 : UInt64 → zG → Prop} (hr : va_Run p l e R s m args below meth c H locs cells slots mc ms (F0 m pc ls st0) rest (va_Qd Q1 (zl_Po (zl_re g H.size)) (sw_A (zl_re g H.size)) a) (sw_A (zl_re g H.size))) (hW : zl_Wd g E z s H locs)
    (kk : ∀ (r : UInt64) (z' : zG) (H : Heap) (locs : List Loc), Q1 r z' → zl_Wd g E z' s H locs → W p l e R s m args below meth c H locs (cells + mc) (slots + ms) Q (F0 m (pc + 3) ls (.double r :: rest))) : W p l e R s m args below meth c H locs cells slots Q (F0 m pc ls st0) :=
  va_calld hr hW.2.2.1 (fun q _ h => zl_hA hW q h) (fun q h => zl_hA hW q h) (fun r u t H1 locs1 ht hvm hw hB hz hk hS => kk r u H1 locs1 hw ⟨hW.1.call hW.2.1 (by rw [← ht]; exact hB) hk, hW.2.1, hS, hW.2.2.2⟩)
theorem zl_kf {a : Array Value} {Q1 : UInt32 → zG → Prop} (hr : va_Run p l e R s m args below meth c H locs cells slots mc ms (F0 m pc ls st0) rest (va_Qf Q1 (zl_Po (zl_re g H.size)) (sw_A (zl_re g H.size)) a) (sw_A (zl_re g H.size))) (hW : zl_Wd g E z s H locs)
    (kk : ∀ (r : UInt32) (z' : zG) (H : Heap) (locs : List Loc), Q1 r z' → zl_Wd g E z' s H locs → W p l e R s m args below meth c H locs (cells + mc) (slots + ms) Q (F0 m (pc + 3) ls (.float r :: rest))) : W p l e R s m args below meth c H locs cells slots Q (F0 m pc ls st0) :=
  va_callf hr hW.2.2.1 (fun q _ h => zl_hA hW q h) (fun q h => zl_hA hW q h) (fun r u t H1 locs1 ht hvm hw hB hz hk hS => kk r u H1 locs1 hw ⟨hW.1.call hW.2.1 (by rw [← ht]; exact hB) hk, hW.2.1, hS, hW.2.2.2⟩)
theorem zl_xki {a : Array Value} {Q1 : Int32 → zG → Prop} {X1 : String → zG → Prop} (hr : vx_Run p l e R s m args below meth c H locs cells slots mc ms (F0 m pc ls st0) rest (va_Qi Q1 (zl_Po (zl_re g H.size)) (sw_A (zl_re g H.size)) a) (zl_XC (zl_re g H.size) X1) (sw_A (zl_re g H.size))) (hW : zl_Wd g E z s H locs)
    (kx : ∀ (E1 : String) (ce : Cell) (q : Addr) (z' : zG) (H : Heap) (locs : List Loc), X1 E1 z' → zl_Wd g E z' s H locs → H[q]? = some ce → ce.vm = .none → s.vm.findClass E1 = some ce.cls → vx_W p l e R s m args below meth c H locs (cells + mc) (slots + ms) Q (F0 m pc ls rest) q)
    (kk : ∀ (r : Int32) (z' : zG) (H : Heap) (locs : List Loc), Q1 r z' → zl_Wd g E z' s H locs → W p l e R s m args below meth c H locs (cells + mc) (slots + ms) Q (F0 m (pc + 3) ls (.int r :: rest))) : W p l e R s m args below meth c H locs cells slots Q (F0 m pc ls st0) :=
  vx_calli hr hW.2.2.1 (fun q _ h => zl_hA hW q h) (fun q h => zl_hA hW q h) (fun q _ h => zl_hA hW q h) (fun E1 ce q9 u t H1 locs1 ht hvm _ hB hz hk hS h1 h2 h3 => kx E1 ce q9 u H1 locs1 hB.1 ⟨hW.1.call hW.2.1 (by rw [← ht]; exact hB.2) hk, hW.2.1, hS, hW.2.2.2⟩ h1 h2 h3) (fun r u t H1 locs1 ht hvm hw hB hz hk hS => kk r u H1 locs1 hw ⟨hW.1.call hW.2.1 (by rw [← ht]; exact hB) hk, hW.2.1, hS, hW.2.2.2⟩)
theorem zl_catch {hh : List (Nat × Nat × Nat × Nat)} (htab : c.exceptionTable.toList = tableOf hh) (pre : List (Nat × Nat × Nat × Nat)) {a1 a2 a3 a4 : Nat} (suf : List (Nat × Nat × Nat × Nat)) (hsp : hh = pre ++ (a1, a2, a3, a4) :: suf) {E1 : String} {ce : Cell} {q : Addr} (hown : s.vm.findClass own = some m.cls) (hts : ∀ w ∈ c0 :: sw_all, w.before args s = true)
    (hpass : ∀ z ∈ pre, z.2.2.2 ≠ 0 ∧ ∃ nm : String, Cond.classLink own z.2.2.2 nm ∈ sw_all ∧ va_Nc E1 nm s) (hc1 : a1 ≤ pc ∧ pc < a2) (h0 : a4 ≠ 0) (hlink : Cond.classLink own a4 E1 ∈ sw_all) (hcast : Cond.castable E1 E1 ∈ lw_tbl) (hW : zl_Wd g E z s H locs) (hcell : H[q]? = some ce) (hv : ce.vm = .none) (hcl : s.vm.findClass E1 = some ce.cls)
    (kk : W p l e R s m args below meth c H locs cells slots Q (F0 m a3 ls [.ref q])) : vx_W p l e R s m args below meth c H locs cells slots Q (F0 m pc ls rest) q := by
  refine vx_catch (E := E1) (name := E1) hown (tableOf pre) ⟨a1, a2, a3, a4⟩ (tableOf suf) (by rw [htab, hsp]; simp [tableOf]) (fun z hz => ?_) (by simp [covers, hc1]) h0 (sw_w hts hlink) (va_Nw.use rfl (hW.2.2.2.2.2.2.2.2.2.2 _ hcast rfl)) hcell hv hcl kk
  obtain ⟨z0, hz0, rfl⟩ := List.mem_map.mp hz
  obtain ⟨h1, nm, h2, h3⟩ := hpass z0 hz0
  exact Or.inr ⟨h1, nm, sw_w hts h2, h3⟩
theorem zl_ri (hx : p.tables.exec = Jvm.exec) (hb : c.code = cc) {ty : FieldType} (hr : meth.sig.returnType = some ty) (hlocks : meth.locks = false) (hW : zl_Wd g E z s H locs) {v : Int32} {Q1 : Int32 → zG → Prop} (hn : narrow ty (.int v) = .int v) (hq : Q1 v z) (hdg : decode cc pc = .ok (.ireturn, 1)) : W p l e R s m args below meth c H locs cells slots (MQ below (va_Qi Q1 (zl_Po g) (sw_A g)) args s cells slots (sw_A g)) (F0 m pc ls [.int v]) :=
  W.zret hx hb hr hn (fun t ht hW' => ⟨⟨v, z, rfl, hq, by show zl_H _ _ _ _; rw [ht]; exact hW.1.nil⟩, hW.2.2.1.F ht⟩) hW.2.2.1.2.2 hdg hlocks
theorem zl_rl (hx : p.tables.exec = Jvm.exec) (hb : c.code = cc) (hr : meth.sig.returnType = some .long) (hlocks : meth.locks = false) (hW : zl_Wd g E z s H locs) {v : Int64} {Q1 : Int64 → zG → Prop} (hq : Q1 v z) (hdg : decode cc pc = .ok (.lreturn, 1)) : W p l e R s m args below meth c H locs cells slots (MQ below (va_Ql Q1 (zl_Po g) (sw_A g)) args s cells slots (sw_A g)) (F0 m pc ls [.long v]) :=
  W.lret hx hb hr (fun t ht hW' => ⟨⟨v, z, rfl, hq, by show zl_H _ _ _ _; rw [ht]; exact hW.1.nil⟩, hW.2.2.1.F ht⟩) hW.2.2.1.2.2 hdg hlocks
/-- a new array of the law's own -/
theorem zl_newa (hx : p.tables.exec = Jvm.exec) (hb : c.code = cc) (hts : ∀ w ∈ c0 :: sw_all, w.before args s = true) {atype : ArrayType} (harr : Cond.arrayClass (newarray.typeOf atype) ∈ sw_all) (t : Nat) {ty : FieldType} (hty : newarray.typeOf atype = ty) (ht : (sw_ty g)[t]? = some (sw_ac g t, ty)) (hW : zl_Wd g E z s H locs)
    {k : Int32} {N : Nat} {a0 : vp_A} (ha : ∀ cA : ClassId, vp_cell cA a0 = arrV cA N (fun _ => defaultValue ty)) (hn : ¬ k < 0) (hN : k.toNatClampNeg = N) (hbytes : N * componentBytes ty ≤ 536870912) (hcells : cells + 1 ≤ R.cells) (hslots : slots + N ≤ R.slots) (hdg : decode cc pc = .ok (.newarray atype, 2))
    (kk : ∀ (q : Nat) (H : Heap), zl_Wd g (E ++ [(q, .inl (sw_ac g t, a0))]) z s H locs → W p l e R s m args below meth c H locs (cells + 1) (slots + N) Q (F0 m (pc + 2) ls (.ref q :: rest))) : W p l e R s m args below meth c H locs cells slots Q (F0 m pc ls (.int k :: rest)) := by
  obtain ⟨M, hC, hG, hP⟩ := hW.1
  have hD := zl_D hW.2.2.2.2.1 hW.2.1 M
  refine va_newaK hx hb (sw_w hts harr) rfl hdg rfl hn hN (by rw [hty]; exact hbytes) hcells hslots rfl fun H1 cA e1 z1 o1 hAr hNm => ?_
  have e3 : cA = sw_ac g t := by
    have e2 := (hW.2.2.2.1.2 t (sw_ac g t, ty) ht).2
    subst hty
    cases atype <;> exact Option.some.inj (hNm.symm.trans e2)
  subst e3
  have hPE : va_P (sw_D g) sw_cl [(H.size, (.inl (sw_ac g t, a0) : va_E))] H1 := fun k9 x9 hk9 => by
    have q1 : k9 < 1 := (List.getElem?_eq_some_iff.mp hk9).1
    have q2 : k9 = 0 := by omega
    subst q2
    cases hk9
    show H1[H.size]? = some (vp_cell _ _)
    rw [e1, ha, hty]
  have hbase := zl_b hW
  have hnf : ¬ sw_fx g H.size := fun ⟨k9, h9, e9⟩ => by
    have := (hP _ _ (by rw [List.getElem?_append_left (by rw [sw_W_len]; exact sw_pl_lt h9)]; exact sw_W_get g M h9)).lt
    have : sw_ad g k9 < H.size := this
    omega
  refine kk H.size H1 ⟨⟨M, hC, hG, ?_⟩, ⟨?_, fun k9 x9 hk9 => ?_⟩, ⟨Nat.le_trans hW.2.2.1.1 (by omega), fun q9 h8 h9 => ?_, hW.2.2.1.2.2⟩, hW.2.2.2⟩
  · rw [← List.append_assoc]
    exact va_P.app (hP.kept (fun k9 x9 hk9 => o1 _ (hP k9 x9 hk9).lt)) hPE
  · refine va_D.app ⟨hW.2.1.1.1, fun _ _ _ => trivial⟩ ⟨fun i j p9 q9 hi hj _ => ?_, fun _ _ _ => trivial⟩ (fun i j p9 q9 hi hj e9 => ?_)
    · have q1 : i < 1 := (List.getElem?_eq_some_iff.mp hi).1
      have q2 : j < 1 := (List.getElem?_eq_some_iff.mp hj).1
      omega
    · have q1 : j < 1 := (List.getElem?_eq_some_iff.mp hj).1
      have q2 : j = 0 := by omega
      subst q2
      cases hj
      have := (hW.1.E i p9 hi).lt
      have e9 : p9.1 = H.size := e9
      omega
  · rcases Nat.lt_or_ge k9 E.length with h8 | h8
    · rw [List.getElem?_append_left h8] at hk9
      exact hW.2.1.2 k9 x9 hk9
    · rw [List.getElem?_append_right h8] at hk9
      have q1 : k9 - E.length < 1 := (List.getElem?_eq_some_iff.mp hk9).1
      have q2 : k9 - E.length = 0 := by omega
      rw [q2] at hk9
      cases hk9
      exact ⟨hnf, hbase⟩
  · rw [o1 q9 (Nat.lt_of_lt_of_le h8 hW.2.2.1.1)]
    exact hW.2.2.1.2.1 q9 h8 h9
theorem zl_at {M : sM} {i : Nat} {q : Nat × va_E} (hE : E[i]? = some q) : (sw_W g M ++ E)[220 + i]? = some q := by
  rw [List.getElem?_append_right (by rw [sw_W_len]; omega), sw_W_len, Nat.add_sub_cancel_left]; exact hE
theorem zl_setE {M : sM} {i : Nat} {x : Nat × va_E} : (sw_W g M ++ E).set (220 + i) x = sw_W g M ++ E.set i x := by
  rw [List.set_append_right _ _ (by rw [sw_W_len]; omega), sw_W_len, Nat.add_sub_cancel_left]
theorem zl_Eset {i a : Nat} {e0 e1 : va_E} (h : zl_E g E) (hi : E[i]? = some (a, e0)) : zl_E g (E.set i (a, e1)) := by
  refine ⟨h.1.set hi, fun k q hk => ?_⟩
  by_cases e9 : k = i
  · subst e9
    rw [List.getElem?_set_self (List.getElem?_eq_some_iff.mp hi).1] at hk
    cases hk
    exact h.2 k (a, e0) hi
  · rw [List.getElem?_set_ne (Ne.symm e9)] at hk
    exact h.2 k q hk
theorem zl_ia (hx : p.tables.exec = Jvm.exec) (hb : c.code = cc) (hW : zl_Wd g E z s H locs) (i : Nat) {a N : Nat} {f : Nat → Int32} (hE : E[i]? = some (a, .inl (sw_ac g 1, N, .inl f))) {k : Int32} (hin : vp_in k N) (hdg : decode cc pc = .ok (.iaload, 1))
    (kk : W p l e R s m args below meth c H locs cells slots Q (F0 m (pc + 1) ls (.int (f k.toNatClampNeg) :: rest))) : W p l e R s m args below meth c H locs cells slots Q (F0 m pc ls (.int k :: .ref a :: rest)) := by
  obtain ⟨M, hC, hG, hP⟩ := hW.1
  exact va_iald hx hb hW.2.2.2.1 hP (220 + i) 1 (zl_at hE) rfl hin hdg kk
theorem zl_is (hx : p.tables.exec = Jvm.exec) (hb : c.code = cc) (hW : zl_Wd g E z s H locs) (i : Nat) {a N : Nat} {f : Nat → Int32} (hE : E[i]? = some (a, .inl (sw_ac g 1, N, .inl f))) {k x : Int32} (hin : vp_in k N) (hdg : decode cc pc = .ok (.iastore, 1))
    (kk : ∀ (H : Heap) (locs : List Loc), zl_Wd g (E.set i (a, .inl (sw_ac g 1, N, .inl (upd f k.toNatClampNeg x)))) z s H locs → W p l e R s m args below meth c H locs cells slots Q (F0 m (pc + 1) ls rest)) : W p l e R s m args below meth c H locs cells slots Q (F0 m pc ls (.int x :: .int k :: .ref a :: rest)) := by
  obtain ⟨M, hC, hG, hP⟩ := hW.1
  refine va_iast hx hb hW.2.2.2.1 hP (zl_D hW.2.2.2.2.1 hW.2.1 M) hW.2.2.1 (220 + i) 1 (zl_at hE) rfl hin hdg (fun H1 locs1 hP1 hD1 hS1 => ?_)
  rw [zl_setE] at hP1
  exact kk H1 locs1 ⟨⟨M, hC, hG, hP1⟩, zl_Eset hW.2.1 hE, hS1, hW.2.2.2⟩
theorem zl_la (hx : p.tables.exec = Jvm.exec) (hb : c.code = cc) (hW : zl_Wd g E z s H locs) (i : Nat) {a N : Nat} {f : Nat → Int64} (hE : E[i]? = some (a, .inl (sw_ac g 5, N, .inr (.inl f)))) {k : Int32} (hin : vp_in k N) (hdg : decode cc pc = .ok (.laload, 1))
    (kk : W p l e R s m args below meth c H locs cells slots Q (F0 m (pc + 1) ls (.long (f k.toNatClampNeg) :: rest))) : W p l e R s m args below meth c H locs cells slots Q (F0 m pc ls (.int k :: .ref a :: rest)) := by
  obtain ⟨M, hC, hG, hP⟩ := hW.1
  exact va_lald hx hb hW.2.2.2.1 hP (220 + i) 5 (zl_at hE) rfl hin hdg kk
theorem zl_ls (hx : p.tables.exec = Jvm.exec) (hb : c.code = cc) (hW : zl_Wd g E z s H locs) (i : Nat) {a N : Nat} {f : Nat → Int64} (hE : E[i]? = some (a, .inl (sw_ac g 5, N, .inr (.inl f)))) {k : Int32} {x : Int64} (hin : vp_in k N) (hdg : decode cc pc = .ok (.lastore, 1))
    (kk : ∀ (H : Heap) (locs : List Loc), zl_Wd g (E.set i (a, .inl (sw_ac g 5, N, .inr (.inl (vp_updL f k.toNatClampNeg x))))) z s H locs → W p l e R s m args below meth c H locs cells slots Q (F0 m (pc + 1) ls rest)) : W p l e R s m args below meth c H locs cells slots Q (F0 m pc ls (.long x :: .int k :: .ref a :: rest)) := by
  obtain ⟨M, hC, hG, hP⟩ := hW.1
  refine va_last hx hb hW.2.2.2.1 hP (zl_D hW.2.2.2.2.1 hW.2.1 M) hW.2.2.1 (220 + i) 5 (zl_at hE) rfl hin hdg (fun H1 locs1 hP1 hD1 hS1 => ?_)
  rw [zl_setE] at hP1
  exact kk H1 locs1 ⟨⟨M, hC, hG, hP1⟩, zl_Eset hW.2.1 hE, hS1, hW.2.2.2⟩
end ZLR
/-- a wrapper's answer: the value, or the number of the refusal -/
def zv (s : Nat × Nat × zG) (l : List Int32) : Int32 := if s.1 = 0 then nI s.2.1 else l.getD (s.1 - 1) 0
theorem zv_0 {s : Nat × Nat × zG} {l : List Int32} (h : s.1 = 0) : zv s l = nI s.2.1 := if_pos h
theorem zv_c {s : Nat × Nat × zG} {l : List Int32} {k : Nat} (h : s.1 = k) (h0 : k ≠ 0) : zv s l = l.getD (k - 1) 0 := by unfold zv; rw [h, if_neg h0]
theorem cast_IndexOutOfBoundsException : Cond.castable "java/lang/IndexOutOfBoundsException" "java/lang/IndexOutOfBoundsException" ∈ lw_tbl := qt_2 _ (List.mem_of_getElem? (i := 66) rfl)
theorem cast_IllegalArgumentException : Cond.castable "java/lang/IllegalArgumentException" "java/lang/IllegalArgumentException" ∈ lw_tbl := qt_2 _ (List.mem_of_getElem? (i := 134) rfl)
theorem cast_IllegalStateException : Cond.castable "java/lang/IllegalStateException" "java/lang/IllegalStateException" ∈ lw_tbl := qt_2 _ (List.mem_of_getElem? (i := 149) rfl)
theorem cast_UnsupportedOperationException : Cond.castable "java/lang/UnsupportedOperationException" "java/lang/UnsupportedOperationException" ∈ lw_tbl := qt_2 _ (List.mem_of_getElem? (i := 164) rfl)
theorem cast_NoSuchElementException : Cond.castable "java/util/NoSuchElementException" "java/util/NoSuchElementException" ∈ lw_tbl := qt_2 _ (List.mem_of_getElem? (i := 179) rfl)
theorem cast_ArrayIndexOutOfBoundsException : Cond.castable "java/lang/ArrayIndexOutOfBoundsException" "java/lang/ArrayIndexOutOfBoundsException" ∈ lw_tbl := qt_2 _ (List.mem_of_getElem? (i := 236) rfl)
theorem cast_ArithmeticException : Cond.castable "java/lang/ArithmeticException" "java/lang/ArithmeticException" ∈ lw_tbl := qt_5 _ (List.mem_of_getElem? (i := 8) rfl)
theorem ql_356 : Cond.constantLong RL 356 7 ∈ sw_all := sw_q (qt_6 _ (List.mem_of_getElem? (i := 155) rfl)) rfl
theorem ql_358 : Cond.constantLong RL 358 31 ∈ sw_all := sw_q (qt_6 _ (List.mem_of_getElem? (i := 156) rfl)) rfl
theorem ql_360 : Cond.constantLong RL 360 37 ∈ sw_all := sw_q (qt_6 _ (List.mem_of_getElem? (i := 157) rfl)) rfl
theorem ql_362 : Cond.constantLong RL 362 41 ∈ sw_all := sw_q (qt_6 _ (List.mem_of_getElem? (i := 158) rfl)) rfl
theorem ql_364 : Cond.constantLong RL 364 43 ∈ sw_all := sw_q (qt_6 _ (List.mem_of_getElem? (i := 159) rfl)) rfl
/-! Room: plain sums (no large number is ever put to a solver). -/
theorem zc1 {x s T D : Nat} (h : x + s ≤ T) (hd : D ≤ s) : x + D ≤ T := by omega
theorem zc8 {y C x D s T s' : Nat} (h : y ≤ C) (hC : C = x + D) (hx : x + s ≤ T) (hs : D + s' ≤ s) : y + s' ≤ T := by omega
theorem zc9 {n B C x D s T t cn : Nat} (h : cn + (n + 1) * B ≤ C) (hC : C = x + D) (hx : x + s ≤ T) (hs : D + t ≤ s + B) : cn + t ≤ T := by
  rw [Nat.succ_mul] at h
  omega
theorem zc10 {n B C y T cn : Nat} (hy : y ≤ T) (hT : T = cn + B) (h : cn + (n + 1) * B ≤ C) : y + n * B ≤ C := by
  rw [Nat.succ_mul] at h
  omega
theorem zc11 {n B C y T cn : Nat} (hy : y ≤ T) (hT : T = cn + B) (h : cn + (n + 1) * B ≤ C) : y ≤ C := by
  rw [Nat.succ_mul] at h
  omega
