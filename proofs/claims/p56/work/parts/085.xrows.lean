/-! Throws over the static world, array copies, strings. -/
def sw_ma (M : sM) (k : Nat) (f : Nat → Int32) : sM := fun a => if a = k then f else M a
theorem sw_ma_k (M : sM) (k : Nat) (f : Nat → Int32) : sw_ma M k f k = f := if_pos rfl
theorem sw_ma_n (M : sM) {k a : Nat} (f : Nat → Int32) (h : a ≠ k) : sw_ma M k f a = M a := if_neg h
theorem sw_W_setA (g : sG) (M : sM) {k : Nat} (hk : sw_vk k) (f : Nat → Int32) : (sw_W g M).set (sw_pl k) (sw_ad g k, sw_mk g f (sw_lay k)) = sw_W g (sw_ma M k f) := by
  apply List.ext_getElem?
  intro i
  by_cases hi : i = sw_pl k
  · subst hi
    rw [List.getElem?_set_self (by rw [sw_W_len]; exact sw_pl_lt hk), sw_W_get _ _ hk, sw_e, sw_ma_k]
  · rw [List.getElem?_set_ne (Ne.symm hi)]
    by_cases h : i < 220
    · have hne : sw_un i ≠ k := fun z => hi (by rw [← z, sw_pl_un])
      rw [sw_W_i _ _ h, sw_W_i _ _ h, sw_e, sw_e, sw_ma_n _ _ hne]
    · rw [List.getElem?_eq_none (by rw [sw_W_len]; omega), List.getElem?_eq_none (by rw [sw_W_len]; omega)]
def sw_XC (g : sG) (X : String → sM → Prop) : String → State → State → Prop := vx_X (fun _ : sM => True) (fun E M t => X E M ∧ sw_Po g M t) (sw_A g)
abbrev sw_nm : List String := ["java/lang/RuntimeException", "java/lang/Exception"]
def sw_th (E : String) (ik ic : Nat) : Prop := Cond.classLink RX6 ik E ∈ sw_all ∧ Cond.initialized E ∈ sw_all ∧ (∀ w ∈ vx_at0 RX6 ic E sw_nm, w ∈ lw_tbl ∧ (goodWord w || sw_per w) = true) ∧ (∀ w ∈ Cond.classLink RX6 ik E :: Cond.initialized E :: vx_at0 RX6 ic E sw_nm, vx_ot w = true) ∧ Bundle.fit E = true
section SWX
variable {p : Program} {l : Launch} {e : Env} {R : Room} {s : State} {m : MethodId} {args : Array Value} {below : List Frame} {meth : Method} {c : Code} {H : Heap} {locs : List Loc} {cells slots : Nat} {Q : State → Prop}
variable {cc : ByteArray} {pc : Nat} {ls : Array Slot} {rest st0 : List Value} {g : sG} {M : sM} {c0 : Cond}
variable {y : MethodName} {bytes : ByteArray} {maxL nL mc ms n index : Nat} {ret : Option FieldType} {rm : Room} {own C : String} {As : List Value} {Qc : Array Value → State → Outcome → State → Prop}
theorem sw_xrunV {XC : String → State → State → Prop} (hx : p.tables.exec = Jvm.exec) (hb : c.code = cc) (hml : c.maxLocals = nL) (hown : s.vm.findClass own = some m.cls) (hts : ∀ w ∈ c0 :: sw_all, w.before args s = true) {k ci N : Nat} {T : u_T} {fs : List (Option Nat)} (hM : vx_Met l y (sw_ws y bytes maxL ret) rm (va_Pc (.ref (sw_ad g k) :: As) (sw_Pr g M)) Qc XC mc ms (sw_A g)) (hc : sw_cV y C bytes maxL ret n) (q : Cond.methodLink own index y ∈ sw_all) (hrc : rm.cells = mc) (hrs : rm.slots = ms) (hR : rm.frames + 1 ≤ R.frames ∧ 8 + (maxL + 11) + rm.locals ≤ R.locals) (hW : sw_Wd g M s H locs) (hk : sw_vk k) (hlay : sw_lay k = .inl (ci, fs)) (hcl : sw_cl[ci]? = some (C, T, N))
    (hn : As.length = n) (hsize : ls.size = nL) (hst : st0 = As.reverse ++ .ref (sw_ad g k) :: rest) (hroom : (rest.map fun v => v.category).sum ≤ 8) (hdg : decode cc pc = .ok (.invokevirtual index, 3)) (hf : cells + mc ≤ R.cells ∧ slots + ms ≤ R.slots) : vx_Run p l e R s m args below meth c H locs cells slots mc ms (F0 m pc ls st0) rest (Qc (Value.ref (sw_ad g k) :: As).toArray) XC (sw_A g) :=
  vx_runV ⟨hx, hb, hml, hown, hts⟩ hM (sw_cwV hts hc q hrc hrs hR) (sw_preV hW hk hlay hcl As) rfl hn hsize hst (lv_room hroom) hdg hf
theorem sw_xrunS {XC : String → State → State → Prop} (hx : p.tables.exec = Jvm.exec) (hb : c.code = cc) (hml : c.maxLocals = nL) (hown : s.vm.findClass own = some m.cls) (hts : ∀ w ∈ c0 :: sw_all, w.before args s = true) (hM : vx_Met l y (sw_ws y bytes maxL ret) rm (va_Pc As (sw_Pr g M)) Qc XC mc ms (sw_A g)) (hc : sw_cS y bytes maxL ret n) (q : Cond.methodLink own index y ∈ sw_all) (hrc : rm.cells = mc) (hrs : rm.slots = ms) (hR : rm.frames + 1 ≤ R.frames ∧ 8 + (maxL + 11) + rm.locals ≤ R.locals) (hW : sw_Wd g M s H locs)
    (hn : As.length = n) (hsize : ls.size = nL) (hst : st0 = As.reverse ++ rest) (hroom : (rest.map fun v => v.category).sum ≤ 8) (hdg : decode cc pc = .ok (.invokestatic index, 3)) (hf : cells + mc ≤ R.cells ∧ slots + ms ≤ R.slots) : vx_Run p l e R s m args below meth c H locs cells slots mc ms (F0 m pc ls st0) rest (Qc As.toArray) XC (sw_A g) :=
  vx_runS ⟨hx, hb, hml, hown, hts⟩ hM (sw_cwS hts hc q hrc hrs hR) (sw_preS hW As) rfl hn hsize hst (lv_room hroom) hdg hf
theorem sw_xki {a : Array Value} {Q1 : Int32 → sM → Prop} {X1 : String → sM → Prop} (hr : vx_Run p l e R s m args below meth c H locs cells slots mc ms (F0 m pc ls st0) rest (va_Qi Q1 (sw_Po g) (sw_A g) a) (sw_XC g X1) (sw_A g)) (hW : sw_Wd g M s H locs)
    (kx : ∀ (E : String) (ce : Cell) (q : Addr) (M : sM) (H : Heap) (locs : List Loc), X1 E M → sw_Wd g M s H locs → H[q]? = some ce → ce.vm = .none → s.vm.findClass E = some ce.cls → vx_W p l e R s m args below meth c H locs (cells + mc) (slots + ms) Q (F0 m pc ls rest) q)
    (kk : ∀ (r : Int32) (M : sM) (H : Heap) (locs : List Loc), Q1 r M → sw_Wd g M s H locs → W p l e R s m args below meth c H locs (cells + mc) (slots + ms) Q (F0 m (pc + 3) ls (.int r :: rest))) : W p l e R s m args below meth c H locs cells slots Q (F0 m pc ls st0) :=
  vx_calli hr hW.2.1 (fun q _ h => h) (fun q h => h) (fun q _ h => h) (fun E ce q9 u t H1 locs1 ht hvm _ hB hz hk hS h1 h2 h3 => kx E ce q9 u H1 locs1 hB.1 ⟨by rw [← ht]; exact hB.2, hS, hW.2.2⟩ h1 h2 h3) (fun r u t H1 locs1 ht hvm hw hB hz hk hS => kk r u H1 locs1 hw ⟨by rw [← ht]; exact hB, hS, hW.2.2⟩)
theorem sw_xkl {a : Array Value} {Q1 : Int64 → sM → Prop} {X1 : String → sM → Prop} (hr : vx_Run p l e R s m args below meth c H locs cells slots mc ms (F0 m pc ls st0) rest (va_Ql Q1 (sw_Po g) (sw_A g) a) (sw_XC g X1) (sw_A g)) (hW : sw_Wd g M s H locs)
    (kx : ∀ (E : String) (ce : Cell) (q : Addr) (M : sM) (H : Heap) (locs : List Loc), X1 E M → sw_Wd g M s H locs → H[q]? = some ce → ce.vm = .none → s.vm.findClass E = some ce.cls → vx_W p l e R s m args below meth c H locs (cells + mc) (slots + ms) Q (F0 m pc ls rest) q)
    (kk : ∀ (r : Int64) (M : sM) (H : Heap) (locs : List Loc), Q1 r M → sw_Wd g M s H locs → W p l e R s m args below meth c H locs (cells + mc) (slots + ms) Q (F0 m (pc + 3) ls (.long r :: rest))) : W p l e R s m args below meth c H locs cells slots Q (F0 m pc ls st0) :=
  vx_calll hr hW.2.1 (fun q _ h => h) (fun q h => h) (fun q _ h => h) (fun E ce q9 u t H1 locs1 ht hvm _ hB hz hk hS h1 h2 h3 => kx E ce q9 u H1 locs1 hB.1 ⟨by rw [← ht]; exact hB.2, hS, hW.2.2⟩ h1 h2 h3) (fun r u t H1 locs1 ht hvm hw hB hz hk hS => kk r u H1 locs1 hw ⟨by rw [← ht]; exact hB, hS, hW.2.2⟩)
theorem sw_xkd {a : Array Value} {Q1 : UInt64 → sM → Prop} {X1 : String → sM → Prop} (hr : vx_Run p l e R s m args below meth c H locs cells slots mc ms (F0 m pc ls st0) rest (va_Qd Q1 (sw_Po g) (sw_A g) a) (sw_XC g X1) (sw_A g)) (hW : sw_Wd g M s H locs)
    (kx : ∀ (E : String) (ce : Cell) (q : Addr) (M : sM) (H : Heap) (locs : List Loc), X1 E M → sw_Wd g M s H locs → H[q]? = some ce → ce.vm = .none → s.vm.findClass E = some ce.cls → vx_W p l e R s m args below meth c H locs (cells + mc) (slots + ms) Q (F0 m pc ls rest) q)
    (kk : ∀ (r : UInt64) (M : sM) (H : Heap) (locs : List Loc), Q1 r M → sw_Wd g M s H locs → W p l e R s m args below meth c H locs (cells + mc) (slots + ms) Q (F0 m (pc + 3) ls (.double r :: rest))) : W p l e R s m args below meth c H locs cells slots Q (F0 m pc ls st0) :=
  vx_calld hr hW.2.1 (fun q _ h => h) (fun q h => h) (fun q _ h => h) (fun E ce q9 u t H1 locs1 ht hvm _ hB hz hk hS h1 h2 h3 => kx E ce q9 u H1 locs1 hB.1 ⟨by rw [← ht]; exact hB.2, hS, hW.2.2⟩ h1 h2 h3) (fun r u t H1 locs1 ht hvm hw hB hz hk hS => kk r u H1 locs1 hw ⟨by rw [← ht]; exact hB, hS, hW.2.2⟩)
theorem sw_xkf {a : Array Value} {Q1 : UInt32 → sM → Prop} {X1 : String → sM → Prop} (hr : vx_Run p l e R s m args below meth c H locs cells slots mc ms (F0 m pc ls st0) rest (va_Qf Q1 (sw_Po g) (sw_A g) a) (sw_XC g X1) (sw_A g)) (hW : sw_Wd g M s H locs)
    (kx : ∀ (E : String) (ce : Cell) (q : Addr) (M : sM) (H : Heap) (locs : List Loc), X1 E M → sw_Wd g M s H locs → H[q]? = some ce → ce.vm = .none → s.vm.findClass E = some ce.cls → vx_W p l e R s m args below meth c H locs (cells + mc) (slots + ms) Q (F0 m pc ls rest) q)
    (kk : ∀ (r : UInt32) (M : sM) (H : Heap) (locs : List Loc), Q1 r M → sw_Wd g M s H locs → W p l e R s m args below meth c H locs (cells + mc) (slots + ms) Q (F0 m (pc + 3) ls (.float r :: rest))) : W p l e R s m args below meth c H locs cells slots Q (F0 m pc ls st0) :=
  vx_callf hr hW.2.1 (fun q _ h => h) (fun q h => h) (fun q _ h => h) (fun E ce q9 u t H1 locs1 ht hvm _ hB hz hk hS h1 h2 h3 => kx E ce q9 u H1 locs1 hB.1 ⟨by rw [← ht]; exact hB.2, hS, hW.2.2⟩ h1 h2 h3) (fun r u t H1 locs1 ht hvm hw hB hz hk hS => kk r u H1 locs1 hw ⟨by rw [← ht]; exact hB, hS, hW.2.2⟩)
theorem sw_xkv {a : Array Value} {Q1 : sM → Prop} {X1 : String → sM → Prop} (hr : vx_Run p l e R s m args below meth c H locs cells slots mc ms (F0 m pc ls st0) rest (va_Qv Q1 (sw_Po g) (sw_A g) a) (sw_XC g X1) (sw_A g)) (hW : sw_Wd g M s H locs)
    (kx : ∀ (E : String) (ce : Cell) (q : Addr) (M : sM) (H : Heap) (locs : List Loc), X1 E M → sw_Wd g M s H locs → H[q]? = some ce → ce.vm = .none → s.vm.findClass E = some ce.cls → vx_W p l e R s m args below meth c H locs (cells + mc) (slots + ms) Q (F0 m pc ls rest) q)
    (kk : ∀ (M : sM) (H : Heap) (locs : List Loc), Q1 M → sw_Wd g M s H locs → W p l e R s m args below meth c H locs (cells + mc) (slots + ms) Q (F0 m (pc + 3) ls (rest))) : W p l e R s m args below meth c H locs cells slots Q (F0 m pc ls st0) :=
  vx_callv hr hW.2.1 (fun q _ h => h) (fun q h => h) (fun q _ h => h) (fun E ce q9 u t H1 locs1 ht hvm _ hB hz hk hS h1 h2 h3 => kx E ce q9 u H1 locs1 hB.1 ⟨by rw [← ht]; exact hB.2, hS, hW.2.2⟩ h1 h2 h3) (fun u t H1 locs1 ht hvm hw hB hz hk hS => kk u H1 locs1 hw ⟨by rw [← ht]; exact hB, hS, hW.2.2⟩)
theorem sw_xout {X : String → sM → Prop} {E : String} {ce : Cell} {q : Addr} (hnt : ∀ x ∈ c.exceptionTable.toList, False) (hlocks : meth.locks = false) (hX : X E M) (hW : sw_Wd g M s H locs) (h1 : H[q]? = some ce) (h2 : ce.vm = .none) (h3 : s.vm.findClass E = some ce.cls) (hc : cells ≤ mc) (hs : slots ≤ ms) :
    vx_W p l e R s m args below meth c H locs cells slots (vx_MQ below Qc (sw_XC g X) args s mc ms (sw_A g)) (F0 m pc ls rest) q :=
  vx_out (fun x hx => (hnt x hx).elim) hlocks h1 h2 h3 (fun t ht hvm => ⟨M, trivial, ⟨hX, by show va_P _ _ _ _; rw [ht]; exact hW.1⟩, hW.2.1.F ht⟩) hW.2.1.2.2 hc hs
theorem sw_throw {X : String → sM → Prop} {E : String} {ik ic : Nat} (hx : p.tables.exec = Jvm.exec) (hb : c.code = cc) (hl : l.stackTraces = false) (hown : s.vm.findClass RX6 = some m.cls) (hts : ∀ w ∈ c0 :: sw_all, w.before args s = true) (hE : sw_th E ik ic) (hW : sw_Wd g M s H locs) (hsize : ls.size = c.maxLocals)
    (d0 : decode cc pc = .ok (.new ik, 3)) (d3 : decode cc (pc + 3) = .ok (.dup, 1)) (d4 : decode cc (pc + 4) = .ok (.invokespecial ic, 3)) (d7 : decode cc (pc + 7) = .ok (.athrow, 1)) (hnt : ∀ x ∈ c.exceptionTable.toList, False)
    (hRf : 5 < R.frames) (hRl : (rest.map fun v => v.category).sum + 81 ≤ R.locals) (hRc : cells + 1 ≤ R.cells) (hRs : slots + 6 ≤ R.slots) (hlocks : meth.locks = false) (hX : X E M) (hc : cells + 1 ≤ mc) (hs : slots + 6 ≤ ms) :
    W p l e R s m args below meth c H locs cells slots (vx_MQ below Qc (sw_XC g X) args s mc ms (sw_A g)) (F0 m pc ls rest) := by
  obtain ⟨q1, q2, q3, q4, q5⟩ := hE
  obtain ⟨hP, hS, hF⟩ := id hW
  obtain ⟨f1, f2, f3, f4, f5, f6, f7, f8⟩ := hF
  refine vx_throw0 (names := sw_nm) (A := sw_A g) hx hb hl hown q5 (by decide) (sw_w hts q1) (sw_w hts q2) (fun w hw => ?_) q4 f4 f5 hS hsize d0 d3 d4 d7 (fun x hx => (hnt x hx).elim) hRf hRl hRc hRs hlocks (fun t hvm hz hk => ?_) hS.2.2 hc hs
  · obtain ⟨h1, h2⟩ := q3 w hw
    rw [Bool.or_eq_true] at h2
    rcases h2 with h2 | h2
    · exact sw_w hts (sw_q h1 h2)
    · have h3 := f8 w h1 h2
      have h4 : w.onTables = true := by
        simp only [sw_per, Bool.and_eq_true] at h2
        exact h2.1
      exact va_tabs h4 rfl h3
  · refine ⟨M, trivial, ⟨hX, hP.kept (fun k q hq => ?_)⟩, Nat.le_trans hS.1 hz, fun q h1 h2 => ?_⟩
    · exact hk _ (hP k q hq).lt
    · rw [hk q (Nat.lt_of_lt_of_le h1 hS.1)]
      exact hS.2.1 q h1 h2
theorem sw_acopy (hx : p.tables.exec = Jvm.exec) (hb : c.code = cc) (hml : c.maxLocals = nL) (hsz : ls.size = nL) (hown : s.vm.findClass own = some m.cls) (hts : ∀ w ∈ c0 :: sw_all, w.before args s = true) (q : Cond.methodLink own index arraycopyName ∈ sw_all) (qn : Cond.native arraycopyName ∈ sw_all) (qs : Cond.static arraycopyName ∈ sw_all) (qi : Cond.initialized "java/lang/System" ∈ sw_all) (hW : sw_Wd g M s H locs) {k0 k1 n0 n1 : Nat} (hk0 : sw_vk k0) (hl0 : sw_lay k0 = .inr (1, n0, none)) (hk1 : sw_vk k1) (hl1 : sw_lay k1 = .inr (1, n1, none)) {sp dp n : Int32} (h : ¬ sp < 0 ∧ ¬ dp < 0 ∧ ¬ n < 0 ∧ sp.toNatClampNeg + n.toNatClampNeg ≤ n0 ∧ dp.toNatClampNeg + n.toNatClampNeg ≤ n1)
    (hframes : 1 ≤ R.frames) (hlocals : (rest.map fun v => v.category).sum + 40 ≤ R.locals) (hdg : decode cc pc = .ok (.invokestatic index, 3))
    (kk : ∀ (H : Heap) (locs : List Loc), sw_Wd g (sw_ma M k1 (va_cpy (M k0) (M k1) sp.toNatClampNeg dp.toNatClampNeg n.toNatClampNeg)) s H locs → W p l e R s m args below meth c H locs cells slots Q (F0 m (pc + 3) ls rest)) : W p l e R s m args below meth c H locs cells slots Q (F0 m pc ls (.int n :: .int dp :: .ref (sw_ad g k1) :: .int sp :: .ref (sw_ad g k0) :: rest)) := by
  obtain ⟨h1, h2, h3, h4, h5⟩ := h
  have hw : nativeFrameWords "java/lang/System" "arraycopy" 5 + 11 ≤ 40 := by decide +kernel
  refine va_copyi hx hb (by rw [hml, hsz]) hown (sw_w hts q) (sw_w hts qn) (sw_w hts qs) (sw_w hts qi) hW.2.2.1 hW.1 (sw_W_D hW.2.2.2.1 M) hW.2.1 (sw_pl k0) (sw_pl k1) 1 1 (sw_atA hk0 hl0) (sw_atA hk1 hl1) rfl rfl rfl h1 h2 h3 h4 h5 (fun _ _ => rfl) hframes (by omega) hdg (fun H1 locs1 hP hD hS => ?_)
  have e1 : (sw_W g M).set (sw_pl k1) (sw_ad g k1, .inl (sw_ac g 1, n1, .inl (va_cpy (M k0) (M k1) sp.toNatClampNeg dp.toNatClampNeg n.toNatClampNeg))) = sw_W g (sw_ma M k1 (va_cpy (M k0) (M k1) sp.toNatClampNeg dp.toNatClampNeg n.toNatClampNeg)) := by
    rw [← sw_W_setA g M hk1, hl1]; rfl
  rw [e1] at hP
  exact kk H1 locs1 ⟨hP, hS, hW.2.2⟩
end SWX
theorem sw_xmet {l : Launch} {y : MethodName} {cc : ByteArray} {maxL : Nat} {ret : Option FieldType} {rm : Room} {mc ms : Nat} {Qc : Array Value → State → Outcome → State → Prop} {XC : String → State → State → Prop} {g : sG} {M : sM} {av : List Value} (hy : plainName y.cls = true) (hlen : (lg_sl av).length ≤ maxL)
    (body : ∀ (p : Program) (e : Env) (s : State) (m : MethodId) (args : Array Value) (below : List Frame) (meth : Method) (c : Code) (ls : Array Slot), p.tables.exec = Jvm.exec → c.code = cc → meth.sig.returnType = ret → (∀ w ∈ sw_ws y cc maxL ret, w.before args s = true) → s.vm.findClass y.cls = some m.cls → c.maxLocals = maxL → meth.locks = false → (∀ x ∈ c.exceptionTable.toList, False) → sw_Wd g M s s.heap [] → lv_has ls maxL (lv_args 0 av) → W p l e rm s m args below meth c s.heap [] 0 0 (vx_MQ below Qc XC args s mc ms (sw_A g)) (F0 m 0 ls [])) : vx_Met l y (sw_ws y cc maxL ret) rm (va_Pc av (sw_Pr g M)) Qc XC mc ms (sw_A g) := by
  refine vx_ofW hy rfl ?_
  intro p e s m args below meth c s₁ B hml hnt hv
  obtain ⟨rfl, hv⟩ := hv
  have hl := lv_entry av (n := maxL) hlen
  rw [lg_entry_eq]
  exact body p e s m _ below meth c _ B.exec B.bytes B.returns (atoms_spec (ws := sw_ws y cc maxL ret) B.pre) (findClass_of_methodNamed B.named) hml B.notSynchronized hnt hv.wd hl
theorem th_201 : sw_th "java/lang/IllegalArgumentException" 201 203 := ⟨q_228, q_13, by decide +kernel, by decide +kernel, by decide +kernel⟩
theorem th_228 : sw_th "java/lang/ArithmeticException" 228 230 := ⟨q_733, q_22, by decide +kernel, by decide +kernel, by decide +kernel⟩
theorem th_252 : sw_th "java/lang/IllegalStateException" 252 254 := ⟨q_235, q_14, by decide +kernel, by decide +kernel, by decide +kernel⟩
theorem th_284 : sw_th "java/lang/UnsupportedOperationException" 284 286 := ⟨q_242, q_15, by decide +kernel, by decide +kernel, by decide +kernel⟩
theorem th_298 : sw_th "java/lang/IndexOutOfBoundsException" 298 300 := ⟨q_192, q_12, by decide +kernel, by decide +kernel, by decide +kernel⟩
theorem th_319 : sw_th "java/util/NoSuchElementException" 319 321 := ⟨q_249, q_16, by decide +kernel, by decide +kernel, by decide +kernel⟩
