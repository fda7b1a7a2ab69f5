/-! The law's methods that read the script. -/
def zl_sc (g : sG) (b L : Nat) (xs : Nat → Int32) (s : State) : Prop := va_X b L xs s s.heap ∧ b < s.heap.size ∧ ¬ sw_A g b
def zl_Ps (g : sG) (z : zG) (b L : Nat) (xs : Nat → Int32) (U : State) : Prop := zl_Pr g z U ∧ zl_sc g b L xs U
theorem zl_Ps.blind {g : sG} {z : zG} {b L : Nat} {xs : Nat → Int32} {av : List Value} : FrameBlind (va_Pc av (zl_Ps g z b L xs)) := fun a U f mk h => ⟨h.1, (zl_Pr.blind (g := g) (z := z) (av := av) a U f mk ⟨h.1, h.2.1⟩).2, h.2.2.1.moved (State.WarmedH.refl U).alike, h.2.2.2⟩
theorem zl_sc.go {g : sG} {E : va_W} {z : zG} {s U : State} {H : Heap} {locs : List Loc} {b L : Nat} {xs : Nat → Int32} (hsc : zl_sc g b L xs s) (hW : zl_Wd g E z s H locs) (hU : U.heap = H) (hWm : s.WarmedH U.vm) : zl_sc (zl_re g H.size) b L xs U := by
  obtain ⟨h1, h2, h3⟩ := hsc
  refine ⟨?_, ?_, fun h => h3 (zl_A (Nat.le_trans hW.2.2.2.2.2.1 hW.2.2.1.1) h)⟩
  · rw [hU]
    exact (h1.kept (hW.2.2.1.2.1 b h2 h3)).moved hWm.alike
  · rw [hU]
    exact Nat.lt_of_lt_of_le h2 hW.2.2.1.1
theorem zl_preSs {g : sG} {E : va_W} {z : zG} {s : State} {H : Heap} {locs : List Loc} {b L : Nat} {xs : Nat → Int32} (hW : zl_Wd g E z s H locs) (hsc : zl_sc g b L xs s) (As : List Value) : PreS s H (va_Pc As (zl_Ps (zl_re g H.size) z b L xs)) As := ⟨zl_Ps.blind, fun U hU hWm => ⟨rfl, hW.pr hU hWm, hsc.go hW hU hWm⟩⟩
theorem zl_mets {l : Launch} {y : MethodName} {cc : ByteArray} {maxL : Nat} {ret : Option FieldType} {rm : Room} {mc ms : Nat} {Qc : Array Value → State → Outcome → State → Prop} {g : sG} {z : zG} {b L : Nat} {xs : Nat → Int32} {av : List Value} (hy : plainName y.cls = true) (hlen : (lg_sl av).length ≤ maxL)
    (body : ∀ (p : Program) (e : Env) (s : State) (m : MethodId) (args : Array Value) (below : List Frame) (meth : Method) (c : Code) (ls : Array Slot), p.tables.exec = Jvm.exec → c.code = cc → meth.sig.returnType = ret → (∀ w ∈ sw_ws y cc maxL ret, w.before args s = true) → s.vm.findClass y.cls = some m.cls → c.maxLocals = maxL → meth.locks = false → zl_sc g b L xs s → zl_Wd g [] z s s.heap [] → lv_has ls maxL (lv_args 0 av) → W p l e rm s m args below meth c s.heap [] 0 0 (MQ below Qc args s mc ms (sw_A g)) (F0 m 0 ls [])) : Met l y (sw_ws y cc maxL ret) rm (va_Pc av (zl_Ps g z b L xs)) Qc mc ms (sw_A g) := by
  refine Met.ofW hy rfl ?_
  intro p e s m args below meth c s₁ B hml hv
  obtain ⟨rfl, hv⟩ := hv
  have hl := lv_entry av (n := maxL) hlen
  rw [lg_entry_eq]
  exact body p e s m _ below meth c _ B.exec B.bytes B.returns (atoms_spec (ws := sw_ws y cc maxL ret) B.pre) (findClass_of_methodNamed B.named) hml B.notSynchronized hv.2 hv.1.wd hl
section ZSR
variable {p : Program} {l : Launch} {e : Env} {R : Room} {s : State} {m : MethodId} {args : Array Value} {below : List Frame} {meth : Method} {c : Code} {H : Heap} {locs : List Loc} {cells slots : Nat} {Q : State → Prop}
variable {cc : ByteArray} {pc : Nat} {ls : Array Slot} {rest st0 : List Value} {g : sG} {E : va_W} {z : zG} {c0 : Cond}
variable {y : MethodName} {bytes : ByteArray} {maxL nL mc ms n index : Nat} {ret : Option FieldType} {rm : Room} {own C : String} {As : List Value} {Qc : Array Value → State → Outcome → State → Prop} {b L : Nat} {xs : Nat → Int32}
theorem zl_runSs (hx : p.tables.exec = Jvm.exec) (hb : c.code = cc) (hml : c.maxLocals = nL) (hown : s.vm.findClass own = some m.cls) (hts : ∀ w ∈ c0 :: sw_all, w.before args s = true) (hM : Met l y (sw_ws y bytes maxL ret) rm (va_Pc As (zl_Ps (zl_re g H.size) z b L xs)) Qc mc ms (sw_A (zl_re g H.size))) (hc : sw_cS y bytes maxL ret n) (q : Cond.methodLink own index y ∈ sw_all) (hrc : rm.cells = mc) (hrs : rm.slots = ms) (hR : rm.frames + 1 ≤ R.frames ∧ 8 + (maxL + 11) + rm.locals ≤ R.locals) (hW : zl_Wd g E z s H locs) (hsc : zl_sc g b L xs s)
    (hn : As.length = n) (hsize : ls.size = nL) (hst : st0 = As.reverse ++ rest) (hroom : (rest.map fun v => v.category).sum ≤ 8) (hdg : decode cc pc = .ok (.invokestatic index, 3)) (hf : cells + mc ≤ R.cells ∧ slots + ms ≤ R.slots) : va_Run p l e R s m args below meth c H locs cells slots mc ms (F0 m pc ls st0) rest (Qc As.toArray) (sw_A (zl_re g H.size)) :=
  va_runS ⟨hx, hb, hml, hown, hts⟩ hM (sw_cwS hts hc q hrc hrs hR) (zl_preSs hW hsc As) rfl hn hsize hst (lv_room hroom) hdg hf
end ZSR

def wL_cell (a2 : Int32) (L : Nat) (xs : Nat → Int32) (z : zG) (Q : Int32 → Prop) : Prop :=
  ((nI L) ≤ a2 → (Q ((40503 : Int32) * a2))) ∧ (¬ (nI L) ≤ a2 → (vp_in a2 L ∧ (Q (xs (a2).toNatClampNeg))))
theorem cs_L_cell : sw_cS yL_cell cL_cell 2 (some .int) 2 := ⟨q_161, q_1, q_162, by decide +kernel⟩
set_option maxRecDepth 20000 in
set_option maxHeartbeats 4000000 in
theorem kL_cell (l : Launch) (hst : l.stackTraces = false) (g : sG) (a2 : Int32) (b L : Nat) (xs : Nat → Int32) (z : zG) (Q : Int32 → Prop) (h : wL_cell a2 L xs z Q) : Met l yL_cell (sw_ws yL_cell cL_cell 2 (some .int)) { frames := 0, cells := 0, slots := 0, locals := 0 } (va_Pc [.ref b, .int a2] (zl_Ps g z b L xs)) (va_Qi (fun r z' => Q r ∧ z' = z) (zl_Po g) (sw_A g)) 0 0 (sw_A g) := by
  refine zl_mets (by decide) (Nat.le_of_ble_eq_true rfl) ?_
  intro p e s m args below meth c ls hx hb hr hts hown hml hlocks hsc hW hl
  have hown : s.vm.findClass RL = some m.cls := hown
  have hl : lv_has ls 2 [(0, .ref b), (1, .int a2)] := hl
  obtain ⟨R, hRe⟩ : ∃ R : Room, R = { frames := 0, cells := 0, slots := 0, locals := 0 } := ⟨_, rfl⟩
  rw [← hRe]
  have hRf : R.frames = 0 := by rw [hRe]
  have hRc : R.cells = 0 := by rw [hRe]
  have hRs : R.slots = 0 := by rw [hRe]
  have hRl : R.locals = 0 := by rw [hRe]
  clear hRe
  have gc0 : 0 + 0 ≤ R.cells := by rw [hRc]; exact (Nat.le_of_ble_eq_true rfl)
  have gs0 : 0 + 0 ≤ R.slots := by rw [hRs]; exact (Nat.le_of_ble_eq_true rfl)
  obtain ⟨Q0, hQ0⟩ : ∃ Q0 : State → Prop, Q0 = MQ below (va_Qi (fun r z' => Q r ∧ z' = z) (zl_Po g) (sw_A g)) args s 0 0 (sw_A g) := ⟨_, rfl⟩
  rw [← hQ0]
  generalize hHs : s.heap = H at hW ⊢
  generalize hLo : ([] : List Loc) = locs at hW ⊢
  unfold wL_cell at h
  refine lv_iload_n hx hb dL_cell_0 rfl (lv_at hl 1 rfl) ?_
  refine lv_aload_n hx hb dL_cell_1 rfl (lv_at hl 0 rfl) ?_
  refine va_slen hx hb hsc.1 hsc.2.1 hsc.2.2 hW.2.2.1 dL_cell_2 ?_
  refine lv_icmp_ge (tgt := 12) hx hb dL_cell_3 (by decide) (fun k1 => ?_) (fun k1 => ?_)
  · replace h := h.1 k1
    refine lv_ldc hx hb hown (sw_w hts q_163) dL_cell_12 ?_
    refine lv_iload_n hx hb dL_cell_14 rfl (lv_at hl 1 rfl) ?_
    refine lv_imul hx hb dL_cell_15 ?_
    subst hQ0
    refine W.widen (k := 0) (n := 0) (Nat.le_trans (zc1 (D := 0) gc0 (Nat.le_of_ble_eq_true rfl)) (Nat.le_of_eq hRc)) (Nat.le_trans (zc1 (D := 0) gs0 (Nat.le_of_ble_eq_true rfl)) (Nat.le_of_eq hRs)) ?_
    exact zl_ri hx hb hr hlocks hW rfl ⟨h, rfl⟩ dL_cell_16
  · replace h := h.2 k1
    refine lv_aload_n hx hb dL_cell_6 rfl (lv_at hl 0 rfl) ?_
    refine lv_iload_n hx hb dL_cell_7 rfl (lv_at hl 1 rfl) ?_
    have b2 := h.1
    replace h := h.2
    refine va_sld hx hb hsc.1 hsc.2.1 hsc.2.2 hW.2.2.1 b2 dL_cell_8 ?_
    refine lv_goto (tgt := 16) hx hb dL_cell_9 (by decide) ?_
    subst hQ0
    refine W.widen (k := 0) (n := 0) (Nat.le_trans (zc1 (D := 0) gc0 (Nat.le_of_ble_eq_true rfl)) (Nat.le_of_eq hRc)) (Nat.le_trans (zc1 (D := 0) gs0 (Nat.le_of_ble_eq_true rfl)) (Nat.le_of_eq hRs)) ?_
    exact zl_ri hx hb hr hlocks hW rfl ⟨h, rfl⟩ dL_cell_16
