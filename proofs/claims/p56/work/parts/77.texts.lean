/-! Texts: builders and strings among the law's own objects; rows over them. -/
theorem qi_B : Cond.instantiable RJ4 4 ∈ sw_all := q_774
theorem qs_ensure : Cond.sameMethod RJ5 RJ5 "ensureCapacityInternal" "(I)V" ∈ sw_all := sw_q (qt_7 _ (List.mem_of_getElem? (i := 32) rfl)) rfl
theorem qs_newcap : Cond.sameMethod RJ5 RJ5 "newCapacity" "(I)I" ∈ sw_all := sw_q (qt_7 _ (List.mem_of_getElem? (i := 33) rfl)) rfl
theorem qs_put : Cond.sameMethod RJ5 RJ5 "putStringAt" "(ILjava/lang/String;)V" ∈ sw_all := sw_q (qt_7 _ (List.mem_of_getElem? (i := 34) rfl)) rfl
theorem qs_inflif : Cond.sameMethod RJ5 RJ5 "inflateIfNeededFor" "(Ljava/lang/String;)V" ∈ sw_all := sw_q (qt_7 _ (List.mem_of_getElem? (i := 35) rfl)) rfl
theorem qs_appS : Cond.sameMethod RJ5 RJ5 "append" "(Ljava/lang/String;)Ljava/lang/AbstractStringBuilder;" ∈ sw_all := sw_q (qt_7 _ (List.mem_of_getElem? (i := 30) rfl)) rfl
theorem qs_appC : Cond.sameMethod RJ5 RJ5 "append" "(C)Ljava/lang/AbstractStringBuilder;" ∈ sw_all := sw_q (qt_7 _ (List.mem_of_getElem? (i := 37) rfl)) rfl
theorem qs_appI : Cond.sameMethod RJ5 RJ5 "append" "(I)Ljava/lang/AbstractStringBuilder;" ∈ sw_all := sw_q (qt_7 _ (List.mem_of_getElem? (i := 38) rfl)) rfl
theorem qs_isl : Cond.sameMethod RJ5 RJ5 "isLatin1" "()Z" ∈ sw_all := sw_q (qt_5 _ (List.mem_of_getElem? (i := 132) rfl)) rfl
theorem qs_getv : Cond.sameMethod RJ5 RJ5 "getValue" "()[B" ∈ sw_all := sw_q (qt_6 _ (List.mem_of_getElem? (i := 25) rfl)) rfl
theorem qs_len : Cond.sameMethod RJ5 RJ5 "length" "()I" ∈ sw_all := sw_q (qt_6 _ (List.mem_of_getElem? (i := 30) rfl)) rfl
theorem qp_ensure : Cond.privateMethod yJ5_ensureCapacityInternal_d00df ∈ lw_tbl := qt_5 _ (List.mem_of_getElem? (i := 100) rfl)
theorem qp_newcap : Cond.privateMethod yJ5_newCapacity_0f7a4 ∈ lw_tbl := qt_5 _ (List.mem_of_getElem? (i := 104) rfl)
theorem qp_put : Cond.privateMethod yJ5_putStringAt_47b60 ∈ lw_tbl := qt_5 _ (List.mem_of_getElem? (i := 171) rfl)
theorem qp_inflif : Cond.privateMethod yJ5_inflateIfNeededFor_a7421 ∈ lw_tbl := qt_5 _ (List.mem_of_getElem? (i := 175) rfl)
theorem qu_B : Cond.superclass RJ4 RJ5 ∈ sw_all := sw_q (qt_5 _ (List.mem_of_getElem? (i := 86) rfl)) rfl
theorem qs_clone : Cond.sameMethod "[B" "java/lang/Object" "clone" "()Ljava/lang/Object;" ∈ sw_all := sw_q (qt_5 _ (List.mem_of_getElem? (i := 120) rfl)) rfl
theorem qu_S : Cond.superclass RJ0 "java/lang/Object" ∈ sw_all := sw_q (qt_6 _ (List.mem_of_getElem? (i := 76) rfl)) rfl
theorem qk_clone : Cond.castable "[B" "java/lang/Cloneable" ∈ lw_tbl := qt_5 _ (List.mem_of_getElem? (i := 124) rfl)
def zBb (g : sG) (cap : Nat) (t : List Nat) : va_E := .inl (sw_ac g 6, cap, .inl (fun j => nI (t.getD j 0)))
def zSo (_ : sG) (b n : Nat) : va_E := .inr (8, [.ref b, .int 0, .int 0, .int (nI n)])
def zTo (_ : sG) (v : Nat) : va_E := .inr (7, [.ref v, .int 0, .int 0, .int 0])
def zTb (g : sG) (t : List Nat) : va_E := zBb g t.length t
def zPe (g : sG) (E : va_W) (z : zG) (U : State) : Prop := zl_H g E z U.heap ∧ zl_E g E ∧ sw_F g U U.heap
def zQe {S : Type} (g : sG) (Ef : S → va_W) (z : zG) : S → State → Prop := fun u t => zl_H g (Ef u) z t.heap ∧ zl_E g (Ef u)
theorem zPe.wd {g : sG} {E : va_W} {z : zG} {s : State} (h : zPe g E z s) : zl_Wd g E z s s.heap [] := ⟨h.1, h.2.1, va_S.rf, h.2.2⟩
theorem zPe.blind {g : sG} {E : va_W} {z : zG} {av : List Value} : FrameBlind (va_Pc av (zPe g E z)) := fun a U f mk h => ⟨h.1, h.2.1, h.2.2.1, h.2.2.2.go (State.WarmedH.refl U) (Nat.le_refl _) (fun _ _ _ => rfl)⟩
theorem zl_Wd.pe {g : sG} {E : va_W} {z : zG} {s U : State} {H : Heap} {locs : List Loc} (h : zl_Wd g E z s H locs) (hU : U.heap = H) (hW : s.WarmedH U.vm) : zPe g E z U := by
  obtain ⟨h1, h2, h3, h4⟩ := h
  refine ⟨by rw [hU]; exact h1, h2, ?_⟩
  rw [hU]
  exact h4.go hW h3.1 h3.2.1
theorem je_preS {g : sG} {E : va_W} {z : zG} {s : State} {H : Heap} {locs : List Loc} (hW : zl_Wd g E z s H locs) (As : List Value) : PreS s H (va_Pc As (zPe g E z)) As := ⟨zPe.blind, fun U hU hWm => ⟨rfl, hW.pe hU hWm⟩⟩
theorem je_met {l : Launch} {y : MethodName} {cc : ByteArray} {maxL : Nat} {ret : Option FieldType} {rm : Room} {mc ms : Nat} {Qc : Array Value → State → Outcome → State → Prop} {g : sG} {E : va_W} {z : zG} {av : List Value} (hy : plainName y.cls = true) (hlen : (lg_sl av).length ≤ maxL)
    (body : ∀ (p : Program) (e : Env) (s : State) (m : MethodId) (args : Array Value) (below : List Frame) (meth : Method) (c : Code) (ls : Array Slot), p.tables.exec = Jvm.exec → c.code = cc → meth.sig.returnType = ret → (∀ w ∈ sw_ws y cc maxL ret, w.before args s = true) → s.vm.findClass y.cls = some m.cls → c.maxLocals = maxL → meth.locks = false → meth.name = y.name → zl_Wd g E z s s.heap [] → lv_has ls maxL (lv_args 0 av) → W p l e rm s m args below meth c s.heap [] 0 0 (MQ below Qc args s mc ms (sw_A g)) (F0 m 0 ls [])) : Met l y (sw_ws y cc maxL ret) rm (va_Pc av (zPe g E z)) Qc mc ms (sw_A g) := by
  refine Met.ofW hy rfl ?_
  intro p e s m args below meth c s₁ B hml hv
  obtain ⟨rfl, hv⟩ := hv
  have hl := lv_entry av (n := maxL) hlen
  rw [lg_entry_eq]
  exact body p e s m _ below meth c _ B.exec B.bytes B.returns (atoms_spec (ws := sw_ws y cc maxL ret) B.pre) (findClass_of_methodNamed B.named) hml B.notSynchronized (name_of_methodNamed B.named B.method).1 hv.wd hl
section JE
variable {p : Program} {l : Launch} {e : Env} {R : Room} {s : State} {m : MethodId} {args : Array Value} {below : List Frame} {meth : Method} {c : Code} {H : Heap} {locs : List Loc} {cells slots : Nat} {Q : State → Prop}
variable {cc : ByteArray} {pc : Nat} {ls : Array Slot} {rest st0 : List Value} {g : sG} {E : va_W} {z : zG} {c0 : Cond}
variable {y : MethodName} {bytes : ByteArray} {maxL nL mc ms n index : Nat} {ret : Option FieldType} {rm : Room} {own C : String} {As : List Value} {Qc : Array Value → State → Outcome → State → Prop}
/-- an object of the law's own stands as its class says -/
theorem je_recv (hW : zl_Wd g E z s H locs) {i ci N a : Nat} {C : String} {T : u_T} {fs : List Value} (hE : E[i]? = some (a, .inr (ci, fs))) (hc : sw_cl[ci]? = some (C, T, N)) (As : List Value) : PreV s H C a (va_Pc (.ref a :: As) (zPe g E z)) As := by
  refine ⟨zPe.blind, ?_, fun U hU hWm => ⟨rfl, hW.pe hU hWm⟩⟩
  exact va_recv hW.2.2.2.1 hW.1.E hc hE
theorem je_get (hx : p.tables.exec = Jvm.exec) (hb : c.code = cc) {ref C : String} {T : u_T} {N ci : Nat} (hts : ∀ w ∈ c0 :: sw_all, w.before args s = true) (hin : ∀ w ∈ u_ws C T N, w ∈ sw_all) (hown : s.vm.findClass own = some m.cls) (hW : zl_Wd g E z s H locs) (i : Nat) {a : Nat} {fs : List Value} (hE : E[i]? = some (a, .inr (ci, fs))) (hc : sw_cl[ci]? = some (C, T, N)) (k : Nat) (hk : k < N) (hlink : Cond.fieldLink own index ref (T k).2.1 (T k).2.2.1 ∈ sw_all) (hr : ref = (T k).1) {v : Value} (hv : fs[k]? = some v) (hdg : decode cc pc = .ok (.getfield index, 3))
    (kk : W p l e R s m args below meth c H locs cells slots Q (F0 m (pc + 3) ls (v :: rest))) : W p l e R s m args below meth c H locs cells slots Q (F0 m pc ls (.ref a :: rest)) := by
  subst hr
  exact va_get hx hb hts (fun w h => List.mem_cons_of_mem _ (hin w h)) hown hW.2.2.2.1 hW.1.E i hE hc k hk (sw_w hts hlink) (fun _ h => h) hv hdg kk
theorem je_putG (hx : p.tables.exec = Jvm.exec) (hb : c.code = cc) {ref C : String} {T : u_T} {N ci : Nat} (hts : ∀ w ∈ c0 :: sw_all, w.before args s = true) (hin : ∀ w ∈ u_ws C T N, w ∈ sw_all) (ty0 : Nat → FieldType) (hty : ∀ k, k < N → parseFieldDescriptor (T k).2.2.1 = some (ty0 k)) (hnm : ∀ a, a < N → ∀ b, b < N → a ≠ b → (T a).2.1 ≠ (T b).2.1) (hown : s.vm.findClass own = some m.cls) (hW : zl_Wd g E z s H locs) (i : Nat) {a : Nat} {fs : List Value} (hE : E[i]? = some (a, .inr (ci, fs))) (hc : sw_cl[ci]? = some (C, T, N)) (k : Nat) (hk : k < N) (hlink : Cond.fieldLink own index ref (T k).2.1 (T k).2.2.1 ∈ sw_all) (hr : ref = (T k).1) (hfin : (T k).2.2.2 = false ∨ ((T k).2.2.2 = true ∧ meth.name = "<init>" ∧ (T k).1 = own)) {v : Value} (hn : narrow (ty0 k) v = v) (hfit : fits (ty0 k) v = true) (hl : k < fs.length) (hdg : decode cc pc = .ok (.putfield index, 3))
    (kk : ∀ (H : Heap) (locs : List Loc), zl_Wd g (E.set i (a, .inr (ci, fs.set k v))) z s H locs → W p l e R s m args below meth c H locs cells slots Q (F0 m (pc + 3) ls rest)) : W p l e R s m args below meth c H locs cells slots Q (F0 m pc ls (v :: .ref a :: rest)) := by
  subst hr
  obtain ⟨M, hC, hG, hP⟩ := hW.1
  have hD := zl_D hW.2.2.2.2.1 hW.2.1 M
  have fin : ∀ (H1 : Heap) (locs1 : List Loc), va_P (sw_D g) sw_cl ((sw_W g M ++ E).set (220 + i) (a, .inr (ci, fs.set k v))) H1 → va_S (sw_A g) s.heap H1 locs1 → zl_Wd g (E.set i (a, .inr (ci, fs.set k v))) z s H1 locs1 := fun H1 locs1 h1 h2 => by
    rw [zl_setE] at h1
    exact ⟨⟨M, hC, hG, h1⟩, zl_Eset hW.2.1 hE, h2, hW.2.2.2⟩
  rcases hfin with hfin | ⟨hfin, hin2, hdecl⟩
  · exact va_put hx hb hts (fun w h => List.mem_cons_of_mem _ (hin w h)) ty0 hty hnm hown hW.2.2.2.1 hP hD hW.2.2.1 (220 + i) (zl_at hE) hc k hk (sw_w hts hlink) (fun _ h => h) hfin (hty k hk) hn hfit hl hdg (fun H1 locs1 hP1 hD1 hS1 => kk H1 locs1 (fin H1 locs1 hP1 hS1))
  · exact va_putF hx hb hts (fun w h => List.mem_cons_of_mem _ (hin w h)) ty0 hty hnm hown hW.2.2.2.1 hP hD hW.2.2.1 (220 + i) (zl_at hE) hc k hk (sw_w hts hlink) (fun _ h => h) hfin hin2 hdecl (hty k hk) hn hfit hl hdg (fun H1 locs1 hP1 hD1 hS1 => kk H1 locs1 (fin H1 locs1 hP1 hS1))
theorem je_alen (hx : p.tables.exec = Jvm.exec) (hb : c.code = cc) (hW : zl_Wd g E z s H locs) (i : Nat) {a : Nat} {cap : Nat} {t : List Nat} (hE : E[i]? = some (a, zBb g cap t)) (hdg : decode cc pc = .ok (.arraylength, 1))
    (kk : W p l e R s m args below meth c H locs cells slots Q (F0 m (pc + 1) ls (.int (nI cap) :: rest))) : W p l e R s m args below meth c H locs cells slots Q (F0 m pc ls (.ref a :: rest)) :=
  va_alen hx hb hW.2.2.2.1 hW.1.E i 6 (x := (cap, .inl (fun j => nI (t.getD j 0)))) hE rfl rfl hdg kk
theorem je_arr {E' : va_W} {i a N : Nat} {f f' : Nat → Int32} (hf : ∀ j, j < N → f j = f' j) (hE : E'[i]? = some (a, .inl (sw_ac g 6, N, .inl f))) (hW : zl_Wd g E' z s H locs) : zl_Wd g (E'.set i (a, .inl (sw_ac g 6, N, .inl f'))) z s H locs := by
  obtain ⟨⟨M, hC, hG, hP⟩, h2, h3, h4⟩ := hW
  refine ⟨⟨M, hC, hG, ?_⟩, zl_Eset h2 hE, h3, h4⟩
  rw [← zl_setE]
  intro k q hk
  by_cases e9 : k = 220 + i
  · subst e9
    rw [List.getElem?_set_self (by rw [List.length_append, sw_W_len]; have := (List.getElem?_eq_some_iff.mp hE).1; omega)] at hk
    cases hk
    have h5 := hP _ _ (zl_at (M := M) hE)
    have e : vp_cell (sw_ac g 6) (N, .inl f) = vp_cell (sw_ac g 6) (N, .inl f') := by
      rw [vp_cell_i, vp_cell_i]
      unfold arrV
      congr 1
      apply Array.ext
      · simp
      · intro j h6 h7
        simp at h6
        simp [hf j h6]
    show H[a]? = some _
    rw [← e]
    exact h5
  · rw [List.getElem?_set_ne (Ne.symm e9)] at hk
    exact hP k q hk
theorem zl_sub {E' : va_W} (hW : zl_Wd g E z s H locs) (is : List Nat) (hn : va_nd is = true) (hs : is.map (fun i => E[i]?) = E'.map some) : zl_Wd g E' z s H locs := by
  obtain ⟨h1, h2, h3, h4⟩ := hW
  have hfm : is.filterMap (fun i => E[i]?) = E' := by
    have : (is.map (fun i => E[i]?)).filterMap id = (E'.map some).filterMap id := by rw [hs]
    simpa [List.filterMap_map] using this
  have hP := h1.E.sub is hfm
  have hD := h2.1.sub is hn hs
  refine ⟨h1.nil.mk hP, ⟨hD, fun k q hk => ?_⟩, h3, h4⟩
  have hm : q ∈ E' := List.mem_of_getElem? hk
  rw [← hfm] at hm
  obtain ⟨i, -, hi⟩ := List.mem_filterMap.mp hm
  exact h2.2 i q hi
/-- the builder's row of bytes has given place to the new one at the end -/
theorem je_swap {x y0 n0 : Nat × va_E} {E0 : va_W} (hW : zl_Wd g (x :: y0 :: (E0 ++ [n0])) z s H locs) : zl_Wd g (x :: n0 :: E0) z s H locs := by
  obtain ⟨h1, h2, h3, h4⟩ := hW
  have hm : ∀ (k : Nat) (q : Nat × va_E), (x :: n0 :: E0)[k]? = some q → (x :: y0 :: (E0 ++ [n0]))[if k = 0 then 0 else if k = 1 then E0.length + 2 else k]? = some q := by
    intro k q hk
    match k with
    | 0 => exact hk
    | 1 =>
      have hk : some n0 = some q := hk
      rw [if_neg (by decide), if_pos rfl]
      show (E0 ++ [n0])[E0.length]? = some q
      rw [List.getElem?_append_right (Nat.le_refl _), Nat.sub_self]
      exact hk
    | k + 2 =>
      have hk : E0[k]? = some q := hk
      rw [if_neg (by omega), if_neg (by omega)]
      show (E0 ++ [n0])[k]? = some q
      rw [List.getElem?_append_left (List.getElem?_eq_some_iff.mp hk).1]
      exact hk
  refine ⟨h1.nil.mk (h1.E.by _ hm), ⟨h2.1.by _ hm (fun i j hi hj e9 => ?_), fun k q hk => h2.2 _ q (hm k q hk)⟩, h3, h4⟩
  have hi : i < E0.length + 2 := hi
  have hj : j < E0.length + 2 := hj
  split at e9 <;> split at e9 <;> (try split at e9) <;> (try split at e9) <;> omega
theorem je_bast (hx : p.tables.exec = Jvm.exec) (hb : c.code = cc) (hW : zl_Wd g E z s H locs) (i : Nat) {a N : Nat} {f : Nat → Int32} (hE : E[i]? = some (a, .inl (sw_ac g 6, N, .inl f))) {k x : Int32} (hin : vp_in k N) (hdg : decode cc pc = .ok (.bastore, 1))
    (kk : ∀ (H : Heap) (locs : List Loc), zl_Wd g (E.set i (a, .inl (sw_ac g 6, N, .inl (upd f k.toNatClampNeg (vp_nar .byte x))))) z s H locs → W p l e R s m args below meth c H locs cells slots Q (F0 m (pc + 1) ls rest)) : W p l e R s m args below meth c H locs cells slots Q (F0 m pc ls (.int x :: .int k :: .ref a :: rest)) := by
  obtain ⟨M, hC, hG, hP⟩ := hW.1
  refine va_bast hx hb hW.2.2.2.1 hP (zl_D hW.2.2.2.2.1 hW.2.1 M) hW.2.2.1 (220 + i) 6 (zl_at hE) rfl hin hdg (fun H1 locs1 hP1 hD1 hS1 => ?_)
  rw [zl_setE] at hP1
  exact kk H1 locs1 ⟨⟨M, hC, hG, hP1⟩, zl_Eset hW.2.1 hE, hS1, hW.2.2.2⟩
theorem je_copy (hx : p.tables.exec = Jvm.exec) (hb : c.code = cc) (hml : c.maxLocals = nL) (hsz : ls.size = nL) (hown : s.vm.findClass own = some m.cls) (hts : ∀ w ∈ c0 :: sw_all, w.before args s = true) (q : Cond.methodLink own index arraycopyName ∈ sw_all) (qn : Cond.native arraycopyName ∈ sw_all) (qs : Cond.static arraycopyName ∈ sw_all) (qi : Cond.initialized "java/lang/System" ∈ sw_all) (hW : zl_Wd g E z s H locs) (i0 i1 : Nat) {a0 a1 n0 n1 : Nat} {f0 f1 : Nat → Int32} (h0 : E[i0]? = some (a0, .inl (sw_ac g 6, n0, .inl f0))) (h1 : E[i1]? = some (a1, .inl (sw_ac g 6, n1, .inl f1))) {sp dp k : Nat} (hk : sp + k ≤ n0 ∧ dp + k ≤ n1) (hb31 : sp + k < 2 ^ 31 ∧ dp + k < 2 ^ 31) (hfit : ∀ j, j < k → fits .byte (.int (f0 (sp + j))) = true)
    (hframes : 1 ≤ R.frames) (hlocals : (rest.map fun v => v.category).sum + 40 ≤ R.locals) (hdg : decode cc pc = .ok (.invokestatic index, 3))
    (kk : ∀ (H : Heap) (locs : List Loc), zl_Wd g (E.set i1 (a1, .inl (sw_ac g 6, n1, .inl (va_cpy f0 f1 sp dp k)))) z s H locs → W p l e R s m args below meth c H locs cells slots Q (F0 m (pc + 3) ls rest)) : W p l e R s m args below meth c H locs cells slots Q (F0 m pc ls (.int (nI k) :: .int (nI dp) :: .ref a1 :: .int (nI sp) :: .ref a0 :: rest)) := by
  obtain ⟨M, hC, hG, hP⟩ := hW.1
  have hw : nativeFrameWords "java/lang/System" "arraycopy" 5 + 11 ≤ 40 := by decide +kernel
  have e1 : (nI sp).toNatClampNeg = sp := nI_clamp (by omega)
  have e2 : (nI dp).toNatClampNeg = dp := nI_clamp (by omega)
  have e3 : (nI k).toNatClampNeg = k := nI_clamp (by omega)
  refine va_copyi hx hb (by rw [hml, hsz]) hown (sw_w hts q) (sw_w hts qn) (sw_w hts qs) (sw_w hts qi) hW.2.2.2.1 hP (zl_D hW.2.2.2.2.1 hW.2.1 M) hW.2.2.1 (220 + i0) (220 + i1) 6 6 (zl_at h0) (zl_at h1) rfl rfl rfl (nI_pos (by omega)) (nI_pos (by omega)) (nI_pos (by omega)) (by rw [e1, e3]; exact hk.1) (by rw [e2, e3]; exact hk.2) (by rw [e1, e3]; exact hfit) hframes (by omega) hdg (fun H1 locs1 hP1 hD1 hS1 => ?_)
  rw [zl_setE, e1, e2, e3] at hP1
  exact kk H1 locs1 ⟨⟨M, hC, hG, hP1⟩, zl_Eset hW.2.1 h1, hS1, hW.2.2.2⟩
theorem je_runS (hx : p.tables.exec = Jvm.exec) (hb : c.code = cc) (hml : c.maxLocals = nL) (hown : s.vm.findClass own = some m.cls) (hts : ∀ w ∈ c0 :: sw_all, w.before args s = true) (hM : Met l y (sw_ws y bytes maxL ret) rm (va_Pc As (zPe g E z)) Qc mc ms (sw_A g)) (hc : sw_cS y bytes maxL ret n) (q : Cond.methodLink own index y ∈ sw_all) (hrc : rm.cells = mc) (hrs : rm.slots = ms) (hR : rm.frames + 1 ≤ R.frames ∧ 8 + (maxL + 11) + rm.locals ≤ R.locals) (hW : zl_Wd g E z s H locs)
    (hn : As.length = n) (hsize : ls.size = nL) (hst : st0 = As.reverse ++ rest) (hroom : (rest.map fun v => v.category).sum ≤ 8) (hdg : decode cc pc = .ok (.invokestatic index, 3)) (hf : cells + mc ≤ R.cells ∧ slots + ms ≤ R.slots) : va_Run p l e R s m args below meth c H locs cells slots mc ms (F0 m pc ls st0) rest (Qc As.toArray) (sw_A g) :=
  va_runS ⟨hx, hb, hml, hown, hts⟩ hM (sw_cwS hts hc q hrc hrs hR) (je_preS hW As) rfl hn hsize hst (lv_room hroom) hdg hf
theorem je_runV (hx : p.tables.exec = Jvm.exec) (hb : c.code = cc) (hml : c.maxLocals = nL) (hown : s.vm.findClass own = some m.cls) (hts : ∀ w ∈ c0 :: sw_all, w.before args s = true) {i ci N a : Nat} {T : u_T} {fs : List Value} (hM : Met l y (sw_ws y bytes maxL ret) rm (va_Pc (.ref a :: As) (zPe g E z)) Qc mc ms (sw_A g)) (hc : sw_cV y C bytes maxL ret n) (q : Cond.methodLink own index y ∈ sw_all) (hrc : rm.cells = mc) (hrs : rm.slots = ms) (hR : rm.frames + 1 ≤ R.frames ∧ 8 + (maxL + 11) + rm.locals ≤ R.locals) (hW : zl_Wd g E z s H locs) (hE : E[i]? = some (a, .inr (ci, fs))) (hcl : sw_cl[ci]? = some (C, T, N))
    (hn : As.length = n) (hsize : ls.size = nL) (hst : st0 = As.reverse ++ .ref a :: rest) (hroom : (rest.map fun v => v.category).sum ≤ 8) (hdg : decode cc pc = .ok (.invokevirtual index, 3)) (hf : cells + mc ≤ R.cells ∧ slots + ms ≤ R.slots) : va_Run p l e R s m args below meth c H locs cells slots mc ms (F0 m pc ls st0) rest (Qc (Value.ref a :: As).toArray) (sw_A g) :=
  va_runV ⟨hx, hb, hml, hown, hts⟩ hM (sw_cwV hts hc q hrc hrs hR) (je_recv hW hE hcl As) rfl hn hsize hst (lv_room hroom) hdg hf
/-- a method of AbstractStringBuilder over a StringBuilder -/
def je_cU (x y : MethodName) (bytes : ByteArray) (maxL : Nat) (ret : Option FieldType) (n : Nat) : Prop :=
  Cond.sameMethod x.cls RJ5 x.name x.desc ∈ sw_all ∧ Cond.instanceMethod y ∈ sw_all ∧ Cond.initialized y.cls ∈ sw_all ∧ Cond.code y bytes maxL ret ∈ sw_all ∧ y = ⟨RJ5, x.name, x.desc⟩ ∧ (RJ5 ≠ "java/lang/invoke/MethodHandle" ∧ RJ5 ≠ "java/lang/invoke/VarHandle" ∧ (parseMethodDescriptor x.desc).map (fun d => d.parameters.length) = some n)
theorem je_runU (hx : p.tables.exec = Jvm.exec) (hb : c.code = cc) (hml : c.maxLocals = nL) (hown : s.vm.findClass own = some m.cls) (hts : ∀ w ∈ c0 :: sw_all, w.before args s = true) {x : MethodName} {i a : Nat} {fs : List Value} (hM : Met l y (sw_ws y bytes maxL ret) rm (va_Pc (.ref a :: As) (zPe g E z)) Qc mc ms (sw_A g)) (hc : je_cU x y bytes maxL ret n) (hsel : (Cond.selects RJ4 x y).before args s = true) (q : Cond.methodLink own index x ∈ sw_all) (hrc : rm.cells = mc) (hrs : rm.slots = ms) (hR : rm.frames + 1 ≤ R.frames ∧ 8 + (maxL + 11) + rm.locals ≤ R.locals) (hW : zl_Wd g E z s H locs) (hE : E[i]? = some (a, .inr (8, fs)))
    (hn : As.length = n) (hsize : ls.size = nL) (hst : st0 = As.reverse ++ .ref a :: rest) (hroom : (rest.map fun v => v.category).sum ≤ 8) (hdg : decode cc pc = .ok (.invokevirtual index, 3)) (hf : cells + mc ≤ R.cells ∧ slots + ms ≤ R.slots) : va_Run p l e R s m args below meth c H locs cells slots mc ms (F0 m pc ls st0) rest (Qc (Value.ref a :: As).toArray) (sw_A g) := by
  obtain ⟨q1, q2, q3, q4, hyx, hd⟩ := hc
  have hts2 : ∀ w ∈ Cond.selects RJ4 x y :: c0 :: sw_all, w.before args s = true := fun w hw => by
    rcases List.mem_cons.mp hw with rfl | hw
    · exact hsel
    · exact hts w hw
  have hG : GoodIn (Cond.selects RJ4 x y :: c0 :: sw_all) (va_wsU own index RJ4 RJ5 x y (sw_ws y bytes maxL ret)) := fun w hw => by
    have hgood : ∀ w ∈ sw_all, w ∈ Cond.selects RJ4 x y :: c0 :: sw_all ∧ ((w.onTables && w.keeps) = true ∨ ∃ ty, w = .arrayClass ty) := fun w hw => ⟨List.mem_cons_of_mem _ (List.mem_cons_of_mem _ hw), good_of_word (List.mem_filter.mp hw).2⟩
    simp only [va_wsU, List.mem_append, List.mem_cons, List.not_mem_nil, or_false] at hw
    rcases hw with (rfl | rfl | rfl | rfl | rfl) | rfl | hw
    · exact hgood _ q
    · exact hgood _ q1
    · exact ⟨List.mem_cons_self, good_of_word rfl⟩
    · exact hgood _ q2
    · exact hgood _ q3
    · exact hgood _ q4
    · exact hgood _ hw
  exact va_runU ⟨hx, hb, hml, hown, hts2⟩ hM (va_cwU n hts2 hG rfl hrc hrs hyx hd hR) (je_recv hW hE rfl As) rfl hn hsize hst (lv_room hroom) hdg hf
theorem je_sel {y : MethodName} (hts : ∀ w ∈ c0 :: sw_all, w.before args s = true) (hW : zl_Wd g E z s H locs) (hy : y.cls = RJ5) (h1 : Cond.privateMethod y ∈ lw_tbl) (h2 : Cond.instanceMethod y ∈ sw_all) (h3 : Cond.sameMethod RJ5 RJ5 y.name y.desc ∈ sw_all) : (Cond.selects RJ4 y y).before args s = true := by
  obtain ⟨c4, k4, hc4, -, -, -, -, -⟩ := Cond.instantiable_spec (sw_w hts qi_B)
  obtain ⟨mk, methM, hnamed, hmethM, -, -⟩ := Cond.instanceMethod_spec (sw_w hts h2)
  have hne : y.cls ≠ "java/lang/invoke/MethodHandle" ∧ y.cls ≠ "java/lang/invoke/VarHandle" := by rw [hy]; decide
  have hfound : s.methodFound? y.cls y.name y.desc = some mk := State.methodFound?_of_named hnamed hne
  have hsel : selectMethod {} s.vm c4 mk = .method mk := selectMethod_private hmethM (Cond.privateMethod_at (va_Nw.use (A := args) rfl (hW.2.2.2.2.2.2.2.2.2.2 _ h1 rfl)) mk methM hnamed hmethM)
  have hc5 := findClass_of_methodNamed hnamed
  have h3' := sw_w hts h3
  rw [hy] at hc5 hfound
  obtain ⟨-, k5, hk5, hi5⟩ := Cond.sameMethod_spec hc5 hfound h3'
  simp only [Cond.before, Cond.holds, Cond.value, hc4, hy, hfound, hnamed, hsel, hk5]
  simp; exact hi5
theorem je_ki {S : Type} {a : Array Value} {Q1 : Int32 → S → Prop} {Ef : S → va_W} (hr : va_Run p l e R s m args below meth c H locs cells slots mc ms (F0 m pc ls st0) rest (va_Qi Q1 (zQe g Ef z) (sw_A g) a) (sw_A g)) (hW : zl_Wd g E z s H locs)
    (kk : ∀ (r : Int32) (u : S) (H : Heap) (locs : List Loc), Q1 r u → zl_Wd g (Ef u) z s H locs → W p l e R s m args below meth c H locs (cells + mc) (slots + ms) Q (F0 m (pc + 3) ls (.int r :: rest))) : W p l e R s m args below meth c H locs cells slots Q (F0 m pc ls st0) :=
  va_calli hr hW.2.2.1 (fun q _ h => h) (fun q h => h) (fun r u t H1 locs1 ht hvm hw hB hz hk hS => kk r u H1 locs1 hw ⟨by rw [← ht]; exact hB.1, hB.2, hS, hW.2.2.2⟩)
theorem je_kv {S : Type} {a : Array Value} {Q1 : S → Prop} {Ef : S → va_W} (hr : va_Run p l e R s m args below meth c H locs cells slots mc ms (F0 m pc ls st0) rest (va_Qv Q1 (zQe g Ef z) (sw_A g) a) (sw_A g)) (hW : zl_Wd g E z s H locs)
    (kk : ∀ (u : S) (H : Heap) (locs : List Loc), Q1 u → zl_Wd g (Ef u) z s H locs → W p l e R s m args below meth c H locs (cells + mc) (slots + ms) Q (F0 m (pc + 3) ls rest)) : W p l e R s m args below meth c H locs cells slots Q (F0 m pc ls st0) :=
  va_callv hr hW.2.2.1 (fun q _ h => h) (fun q h => h) (fun u t H1 locs1 ht hvm hw hB hz hk hS => kk u H1 locs1 hw ⟨by rw [← ht]; exact hB.1, hB.2, hS, hW.2.2.2⟩)
/-- an answer that is an object: its address is part of what comes -/
abbrev je_Qr {S : Type} (g : sG) (Ef : S → va_W) (ad : S → Nat) (z : zG) (Q1 : S → Prop) : Array Value → State → Outcome → State → Prop := va_Qr Q1 (fun u a t => a = ad u ∧ zQe g Ef z u t) (sw_A g)
theorem je_kr {S : Type} {a : Array Value} {Q1 : S → Prop} {Ef : S → va_W} {ad : S → Nat} (hr : va_Run p l e R s m args below meth c H locs cells slots mc ms (F0 m pc ls st0) rest (je_Qr g Ef ad z Q1 a) (sw_A g)) (hW : zl_Wd g E z s H locs)
    (kk : ∀ (u : S) (H : Heap) (locs : List Loc), Q1 u → zl_Wd g (Ef u) z s H locs → W p l e R s m args below meth c H locs (cells + mc) (slots + ms) Q (F0 m (pc + 3) ls (.ref (ad u) :: rest))) : W p l e R s m args below meth c H locs cells slots Q (F0 m pc ls st0) :=
  va_callr hr hW.2.2.1 (fun q _ h => h) (fun q h => h) (fun u ra t H1 locs1 ht hvm hw hB hz hk hS => by
    rw [hB.1]
    exact kk u H1 locs1 hw ⟨by rw [← ht]; exact hB.2.1, hB.2.2, hS, hW.2.2.2⟩)
theorem je_ri {S : Type} {Ef : S → va_W} {Q1 : Int32 → S → Prop} (u : S) (hx : p.tables.exec = Jvm.exec) (hb : c.code = cc) {ty : FieldType} (hr : meth.sig.returnType = some ty) (hlocks : meth.locks = false) (hW : zl_Wd g (Ef u) z s H locs) {v : Int32} (hn : narrow ty (.int v) = .int v) (hq : Q1 v u) (hdg : decode cc pc = .ok (.ireturn, 1)) : W p l e R s m args below meth c H locs cells slots (MQ below (va_Qi Q1 (zQe g Ef z) (sw_A g)) args s cells slots (sw_A g)) (F0 m pc ls [.int v]) :=
  W.zret hx hb hr hn (fun t ht hW' => ⟨⟨v, u, rfl, hq, by show zl_H _ _ _ _; rw [ht]; exact hW.1, hW.2.1⟩, hW.2.2.1.F ht⟩) hW.2.2.1.2.2 hdg hlocks
theorem je_rv {S : Type} {Ef : S → va_W} {Q1 : S → Prop} (u : S) (hx : p.tables.exec = Jvm.exec) (hb : c.code = cc) (hr : meth.sig.returnType = none) (hlocks : meth.locks = false) (hW : zl_Wd g (Ef u) z s H locs) (hq : Q1 u) (hdg : decode cc pc = .ok (.return_, 1)) : W p l e R s m args below meth c H locs cells slots (MQ below (va_Qv Q1 (zQe g Ef z) (sw_A g)) args s cells slots (sw_A g)) (F0 m pc ls []) :=
  W.vret hx hb hr (fun t ht hW' => ⟨⟨u, rfl, hq, by show zl_H _ _ _ _; rw [ht]; exact hW.1, hW.2.1⟩, hW.2.2.1.F ht⟩) hW.2.2.1.2.2 hdg hlocks
theorem je_ra {S : Type} {Ef : S → va_W} {ad : S → Nat} {Q1 : S → Prop} (u : S) (hx : p.tables.exec = Jvm.exec) (hb : c.code = cc) {ty : FieldType} (hr : meth.sig.returnType = some ty) (hty : (∃ nm, ty = .object nm) ∨ ∃ e, ty = .array e) (hlocks : meth.locks = false) (hW : zl_Wd g (Ef u) z s H locs) (hq : Q1 u) {a : Nat} (ha : a = ad u) (hdg : decode cc pc = .ok (.areturn, 1)) : W p l e R s m args below meth c H locs cells slots (MQ below (je_Qr g Ef ad z Q1) args s cells slots (sw_A g)) (F0 m pc ls [.ref a]) :=
  W.aret hx hb hr hty (Or.inr ⟨_, rfl⟩) (fun t ht hW' => ⟨⟨u, a, rfl, hq, ha, by show zl_H _ _ _ _; rw [ht]; exact hW.1, hW.2.1⟩, hW.2.2.1.F ht⟩) hW.2.2.1.2.2 hdg hlocks
/-- a builder's own method through its class's upper one -/
def je_cSU (y : MethodName) (bytes : ByteArray) (maxL : Nat) (ret : Option FieldType) (n : Nat) : Prop :=
  Cond.sameMethod y.cls y.cls y.name y.desc ∈ sw_all ∧ Cond.superclass RJ4 y.cls ∈ sw_all ∧ Cond.instanceMethod y ∈ sw_all ∧ Cond.initialized y.cls ∈ sw_all ∧ Cond.code y bytes maxL ret ∈ sw_all ∧ (y.name ≠ "<init>" ∧ (parseMethodDescriptor y.desc).map (fun d => d.parameters.length) = some n)
theorem je_runSU (hx : p.tables.exec = Jvm.exec) (hb : c.code = cc) (hml : c.maxLocals = nL) (hown : s.vm.findClass RJ4 = some m.cls) (hts : ∀ w ∈ c0 :: sw_all, w.before args s = true) {i a : Nat} {fs : List Value} (hM : Met l y (sw_ws y bytes maxL ret) rm (va_Pc (.ref a :: As) (zPe g E z)) Qc mc ms (sw_A g)) (hc : je_cSU y bytes maxL ret n) (q : Cond.methodLink RJ4 index y ∈ sw_all) (hrc : rm.cells = mc) (hrs : rm.slots = ms) (hR : rm.frames + 1 ≤ R.frames ∧ 8 + (maxL + 11) + rm.locals ≤ R.locals) (hW : zl_Wd g E z s H locs) (hE : E[i]? = some (a, .inr (8, fs)))
    (hn : As.length = n) (hsize : ls.size = nL) (hst : st0 = As.reverse ++ .ref a :: rest) (hroom : (rest.map fun v => v.category).sum ≤ 8) (hdg : decode cc pc = .ok (.invokespecial index, 3)) (hf : cells + mc ≤ R.cells ∧ slots + ms ≤ R.slots) : va_Run p l e R s m args below meth c H locs cells slots mc ms (F0 m pc ls st0) rest (Qc (Value.ref a :: As).toArray) (sw_A g) := by
  obtain ⟨q1, q2, q3, q4, q5, hd⟩ := hc
  have hgood : ∀ w ∈ sw_all, w ∈ c0 :: sw_all ∧ ((w.onTables && w.keeps) = true ∨ ∃ ty, w = .arrayClass ty) := fun w hw => ⟨List.mem_cons_of_mem _ hw, good_of_word (List.mem_filter.mp hw).2⟩
  have hG : GoodIn (c0 :: sw_all) (va_wsSU RJ4 index y (sw_ws y bytes maxL ret)) := fun w hw => by
    simp only [va_wsSU, List.mem_append, List.mem_cons, List.not_mem_nil, or_false] at hw
    rcases hw with (rfl | rfl | rfl | rfl | rfl) | rfl | hw
    · exact hgood _ q
    · exact hgood _ q1
    · exact hgood _ q2
    · exact hgood _ q3
    · exact hgood _ q4
    · exact hgood _ q5
    · exact hgood _ hw
  exact va_runSU (hW.2.2.2.1.1 8 _ rfl).2 ⟨hx, hb, hml, hown, hts⟩ hM (va_cwSU n hts hG rfl hrc hrs hd hR) (je_recv hW hE rfl As) rfl hn hsize hst (lv_room hroom) hdg hf
end JE
