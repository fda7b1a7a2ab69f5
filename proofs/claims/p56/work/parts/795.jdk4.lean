/-! Strings: read, appended, made. -/
theorem zcpy {t x : List Nat} {f0 : Nat → Int32} (h : ∀ j, j < x.length → f0 j = nI (x.getD j 0)) (j : Nat) : va_cpy f0 (fun j => nI (t.getD j 0)) 0 t.length x.length j = nI ((t ++ x).getD j 0) := by
  unfold va_cpy
  rw [zget_app]
  by_cases h1 : j < t.length
  · rw [if_neg (by omega), if_pos h1]
  · rw [if_neg h1]
    by_cases h2 : j < t.length + x.length
    · rw [if_pos ⟨by omega, h2⟩, Nat.zero_add, h _ (by omega)]
    · rw [if_neg (by omega)]
      show nI (t.getD j 0) = _
      rw [zgetD0 (t := t) (by omega), zgetD0 (t := x) (by omega)]
theorem zsb_at {i : Nat} (hi : i < 18) (j : Nat) : (sw_sb i).getD j 0 = nI ((zsb i).getD j 0) := by
  rw [sb_eq i hi]
  simp only [List.getD, List.getElem?_map]
  cases (zsb i)[j]? <;> rfl
theorem zsb_lat : ∀ i, i < 18 → ∀ c ∈ zsb i, c < 128 := by decide +kernel
theorem zsb_sblen {i : Nat} (hi : i < 18) : (sw_sb i).length = (zsb i).length := by rw [sb_eq i hi, List.length_map]
theorem zlat.app {t x : List Nat} (h : zlat t) (h2 : zlat x) : zlat (t ++ x) := fun c hc => by
  rcases List.mem_append.mp hc with h1 | h1
  · exact h c h1
  · exact h2 c h1
section JF
variable {p : Program} {l : Launch} {e : Env} {R : Room} {s : State} {m : MethodId} {args : Array Value} {below : List Frame} {meth : Method} {c : Code} {H : Heap} {locs : List Loc} {cells slots : Nat} {Q : State → Prop}
variable {cc : ByteArray} {pc : Nat} {ls : Array Slot} {rest st0 : List Value} {g : sG} {E : va_W} {z : zG} {c0 : Cond}
variable {y : MethodName} {bytes : ByteArray} {maxL nL mc ms n index : Nat} {ret : Option FieldType} {rm : Room} {own C : String} {As : List Value} {Qc : Array Value → State → Outcome → State → Prop}
theorem je_preVs (hW : zl_Wd g E z s H locs) {t : Nat} (ht : t < 18) (As : List Value) : PreV s H RJ0 (sw_sk g t) (va_Pc (.ref (sw_sk g t) :: As) (zPe g E z)) As := by
  refine ⟨zPe.blind, ?_, fun U hU hWm => ⟨rfl, hW.pe hU hWm⟩⟩
  obtain ⟨cell, h1, h2, h3, -⟩ := (hW.2.2.2.2.2.2.2.2.2.1 t ht).1.kept hW.2.2.1.2.1
  exact ⟨cell, h1, h2, h3⟩
theorem je_runVs (hx : p.tables.exec = Jvm.exec) (hb : c.code = cc) (hml : c.maxLocals = nL) (hown : s.vm.findClass own = some m.cls) (hts : ∀ w ∈ c0 :: sw_all, w.before args s = true) {t : Nat} (hM : Met l y (sw_ws y bytes maxL ret) rm (va_Pc (.ref (sw_sk g t) :: As) (zPe g E z)) Qc mc ms (sw_A g)) (hc : sw_cV y RJ0 bytes maxL ret n) (q : Cond.methodLink own index y ∈ sw_all) (hrc : rm.cells = mc) (hrs : rm.slots = ms) (hR : rm.frames + 1 ≤ R.frames ∧ 8 + (maxL + 11) + rm.locals ≤ R.locals) (hW : zl_Wd g E z s H locs) (ht : t < 18)
    (hn : As.length = n) (hsize : ls.size = nL) (hst : st0 = As.reverse ++ .ref (sw_sk g t) :: rest) (hroom : (rest.map fun v => v.category).sum ≤ 8) (hdg : decode cc pc = .ok (.invokevirtual index, 3)) (hf : cells + mc ≤ R.cells ∧ slots + ms ≤ R.slots) : va_Run p l e R s m args below meth c H locs cells slots mc ms (F0 m pc ls st0) rest (Qc (Value.ref (sw_sk g t) :: As).toArray) (sw_A g) :=
  va_runV ⟨hx, hb, hml, hown, hts⟩ hM (sw_cwV hts hc q hrc hrs hR) (je_preVs hW ht As) rfl hn hsize hst (lv_room hroom) hdg hf
theorem je_copyt (hx : p.tables.exec = Jvm.exec) (hb : c.code = cc) (hml : c.maxLocals = nL) (hsz : ls.size = nL) (hown : s.vm.findClass own = some m.cls) (hts : ∀ w ∈ c0 :: sw_all, w.before args s = true) (q : Cond.methodLink own index arraycopyName ∈ sw_all) (qn : Cond.native arraycopyName ∈ sw_all) (qs : Cond.static arraycopyName ∈ sw_all) (qi : Cond.initialized "java/lang/System" ∈ sw_all) (hW : zl_Wd g E z s H locs) {i : Nat} (hi : i < 18) (i1 : Nat) {a1 n1 : Nat} {f1 : Nat → Int32} (h1 : E[i1]? = some (a1, .inl (sw_ac g 6, n1, .inl f1))) {dp : Nat} (hk : dp + (zsb i).length ≤ n1) (hb31 : dp < 2 ^ 31)
    (hframes : 1 ≤ R.frames) (hlocals : (rest.map fun v => v.category).sum + 40 ≤ R.locals) (hdg : decode cc pc = .ok (.invokestatic index, 3))
    (kk : ∀ (H : Heap) (locs : List Loc), zl_Wd g (E.set i1 (a1, .inl (sw_ac g 6, n1, .inl (va_cpy (fun j => (sw_sb i).getD j 0) f1 0 dp (zsb i).length)))) z s H locs → W p l e R s m args below meth c H locs cells slots Q (F0 m (pc + 3) ls rest)) : W p l e R s m args below meth c H locs cells slots Q (F0 m pc ls (.int (nI (zsb i).length) :: .int (nI dp) :: .ref a1 :: .int (0 : Int32) :: .ref (sw_sv g i) :: rest)) := by
  obtain ⟨M, hC, hG, hP⟩ := hW.1
  have hw : nativeFrameWords "java/lang/System" "arraycopy" 5 + 11 ≤ 40 := by decide +kernel
  have h16 := zsb_16 i hi
  have e1 : ((0 : Int32)).toNatClampNeg = 0 := rfl
  have e2 : (nI dp).toNatClampNeg = dp := nI_clamp (by omega)
  have e3 : (nI (zsb i).length).toNatClampNeg = (zsb i).length := nI_clamp (by omega)
  have hfit : ∀ j : Nat, fits .byte (.int ((sw_sb i).getD j 0)) = true := fun j => by
    rw [zsb_at hi]
    exact zfit (zlat.at (zsb_lat i hi) j)
  refine vk_copyt (b0 := sw_sv g i) hx hb (by rw [hml, hsz]) hown (sw_w hts q) (sw_w hts qn) (sw_w hts qs) (sw_w hts qi) hW.2.2.2.1 hP (zl_D hW.2.2.2.2.1 hW.2.1 M) hW.2.2.1 (hW.2.2.2.2.2.2.2.2.2.1 i hi).2.2.2.1 (220 + i1) 6 (zl_at h1) rfl (by decide) (nI_pos (by omega)) (nI_pos (by omega)) (by rw [e1, e3, zsb_sblen hi]; omega) (by rw [e2, e3]; exact hk) (fun j _ => hfit _) hframes (by omega) hdg (fun H1 locs1 hP1 hD1 hS1 => ?_)
  rw [zl_setE, e1, e2, e3] at hP1
  exact kk H1 locs1 ⟨⟨M, hC, hG, hP1⟩, zl_Eset hW.2.1 h1, hS1, hW.2.2.2⟩
theorem zl_ofD {M : sM} {q : Nat} {x : va_E} (hg : sw_in g) (hE : zl_E g E) (hD : va_D (sw_A g) (sw_W g M ++ E ++ [(q, x)])) : zl_E g (E ++ [(q, x)]) := by
  have hlast : (sw_W g M ++ E ++ [(q, x)])[220 + E.length]? = some (q, x) := by
    rw [List.getElem?_append_right (by rw [List.length_append, sw_W_len]; omega), List.length_append, sw_W_len, Nat.sub_self]; rfl
  have hnf : ¬ sw_fx g q := fun ⟨k9, h9, e9⟩ => by
    have h8 := sw_pl_lt h9
    have h6 := sw_W_get g M h9
    have h7 := (show (sw_W g M ++ (E ++ [(q, x)]))[sw_pl k9]? = (sw_W g M)[sw_pl k9]? from List.getElem?_append_left (by rw [sw_W_len]; exact h8)).trans h6
    rw [← List.append_assoc] at h7
    have := hD.1 _ _ _ _ h7 hlast e9.symm
    omega
  have hq : sw_A g q := hD.2 _ _ hlast
  refine ⟨⟨fun i j p9 q9 hi hj e9 => ?_, fun _ _ _ => trivial⟩, fun k9 x9 hk9 => ?_⟩
  · have h := hD.1 (220 + i) (220 + j) p9 q9 (by rw [List.append_assoc]; exact zl_at hi) (by rw [List.append_assoc]; exact zl_at hj) e9
    omega
  · rcases Nat.lt_or_ge k9 E.length with h8 | h8
    · rw [List.getElem?_append_left h8] at hk9
      exact hE.2 k9 x9 hk9
    · rw [List.getElem?_append_right h8] at hk9
      have q1 : k9 - E.length < 1 := (List.getElem?_eq_some_iff.mp hk9).1
      have q2 : k9 - E.length = 0 := by omega
      rw [q2] at hk9
      cases hk9
      exact ⟨hnf, hq.resolve_right hnf⟩
theorem je_clone (hx : p.tables.exec = Jvm.exec) (hb : c.code = cc) (hml : c.maxLocals = nL) (hsz : ls.size = nL) (hown : s.vm.findClass own = some m.cls) (hts : ∀ w ∈ c0 :: sw_all, w.before args s = true) (q : Cond.methodLink own index ⟨"[B", "clone", "()Ljava/lang/Object;"⟩ ∈ sw_all) (qn : Cond.native ⟨"java/lang/Object", "clone", "()Ljava/lang/Object;"⟩ ∈ sw_all) (qi : Cond.instanceMethod ⟨"java/lang/Object", "clone", "()Ljava/lang/Object;"⟩ ∈ sw_all) (qsel : Cond.selects "[B" ⟨"[B", "clone", "()Ljava/lang/Object;"⟩ ⟨"java/lang/Object", "clone", "()Ljava/lang/Object;"⟩ ∈ sw_all) (hW : zl_Wd g E z s H locs) (i : Nat) {a N : Nat} {f : Nat → Int32} (hE : E[i]? = some (a, .inl (sw_ac g 6, N, .inl f))) (hnm : s.vm.findClass "[B" = some (sw_ac g 6)) (hfit : ∀ j, fits .byte (.int (f j)) = true)
    (hframes : 1 ≤ R.frames) (hlocals : (rest.map fun v => v.category).sum + 14 ≤ R.locals) (hcells : cells + 1 ≤ R.cells) (hslots : slots + N ≤ R.slots) (hdg : decode cc pc = .ok (.invokevirtual index, 3))
    (kk : ∀ (q9 : Nat) (H : Heap), zl_Wd g (E ++ [(q9, .inl (sw_ac g 6, N, .inl f))]) z s H locs → W p l e R s m args below meth c H locs (cells + 1) (slots + N) Q (F0 m (pc + 3) ls (.ref q9 :: rest))) : W p l e R s m args below meth c H locs cells slots Q (F0 m pc ls (.ref a :: rest)) := by
  obtain ⟨M, hC, hG, hP⟩ := hW.1
  refine va_clone (x := (N, .inl f)) hx hb (by rw [hml, hsz]) hown (sw_w hts q) (sw_w hts qs_clone) (sw_w hts qn) (sw_w hts qi) (sw_w hts qsel) (hW.2.2.2.2.2.2.2.2.2.2 _ qk_clone rfl) hW.2.2.2.1 hP (zl_D hW.2.2.2.2.1 hW.2.1 M) hW.2.2.1 (fun q9 h9 => Or.inl (Nat.le_trans hW.2.2.2.2.2.1 h9)) (220 + i) 6 (zl_at hE) rfl hnm (fun j v hj => ?_) hframes hlocals hcells hslots hdg (fun q9 H1 hK1 hP1 hD1 hS1 => ?_)
  · rw [vp_cell_i] at hj
    have h1 : j < (arrV (sw_ac g 6) N (fun j => Value.int (f j))).slots.size := (Array.getElem?_eq_some_iff.mp hj).1
    have h2 : j < N := by rw [arrV_size] at h1; exact h1
    rw [arrV_read _ _ h2] at hj
    cases hj
    exact hfit j
  · exact kk q9 H1 ⟨⟨M, hC, hG, by rw [← List.append_assoc]; exact hP1⟩, zl_ofD hW.2.2.2.2.1 hW.2.1 hD1, hS1, hW.2.2.2⟩
theorem je_new (hx : p.tables.exec = Jvm.exec) (hb : c.code = cc) {T : u_T} {N ci : Nat} (hts : ∀ w ∈ c0 :: sw_all, w.before args s = true) (hown : s.vm.findClass own = some m.cls) (hin : ∀ w ∈ u_ws C T N, w ∈ sw_all) (ty0 : Nat → FieldType) (hty : ∀ k, k < N → parseFieldDescriptor (T k).2.2.1 = some (ty0 k)) (hc : sw_cl[ci]? = some (C, T, N)) (hcl : Cond.classLink own index C ∈ sw_all) (hinst : Cond.instantiable C N ∈ sw_all) (hini : Cond.initialized C ∈ sw_all) (hW : zl_Wd g E z s H locs) {fs : List Value} (hfs : ∀ j, j < N → defaultValue (ty0 j) = vp_V fs j) (hcells : cells + 1 ≤ R.cells) (hslots : slots + N ≤ R.slots) (hdg : decode cc pc = .ok (.new index, 3))
    (kk : ∀ (q : Nat) (H : Heap), zl_Wd g (E ++ [(q, .inr (ci, fs))]) z s H locs → W p l e R s m args below meth c H locs (cells + 1) (slots + N) Q (F0 m (pc + 3) ls (.ref q :: rest))) : W p l e R s m args below meth c H locs cells slots Q (F0 m pc ls rest) := by
  obtain ⟨M, hC, hG, hP⟩ := hW.1
  exact va_new hx hb hts (fun w h => List.mem_cons_of_mem _ (hin w h)) ty0 hty hown (sw_w hts hcl) (sw_w hts hinst) (sw_w hts hini) hW.2.2.2.1 hP (zl_D hW.2.2.2.2.1 hW.2.1 M) hW.2.2.1 (fun q9 h9 => Or.inl (Nat.le_trans hW.2.2.2.2.2.1 h9)) hc hfs hcells hslots hdg (fun q9 H1 hP1 hD1 hS1 => kk q9 H1 ⟨⟨M, hC, hG, by rw [← List.append_assoc]; exact hP1⟩, zl_ofD hW.2.2.2.2.1 hW.2.1 hD1, hS1, hW.2.2.2⟩)
def je_cI (y : MethodName) (bytes : ByteArray) (maxL n : Nat) : Prop :=
  Cond.instanceMethod y ∈ sw_all ∧ Cond.initialized y.cls ∈ sw_all ∧ Cond.code y bytes maxL none ∈ sw_all ∧ y.name = "<init>" ∧ (y.cls ≠ "java/lang/invoke/MethodHandle" ∧ y.cls ≠ "java/lang/invoke/VarHandle" ∧ (parseMethodDescriptor y.desc).map (fun d => d.parameters.length) = some n)
theorem je_runI (hx : p.tables.exec = Jvm.exec) (hb : c.code = cc) (hml : c.maxLocals = nL) (hown : s.vm.findClass own = some m.cls) (hts : ∀ w ∈ c0 :: sw_all, w.before args s = true) {a : Nat} (hM : Met l y (sw_ws y bytes maxL none) rm (va_Pc (.ref a :: As) (zPe g E z)) Qc mc ms (sw_A g)) (hc : je_cI y bytes maxL n) (hlk : Cond.methodLink own index y ∈ sw_all) (hrc : rm.cells = mc) (hrs : rm.slots = ms) (hR : rm.frames + 1 ≤ R.frames ∧ 8 + (maxL + 11) + rm.locals ≤ R.locals) (hW : zl_Wd g E z s H locs)
    (hn : As.length = n) (hsize : ls.size = nL) (hst : st0 = As.reverse ++ .ref a :: rest) (hroom : (rest.map fun v => v.category).sum ≤ 8) (hdg : decode cc pc = .ok (.invokespecial index, 3)) (hf : cells + mc ≤ R.cells ∧ slots + ms ≤ R.slots) : va_Run p l e R s m args below meth c H locs cells slots mc ms (F0 m pc ls st0) rest (Qc (Value.ref a :: As).toArray) (sw_A g) := by
  obtain ⟨q1, q2, q3, hy1, hd⟩ := hc
  have cw := cwI (R := R) (index := index) (own := own) (mc := mc) (ms := ms) (rm := rm) n hts (sw_goodIn (c0 := c0) (ws := sw_ws y bytes maxL none) (fun w hw => by
    rcases List.mem_cons.mp hw with rfl | hw
    · exact q3
    · exact hw)) rfl hrc hrs (sw_w hts q2) (sw_w hts hlk) (sw_w hts q1) hy1 hd hR
  exact va_runI ⟨hx, hb, hml, hown, hts⟩ hM cw (je_preS hW (.ref a :: As)) rfl hn hsize hst (lv_room hroom) hdg hf
/-- what came last goes ahead -/
theorem je_mv0 {E1 : va_W} {n0 : Nat × va_E} (hW : zl_Wd g (E1 ++ [n0]) z s H locs) : zl_Wd g (n0 :: E1) z s H locs := by
  obtain ⟨h1, h2, h3, h4⟩ := hW
  have hm : ∀ (k : Nat) (q : Nat × va_E), (n0 :: E1)[k]? = some q → (E1 ++ [n0])[if k = 0 then E1.length else k - 1]? = some q := by
    intro k q hk
    match k with
    | 0 =>
      rw [if_pos rfl, List.getElem?_append_right (Nat.le_refl _), Nat.sub_self]
      exact hk
    | k + 1 =>
      have hk : E1[k]? = some q := hk
      rw [if_neg (by omega), Nat.add_sub_cancel, List.getElem?_append_left (List.getElem?_eq_some_iff.mp hk).1]
      exact hk
  refine ⟨h1.nil.mk (h1.E.by _ hm), ⟨h2.1.by _ hm (fun i j hi hj e9 => ?_), fun k q hk => h2.2 _ q (hm k q hk)⟩, h3, h4⟩
  have hi : i < E1.length + 1 := hi
  have hj : j < E1.length + 1 := hj
  split at e9 <;> split at e9 <;> omega
theorem je_mv1 {E1 : va_W} {x n0 : Nat × va_E} (hW : zl_Wd g (x :: (E1 ++ [n0])) z s H locs) : zl_Wd g (x :: n0 :: E1) z s H locs := by
  obtain ⟨h1, h2, h3, h4⟩ := hW
  have hm : ∀ (k : Nat) (q : Nat × va_E), (x :: n0 :: E1)[k]? = some q → (x :: (E1 ++ [n0]))[if k = 0 then 0 else if k = 1 then E1.length + 1 else k - 1]? = some q := by
    intro k q hk
    match k with
    | 0 => exact hk
    | 1 =>
      rw [if_neg (by decide), if_pos rfl]
      show (E1 ++ [n0])[E1.length]? = some q
      rw [List.getElem?_append_right (Nat.le_refl _), Nat.sub_self]
      exact hk
    | k + 2 =>
      have hk : E1[k]? = some q := hk
      rw [if_neg (by omega), if_neg (by omega)]
      show (E1 ++ [n0])[k]? = some q
      rw [List.getElem?_append_left (List.getElem?_eq_some_iff.mp hk).1]
      exact hk
  refine ⟨h1.nil.mk (h1.E.by _ hm), ⟨h2.1.by _ hm (fun i j hi hj e9 => ?_), fun k q hk => h2.2 _ q (hm k q hk)⟩, h3, h4⟩
  have hi : i < E1.length + 2 := hi
  have hj : j < E1.length + 2 := hj
  split at e9 <;> split at e9 <;> (try split at e9) <;> (try split at e9) <;> omega
theorem je_drop2 {E1 : va_W} {x y0 c2 d : Nat × va_E} (hW : zl_Wd g (x :: y0 :: c2 :: d :: E1) z s H locs) : zl_Wd g (x :: y0 :: E1) z s H locs := by
  obtain ⟨h1, h2, h3, h4⟩ := hW
  have hm : ∀ (k : Nat) (q : Nat × va_E), (x :: y0 :: E1)[k]? = some q → (x :: y0 :: c2 :: d :: E1)[if k < 2 then k else k + 2]? = some q := by
    intro k q hk
    match k with
    | 0 => exact hk
    | 1 => exact hk
    | k + 2 =>
      rw [if_neg (by omega)]
      exact hk
  refine ⟨h1.nil.mk (h1.E.by _ hm), ⟨h2.1.by _ hm (fun i j hi hj e9 => ?_), fun k q hk => h2.2 _ q (hm k q hk)⟩, h3, h4⟩
  split at e9 <;> split at e9 <;> omega
end JF
