/-! multianewarray of two lengths, over int[][]: my own row. -/
/-- the outer array's places after i of them are filled -/
def mw_f (h i : Nat) : Nat → Value := fun j => if j < i then .ref (h + 1 + j) else .null
/-- the machine after i inner arrays -/
def mw_t (T : State) (cA cI : ClassId) (N K : Nat) : Nat → State
  | 0 => T.pushCell (arrV cA N (mw_f T.heap.size 0))
  | i + 1 => ((mw_t T cA cI N K i).pushCell (arrV cI K (fun _ => .int 0))).setCell T.heap.size (arrV cA N (mw_f T.heap.size (i + 1)))
theorem mw_fs (h i : Nat) : updV (mw_f h i) i (.ref (h + 1 + i)) = mw_f h (i + 1) := by
  funext j
  unfold updV mw_f
  by_cases e : j = i
  · subst e; simp
  · by_cases q : j < i
    · simp [e, q, show j < i + 1 by omega]
    · simp [e, q, show ¬ j < i + 1 by omega]
section MWT
variable (T : State) (cA cI : ClassId) (N K : Nat)
theorem mw_size : ∀ i, (mw_t T cA cI N K i).heap.size = T.heap.size + 1 + i
  | 0 => by simp [mw_t]
  | i + 1 => by
    have h := mw_size i
    simp only [mw_t, State.setCell]
    simp [h]; omega
theorem mw_vm : ∀ i, (mw_t T cA cI N K i).vm = T.vm
  | 0 => rfl
  | i + 1 => mw_vm i
theorem mw_used : ∀ i, (mw_t T cA cI N K i).slotsUsed = T.slotsUsed + N + i * K
  | 0 => by simp [mw_t, arrV_size]
  | i + 1 => by
    have h := mw_used i
    simp only [mw_t]
    simp [h, arrV_size, Nat.succ_mul]; omega
theorem mw_top (f : JFrame) : ∀ i, mw_t (T.setTop f) cA cI N K i = (mw_t T cA cI N K i).setTop f
  | 0 => rfl
  | i + 1 => by simp only [mw_t, mw_top f i, State.heap_setTop, State.pushCell_setTop, State.setCell_setTop]
theorem mw_out : ∀ i, (mw_t T cA cI N K i).heap[T.heap.size]? = some (arrV cA N (mw_f T.heap.size i))
  | 0 => by simp [mw_t]
  | i + 1 => by
    have hlt : T.heap.size < (mw_t T cA cI N K i).heap.size := by rw [mw_size]; omega
    have hb : ((mw_t T cA cI N K i).pushCell (arrV cI K (fun _ => .int 0))).heap[T.heap.size]? = some (arrV cA N (mw_f T.heap.size i)) := by rw [State.heap_pushCell_of_lt (h := hlt)]; exact mw_out i
    exact State.heap_setCell_self hb
theorem mw_old {q : Nat} (hq : q < T.heap.size) : ∀ i, (mw_t T cA cI N K i).heap[q]? = T.heap[q]?
  | 0 => State.heap_pushCell_of_lt _ _ hq
  | i + 1 => by
    have hlt : q < (mw_t T cA cI N K i).heap.size := by rw [mw_size]; omega
    show (((mw_t T cA cI N K i).pushCell (arrV cI K (fun _ => .int 0))).setCell T.heap.size _).heap[q]? = _
    rw [State.heap_setCell_other (Nat.ne_of_gt hq), State.heap_pushCell_of_lt (h := hlt)]
    exact mw_old hq i
theorem mw_in {j : Nat} : ∀ i, j < i → (mw_t T cA cI N K i).heap[T.heap.size + 1 + j]? = some (arrV cI K (fun _ => .int 0))
  | 0, h => absurd h (Nat.not_lt_zero _)
  | i + 1, h => by
    have hs := mw_size T cA cI N K i
    show (((mw_t T cA cI N K i).pushCell (arrV cI K (fun _ => .int 0))).setCell T.heap.size _).heap[T.heap.size + 1 + j]? = _
    rw [State.heap_setCell_other (show T.heap.size ≠ T.heap.size + 1 + j by omega)]
    rcases Nat.lt_or_ge j i with q | q
    · have hlt : T.heap.size + 1 + j < (mw_t T cA cI N K i).heap.size := by rw [hs]; omega
      rw [State.heap_pushCell_of_lt (h := hlt)]
      exact mw_in i q
    · have e : j = i := by omega
      subst e
      rw [← hs]
      exact State.heap_pushCell_size _ _
end MWT
section MWR
variable {p : Program} {l : Launch} {e : Env} {R : Room} {s : State} {m : MethodId} {args : Array Value} {below : List Frame} {meth : Method} {c : Code} {T : State} {H : Heap} {locs : List Loc} {cells slots : Nat} {Q : State → Prop}
theorem mw_stand (X : Stand p l e R s m args below meth c T locs cells slots) (cA cI : ClassId) (N K : Nat) : ∀ i, Stand p l e R s m args below meth c (mw_t T cA cI N K i) (locs ++ (List.range i).map fun j => ⟨T.heap.size, j⟩) (cells + 1 + i) (slots + N + i * K)
  | 0 => by
    have h := X.pushed (arrV cA N (mw_f T.heap.size 0))
    rw [arrV_size] at h
    simpa [mw_t] using h
  | i + 1 => by
    have Xi := mw_stand X cA cI N K i
    have hlt : T.heap.size < (mw_t T cA cI N K i).heap.size := by rw [mw_size]; omega
    have hcell : ((mw_t T cA cI N K i).pushCell (arrV cI K (fun _ => .int 0))).heap[T.heap.size]? = some (arrV cA N (mw_f T.heap.size i)) := by rw [State.heap_pushCell_of_lt (h := hlt)]; exact mw_out T cA cI N K i
    have h := (Xi.pushed (arrV cI K (fun _ => .int 0))).stored hcell i (.ref (T.heap.size + 1 + i))
    rw [arrV_size, arrV_store, mw_fs] at h
    have e2 : (locs ++ (List.range (i + 1)).map fun j => (⟨T.heap.size, j⟩ : Loc)) = (locs ++ (List.range i).map fun j => (⟨T.heap.size, j⟩ : Loc)) ++ [⟨T.heap.size, i⟩] := by simp [List.range_succ, List.append_assoc]
    rw [e2, show slots + N + (i + 1) * K = slots + N + i * K + K by rw [Nat.succ_mul]; omega]
    exact h
theorem mw_wp {E : CtlPost} {d : Bool} {acts : List Action} {cA cI c0 : ClassId} {kA kI : Class} {n k : Int32} {N K : Nat} (hN : n.toNatClampNeg = N) (hK : k.toNatClampNeg = K) (hn : ¬ n < 0) (hk : ¬ k < 0)
    (hkA : T.vm.classes[cA]? = some kA) (hkindA : kA.kind = .array cI (.array .int)) (hkI : T.vm.classes[cI]? = some kI) (hkindI : kI.kind = .array c0 .int)
    (l1 : ¬ N > e.platform.arrayLengthLimit) (l2 : ¬ K > e.platform.arrayLengthLimit) (b1 : ¬ N * 4 > e.platform.maxHeapBytes) (b2 : ¬ K * 4 > e.platform.maxHeapBytes)
    (hc : T.heap.size + 1 + N ≤ e.platform.maxCells) (hs : T.slotsUsed + N + N * K ≤ e.platform.maxSlots)
    {P : Addr → Pre} (hq : ∀ d' acts', P T.heap.size d' acts' (mw_t T cA cI N K N)) : wp (Jvm.Op.multianewarray.make cA [n, k]) P E e d acts T := by
  have hfind : ([k].find? (· < 0)) = none := by simp [hk]
  have hz : T.slotsUsed + N ≤ e.platform.maxSlots := by have := Nat.zero_le (N * K); omega
  rw [Jvm.Op.multianewarray.make]
  simp only [wp_bind', W.ite, hn, if_false, wp_pure', W.theClass, hkA, hkindA, Option.some.injEq, exists_eq_left', hN]
  refine W.newArray_of hkA hkindA l1 b1 (by omega) hz rfl (fun acts1 => ?_)
  have e0 : T.pushCell { cls := cA, slots := Array.replicate N .null } = mw_t T cA cI N K 0 := by
    show T.pushCell _ = T.pushCell _
    rw [show ({ cls := cA, slots := Array.replicate N .null } : Cell) = arrV cA N (fun _ => .null) from arrV_new cA N .null]
    rfl
  rw [e0]
  simp only [hfind]
  rw [ite_self, wp_bind', Std.Legacy.Range.forIn_eq_forIn_range']
  have hsz : ([:N] : Std.Legacy.Range).size = N := by simp [Std.Legacy.Range.size]
  rw [hsz]
  show wp (forIn (List.range' 0 N 1) PUnit.unit _) _ E e _ _ _
  refine wp_forIn_inv (fun rest s' => ∃ i, i ≤ N ∧ rest = List.range' i (N - i) ∧ s' = mw_t T cA cI N K i) _ _ ⟨0, Nat.zero_le _, rfl, rfl⟩ ?_ ?_
  · rintro x rest s' d' acts' Q' ⟨i, hi, hl, rfl⟩ hnext
    have hlt : i < N := by
      rcases Nat.lt_or_ge i N with h | h
      · exact h
      · rw [show N - i = 0 by omega] at hl; simp at hl
    rw [show N - i = (N - (i + 1)) + 1 by omega, List.range'_succ] at hl
    have hx : x = i := (List.cons.inj hl).1
    have hrest := (List.cons.inj hl).2
    subst hx
    have f1 := mw_size T cA cI N K x
    have f3 := mw_vm T cA cI N K x
    have f4 := mw_used T cA cI N K x
    have hmul : x * K + K ≤ N * K := by
      have := Nat.mul_le_mul_right K (show x + 1 ≤ N from hlt)
      rw [Nat.succ_mul] at this; exact this
    rw [wp_bind', Jvm.Op.multianewarray.make]
    simp only [wp_bind', W.ite, hk, if_false, wp_pure', W.theClass, f3, hkI, hkindI, Option.some.injEq, exists_eq_left', hK]
    refine W.newArray_of (by rw [f3]; exact hkI) hkindI l2 b2 (by omega) (by omega) rfl (fun acts2 => ?_)
    rw [show ({ cls := cI, slots := Array.replicate K (defaultValue .int) } : Cell) = arrV cI K (fun _ => .int 0) from arrV_new cI K (.int 0)]
    have hlt0 : T.heap.size < (mw_t T cA cI N K x).heap.size := by rw [f1]; omega
    simp only [wp_bind', W.writeLoc, wp_pure']
    refine ⟨arrV cA N (mw_f T.heap.size x), by rw [State.heap_pushCell_of_lt (h := hlt0)]; exact mw_out T cA cI N K x, (fun z => by cases z), by rw [arrV_size]; exact hlt, ?_, hnext _ _ _ ⟨x + 1, hlt, hrest, ?_⟩⟩
    · simp [arrV, State.fitsSlot, State.slotType?, f3, hkA, hkindA, fits]
    · rw [arrV_store, f1, mw_fs]; rfl
  · rintro s' d' acts' ⟨i, hi, hl, rfl⟩
    have hiN : i = N := by
      rcases Nat.lt_or_ge i N with h | h
      · rw [show N - i = (N - (i + 1)) + 1 by omega, List.range'_succ] at hl; cases hl
      · omega
    subst hiN
    simp only [wp_pure']
    exact hq _ _
end MWR
/-- what the tables say of int[][] -/
def zAI (s : State) : Prop := ∃ (cI cA : ClassId) (kA : Class), s.vm.findClass (FieldType.array .int).toString = some cI ∧ s.vm.classes[cA]? = some kA ∧ kA.kind = .array cI (.array .int) ∧ s.vm.findClass ("[" ++ (FieldType.array .int).toString) = some cA
theorem zAI.of {args : Array Value} {s : State} (h : (Cond.arrayOver (.array .int)).before args s = true) : zAI s := by
  obtain ⟨cI, cA, kA, hcI, -, hkA, hkindA, hnameA⟩ := arrayOverA_spec h
  exact ⟨cI, cA, kA, hcI, hkA, hkindA, hnameA⟩
theorem zAI.moved {u U : State} (hvm : u.vm.Alike U.vm) (h : zAI u) : zAI U := by
  obtain ⟨cI, cA, kA, h1, h2, h3, h4⟩ := h
  obtain ⟨k', hk', he⟩ := hvm.2.2 _ _ h2
  exact ⟨cI, cA, k', by rw [hvm.findClass]; exact h1, hk', by rw [he]; exact h3, by rw [hvm.findClass]; exact h4⟩
section MWW
variable {p : Program} {l : Launch} {e : Env} {R : Room} {s : State} {m : MethodId} {args : Array Value} {below : List Frame} {meth : Method} {c : Code} {H : Heap} {locs : List Loc} {cells slots : Nat} {Q : State → Prop}
theorem mw_row {cc : ByteArray} (hexec : p.tables.exec = Jvm.exec) (hb : c.code = cc) {own : String} {index : Nat} (hown : s.vm.findClass own = some m.cls) (hclink : (Cond.classLink own index "[[I").before args s = true) (hover : zAI s) (harr : (Cond.arrayClass .int).before args s = true)
    {g : JFrame} (hg : g.method = m) (hdg : decode cc g.pc = .ok (.multianewarray index 2, 4)) {n k : Int32} {N K : Nat} (hN : n.toNatClampNeg = N) (hK : k.toNatClampNeg = K) {rest : List Value} (hstack : g.stack = .int k :: .int n :: rest) (hn : ¬ n < 0) (hk : ¬ k < 0) (hb1 : N ≤ 1000) (hb2 : K ≤ 1000)
    (hcells : cells + (1 + N) ≤ R.cells) (hslots : slots + (N + N * K) ≤ R.slots)
    (kk : ∀ (cA cI : ClassId) (H1 : Heap), va_RA s cA (.array .int) → va_RA s cI .int → ArrOfT s cA (.array .int) → ArrOfT s cI .int → H1.size = H.size + 1 + N → (∀ q, q < H.size → H1[q]? = H[q]?) → H1[H.size]? = some (arrV cA N (fun j => .ref (H.size + 1 + j))) → (∀ j, j < N → H1[H.size + 1 + j]? = some (arrV cI K (fun _ => .int 0))) →
      W p l e R s m args below meth c H1 (locs ++ (List.range N).map fun j => ⟨H.size, j⟩) (cells + 1 + N) (slots + N + N * K) Q { g with pc := g.pc + 4, stack := .ref H.size :: rest }) : W p l e R s m args below meth c H locs cells slots Q g := by
  intro T hT X
  subst hT; subst hb; subst hg
  have hpl : e.platform.magicAccessors = ({} : Platform).magicAccessors := by rw [X.admits.platform]
  obtain ⟨cI, cA, kA, hcI, hkA, hkindA, hnameA⟩ := hover
  obtain ⟨cI', kI, c0, hcI', hkI, hkindI⟩ := Cond.arrayClass_spec harr
  have eI : cI' = cI := Option.some.inj (hcI'.symm.trans hcI)
  subst eI
  obtain ⟨c1, hfc1, hcl⟩ := Cond.classLink_spec hown hclink e.platform hpl
  cases hnameA.symm.trans hfc1
  obtain ⟨hg1, hwarm, hready⟩ := State.classEntry (e := e) X.warmed hcl
  generalize T.vm.noted g.method.cls index (.cls cA) = vm1 at hg1 hwarm hready
  have hal : s.vm.Alike vm1 := hwarm.alike
  obtain ⟨kA1, hkA1, heA⟩ := hal.2.2 _ _ hkA
  obtain ⟨kI1, hkI1, heI⟩ := hal.2.2 _ _ hkI
  have hkindA1 : kA1.kind = .array cI' (.array .int) := by rw [heA]; exact hkindA
  have hkindI1 : kI1.kind = .array c0 .int := by rw [heI]; exact hkindI
  have X1 := X.noted hwarm
  have XF := mw_stand X1 cA cI' N K N
  obtain ⟨hr1, hr2⟩ := X.roomAbove hcells hslots
  have aA : ArrOfT s cA (.array .int) := fun N0 f0 => ⟨(fun k h => by cases h), kA, hkA, cI', hkindA⟩
  have aI : ArrOfT s cI' .int := fun N0 f0 => ⟨(fun k h => by cases h), kI, hkI, c0, hkindI⟩
  have hs1 : ((T.setVm vm1)).heap.size = T.heap.size := rfl
  have ho : (mw_t (T.setVm vm1) cA cI' N K N).heap[T.heap.size]? = some (arrV cA N (fun j => .ref (T.heap.size + 1 + j))) := by
    have q := mw_out (T.setVm vm1) cA cI' N K N
    rw [hs1] at q
    rw [q]
    congr 1
    unfold arrV
    congr 1
    refine congrArg Array.ofFn (funext fun j => ?_)
    unfold mw_f
    rw [if_pos j.isLt]
  obtain ⟨t, a1, b1⟩ := kk cA cI' (mw_t (T.setVm vm1) cA cI' N K N).heap hnameA hcI' aA aI (mw_size (T.setVm vm1) cA cI' N K N) (fun q hq => mw_old (T.setVm vm1) cA cI' N K hq N) ho (fun j hj => mw_in (T.setVm vm1) cA cI' N K N hj) _ rfl XF
  refine ⟨t, ?_, b1⟩
  have l1 : ¬ N > e.platform.arrayLengthLimit := by rw [Launch.admits_arrayLengthLimit X.admits]; omega
  have l2 : ¬ K > e.platform.arrayLengthLimit := by rw [Launch.admits_arrayLengthLimit X.admits]; omega
  have b1' : ¬ N * 4 > e.platform.maxHeapBytes := by rw [Launch.admits_maxHeapBytes X.admits]; omega
  have b2' : ¬ K * 4 > e.platform.maxHeapBytes := by rw [Launch.admits_maxHeapBytes X.admits]; omega
  jvm_step X.here [hexec, hdg]
  simp only [Jvm.Op.multianewarray.sem, wp_bind', W.resolveClassAt_links (State.method?_setTop g X.here.top) hg1]
  rw [W.popN, if_neg (by decide)]
  refine ⟨g, State.topJava?_setTop' (s := T.setVm vm1) g X.here.top, [.int n, .int k], rest, rfl, hstack, ?_⟩
  simp only [List.mapM_cons, List.mapM_nil, wp_bind', wp_pure']
  have eS : ((T.setTop g).setVm vm1).setTop { g with stack := rest } = (T.setVm vm1).setTop { g with stack := rest } := by
    show ((T.setVm vm1).setTop g).setTop _ = _
    rw [State.setTop_setTop]
  rw [eS]
  refine mw_wp (kA := kA1) (kI := kI1) (c0 := c0) hN hK hn hk hkA1 hkindA1 hkI1 hkindI1 l1 l2 b1' b2' (by show T.heap.size + 1 + _ ≤ _; omega) (by show T.slotsUsed + _ + _ ≤ _; omega) (fun d' acts' => ?_)
  rw [mw_top]
  simp only [wp_bind', W.mark, W.pushRef, State.topJava?_setTop' _ XF.here.top, Option.some.injEq, exists_eq_left', State.setTop_setTop, State.heap_setTop]
  intro acts
  simp [jvm, XF.here.top]
  exact a1
end MWW
