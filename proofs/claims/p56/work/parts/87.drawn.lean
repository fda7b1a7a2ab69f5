/-! The drawn academy. -/
/-- what is fixed, whatever cells the class's objects will have -/
def zF0 (n : Nat) (D : va_G) (ac : Nat → ClassId) (sk sv : Nat → Nat) (U : State) (H : Heap) : Prop := ∀ g : sG, g.1 = n → sw_ac g = ac → sw_D g = D → sw_sk g = sk → sw_sv g = sv → (∀ k, sw_vk k → n ≤ sw_ad g k) → sw_in g → sw_F g U H
def zSt (n : Nat) (D : va_G) (ac : Nat → ClassId) (sk sv : Nat → Nat) (b L : Nat) (xs : Nat → Int32) (U : State) : Prop := U.heap.size = n ∧ (va_K D sw_cl (zty ac) U ∧ zAI U ∧ va_AO RX5 U ∧ zNs U) ∧ zF0 n D ac sk sv U U.heap ∧ va_X b L xs U U.heap ∧ b < n
theorem zSt.go {n : Nat} {D : va_G} {ac : Nat → ClassId} {sk sv : Nat → Nat} {b L : Nat} {xs : Nat → Int32} {s U : State} (h : zSt n D ac sk sv b L xs s) (hU : U.heap = s.heap) (hW : s.WarmedH U.vm) : zSt n D ac sk sv b L xs U := by
  obtain ⟨h1, ⟨h2, h3, h4, h5⟩, h6, h7, h8⟩ := h
  refine ⟨by rw [hU]; exact h1, ⟨h2.moved hW.alike, h3.moved hW.alike, h4.moved hW.alike, h5.moved hW⟩, fun g e1 e2 e3 e4 e5 e6 e7 => ?_, ?_, h8⟩
  · rw [hU]
    exact (h6 g e1 e2 e3 e4 e5 e6 e7).go hW (Nat.le_refl _) (fun _ _ _ => rfl)
  · rw [hU]
    exact h7.moved hW.alike
theorem zSt.blind {n : Nat} {D : va_G} {ac : Nat → ClassId} {sk sv : Nat → Nat} {b L : Nat} {xs : Nat → Int32} {av : List Value} : FrameBlind (va_Pc av (zSt n D ac sk sv b L xs)) := fun a U f mk h => ⟨h.1, h.2.go rfl (State.WarmedH.refl U)⟩
def zdR (n : Nat) (D : va_G) (ac : Nat → ClassId) (sk sv : Nat → Nat) (u : sG × zG) (a : Nat) (t : State) : Prop := a = sw_ad u.1 0 ∧ (u.1.1 = n ∧ sw_ac u.1 = ac ∧ sw_D u.1 = D ∧ sw_sk u.1 = sk ∧ sw_sv u.1 = sv) ∧ (∀ k, sw_vk k → n ≤ sw_ad u.1 k) ∧ sw_in u.1 ∧ zl_H u.1 [] u.2 t.heap
theorem zd_ra {p : Program} {l : Launch} {e : Env} {R : Room} {s : State} {m : MethodId} {args : Array Value} {below : List Frame} {meth : Method} {c : Code} {H : Heap} {locs : List Loc} {cells slots : Nat} {cc : ByteArray} {pc : Nat} {ls : Array Slot} {g : sG} {z : zG} {n : Nat} {D : va_G} {ac : Nat → ClassId} {sk sv : Nat → Nat} {Q1 : zG → Prop} (hx : p.tables.exec = Jvm.exec) (hb : c.code = cc) {ty : String} (hr : meth.sig.returnType = some (.object ty)) (hlocks : meth.locks = false) (hW : zl_Wd g [] z s H locs) (hg : g.1 = n ∧ sw_ac g = ac ∧ sw_D g = D ∧ sw_sk g = sk ∧ sw_sv g = sv) (hfx : ∀ k, sw_vk k → n ≤ sw_ad g k) (hq : Q1 z) (hdg : decode cc pc = .ok (.areturn, 1)) : W p l e R s m args below meth c H locs cells slots (MQ below (va_Qr (fun u : sG × zG => Q1 u.2) (zdR n D ac sk sv) (fun q => n ≤ q)) args s cells slots (fun q => n ≤ q)) (F0 m pc ls [.ref (sw_ad g 0)]) := by
  have hS : va_S (fun q => n ≤ q) s.heap H locs := by
    rw [← zA_eq hg.1 hfx]
    exact hW.2.2.1
  exact W.aret hx hb hr (Or.inl ⟨_, rfl⟩) (Or.inr ⟨_, rfl⟩) (fun t ht hW' => ⟨⟨(g, z), sw_ad g 0, rfl, hq, rfl, hg, hfx, hW.2.2.2.2.1, by show zl_H _ _ _ _; rw [ht]; exact hW.1⟩, hS.F ht⟩) hS.2.2 hdg hlocks
/-- the class's objects stand: the world begins -/
theorem zd_W {n : Nat} {D : va_G} {ac : Nat → ClassId} {sk sv : Nat → Nat} {q1 : Nat} {u : z6B} {s : State} {H : Heap} {locs : List Loc} (hn : s.heap.size = n) (hF : zF0 n D ac sk sv s s.heap) (hB : zBw D ac (fun q => n ≤ q) (zWX6 ac q1 u) s H locs) : ∃ g : sG, sw_ad g 0 = q1 ∧ (g.1 = n ∧ sw_ac g = ac ∧ sw_D g = D ∧ sw_sk g = sk ∧ sw_sv g = sv) ∧ (∀ k, sw_vk k → n ≤ sw_ad g k) ∧ zl_Wd g [] zz0 s H locs := by
  obtain ⟨hK, hP, hD, hS, hAA, hX⟩ := hB
  rw [zT_eq] at hP hD
  obtain ⟨h1, h2, h3⟩ := zq_W (sz := n) (sk := sk) (sv := sv) hD hP (fun q h => h)
  refine ⟨zqG n D ac sk sv q1 u, rfl, ⟨rfl, rfl, rfl, rfl, rfl⟩, h2, ⟨zqM u, zz_C zqM_ok, zz_G, ?_⟩, zl_E0, ?_, hF _ rfl rfl rfl rfl rfl h2 h1⟩
  · rw [List.append_nil]; exact h3
  · rw [zA_eq (g := zqG n D ac sk sv q1 u) rfl h2]; exact hS

def jL_drawn_348 (x5_185 : Int32) (N185 : Int32 → zG → Prop) (t0_348 : Int32) (z_348 : zG) : Prop :=
  (t0_348 = (-1 : Int32) → (False)) ∧ (¬ t0_348 = (-1 : Int32) → (∀ v29 : Int32, v29 = x5_185 + (1 : Int32) → (N185 v29 z_348)))
def lL_drawn_185 (L : Nat) (xs : Nat → Int32) (v3 : Int32) (v5 : Int32) (K185 : zG → Prop) : Nat → Int32 → zG → Prop
  | 0, _, _ => False
  | n185 + 1, x5_185, z_185 => ((18 : Int32) ≤ x5_185 → (K185 z_185)) ∧ (¬ (18 : Int32) ≤ x5_185 → (wL_cell (((15 : Int32) + x5_185)) L xs z_185 (fun r17 => ∀ v18 : Int32, v18 = ((r17).toUInt32 >>> (((1 : Int32)).toUInt32 &&& Int32.toUInt32 31)).toInt32 → (∀ v19 : Int32, v19 = ((v18).toUInt32 >>> (((4 : Int32)).toUInt32 &&& Int32.toUInt32 31)).toInt32 → (¬ v3 = 0 ∧ (∀ v20 : Int32, v20 = (v19 - v19 / v3 * v3) → (∀ v21 : Int32, v21 = ((v18).toUInt32 >>> (((8 : Int32)).toUInt32 &&& Int32.toUInt32 31)).toInt32 → (¬ v5 = 0 ∧ (∀ v22 : Int32, v22 = (v21 - v21 / v5 * v5) → (∀ v23 : Int32, v23 = (v18 - v18 / (16 : Int32) * (16 : Int32)) → (((5 : Int32) ≤ v23 → ((v23 = (5 : Int32) → (∀ zp45 : zG, zp45 = (zstep z_185 (oPlan z_185.1)).2.2 → (jL_drawn_348 x5_185 (fun x5_185 z_185 => lL_drawn_185 L xs v3 v5 K185 n185 x5_185 z_185) (nI (zstep z_185 (oPlan z_185.1)).2.1) zp45))) ∧ (¬ v23 = (5 : Int32) → ((v23 = (6 : Int32) → (∀ zp44 : zG, zp44 = (zstep z_185 (oConf z_185.1 v22 v20)).2.2 → (jL_drawn_348 x5_185 (fun x5_185 z_185 => lL_drawn_185 L xs v3 v5 K185 n185 x5_185 z_185) (zv (zstep z_185 (oConf z_185.1 v22 v20)) [(-1), (-2)]) zp44))) ∧ (¬ v23 = (6 : Int32) → (((13 : Int32) ≤ v23 → ((v23 = (13 : Int32) → (∀ v40 : Int32, v40 = ((v18).toUInt32 >>> (((12 : Int32)).toUInt32 &&& Int32.toUInt32 31)).toInt32 → (∀ zp41 : zG, zp41 = (zstep z_185 (oThr z_185.1 ((v40 - v40 / (21 : Int32) * (21 : Int32))))).2.2 → (jL_drawn_348 x5_185 (fun x5_185 z_185 => lL_drawn_185 L xs v3 v5 K185 n185 x5_185 z_185) (zv (zstep z_185 (oThr z_185.1 ((v40 - v40 / (21 : Int32) * (21 : Int32))))) [(-1)]) zp41)))) ∧ (¬ v23 = (13 : Int32) → ((v23 = (14 : Int32) → (∀ zp39 : zG, zp39 = (zstep z_185 (oApp z_185.1 v20)).2.2 → (jL_drawn_348 x5_185 (fun x5_185 z_185 => lL_drawn_185 L xs v3 v5 K185 n185 x5_185 z_185) (zv (zstep z_185 (oApp z_185.1 v20)) [(-1), (-2), (-3)]) zp39))) ∧ (¬ v23 = (14 : Int32) → (∀ zp38 : zG, zp38 = (zstep z_185 (oAw z_185.1 v20)).2.2 → (jL_drawn_348 x5_185 (fun x5_185 z_185 => lL_drawn_185 L xs v3 v5 K185 n185 x5_185 z_185) (zv (zstep z_185 (oAw z_185.1 v20)) [(-1), (-2), (-3)]) zp38))))))) ∧ (¬ (13 : Int32) ≤ v23 → (∀ v42 : Int32, v42 = ((v18).toUInt32 >>> (((12 : Int32)).toUInt32 &&& Int32.toUInt32 31)).toInt32 → (∀ zp43 : zG, zp43 = (zstep z_185 (oGrad z_185.1 v22 v20 ((v42 - v42 / (21 : Int32) * (21 : Int32))))).2.2 → (jL_drawn_348 x5_185 (fun x5_185 z_185 => lL_drawn_185 L xs v3 v5 K185 n185 x5_185 z_185) (zv (zstep z_185 (oGrad z_185.1 v22 v20 ((v42 - v42 / (21 : Int32) * (21 : Int32))))) [(-1), (-2), (-3)]) zp43)))))))))) ∧ (¬ (5 : Int32) ≤ v23 → (∀ zp46 : zG, zp46 = (zstep z_185 (oAss z_185.1 v22 v20)).2.2 → (jL_drawn_348 x5_185 (fun x5_185 z_185 => lL_drawn_185 L xs v3 v5 K185 n185 x5_185 z_185) (zv (zstep z_185 (oAss z_185.1 v22 v20)) [(-1), (-2), (-3)]) zp46))))))))))))))
def jL_drawn_156 (x5_100 : Int32) (z_100 : zG) (v55 : Int32) (v56 : Int32) (v57 : Int32) (v58 : Int32) (N100 : Int32 → zG → Prop) (t0_156 : Int32) : Prop :=
  ¬ t0_156 = 0 ∧ (∀ v63 : Int32, v63 = ((v55).toUInt32 >>> (((12 : Int32)).toUInt32 &&& Int32.toUInt32 31)).toInt32 → (∀ zp64 : zG, zp64 = (zstep z_100 (oExam z_100.1 v56 (((1 : Int32) + (v57 - v57 / (63 : Int32) * (63 : Int32)))) (((1 : Int32) + (v58 - v58 / t0_156 * t0_156))) ((v63 - v63 / (10 : Int32) * (10 : Int32))))).2.2 → (((zv (zstep z_100 (oExam z_100.1 v56 (((1 : Int32) + (v57 - v57 / (63 : Int32) * (63 : Int32)))) (((1 : Int32) + (v58 - v58 / t0_156 * t0_156))) ((v63 - v63 / (10 : Int32) * (10 : Int32))))) [(-1), (-2)]) = x5_100 → (∀ v66 : Int32, v66 = x5_100 + (1 : Int32) → (N100 v66 zp64))) ∧ (¬ (zv (zstep z_100 (oExam z_100.1 v56 (((1 : Int32) + (v57 - v57 / (63 : Int32) * (63 : Int32)))) (((1 : Int32) + (v58 - v58 / t0_156 * t0_156))) ((v63 - v63 / (10 : Int32) * (10 : Int32))))) [(-1), (-2)]) = x5_100 → (False)))))
def lL_drawn_100 (L : Nat) (xs : Nat → Int32) (v2 : Int32) (v5 : Int32) (K100 : zG → Prop) : Nat → Int32 → zG → Prop
  | 0, _, _ => False
  | n100 + 1, x5_100, z_100 => (v5 ≤ x5_100 → (K100 z_100)) ∧ (¬ v5 ≤ x5_100 → (wL_cell (((9 : Int32) + x5_100)) L xs z_100 (fun r54 => ∀ v55 : Int32, v55 = ((r54).toUInt32 >>> (((1 : Int32)).toUInt32 &&& Int32.toUInt32 31)).toInt32 → (∀ v56 : Int32, v56 = ((((97 : Int32) + (v55 - v55 / (6 : Int32) * (6 : Int32)))).toUInt32 % 65536).toInt32 → (∀ v57 : Int32, v57 = ((v55).toUInt32 >>> (((3 : Int32)).toUInt32 &&& Int32.toUInt32 31)).toInt32 → (∀ v58 : Int32, v58 = ((v55).toUInt32 >>> (((9 : Int32)).toUInt32 &&& Int32.toUInt32 31)).toInt32 → (((v2 - v2 / (5 : Int32) * (5 : Int32)) = 0 → (jL_drawn_156 x5_100 z_100 v55 v56 v57 v58 (fun x5_100 z_100 => lL_drawn_100 L xs v2 v5 K100 n100 x5_100 z_100) (2 : Int32))) ∧ (¬ (v2 - v2 / (5 : Int32) * (5 : Int32)) = 0 → (jL_drawn_156 x5_100 z_100 v55 v56 v57 v58 (fun x5_100 z_100 => lL_drawn_100 L xs v2 v5 K100 n100 x5_100 z_100) (4 : Int32))))))))))
def jL_drawn_80 (x5_36 : Int32) (z_36 : zG) (v78 : Int32) (v79 : Int32) (N36 : Int32 → zG → Prop) (t0_80 : Int32) : Prop :=
  ¬ t0_80 = 0 ∧ (∀ zp84 : zG, zp84 = (zstep z_36 (oDoor z_36.1 v78 ((v79 - v79 / t0_80 * t0_80)))).2.2 → (((zv (zstep z_36 (oDoor z_36.1 v78 ((v79 - v79 / t0_80 * t0_80)))) [(-1), (-2)]) = x5_36 → (∀ v86 : Int32, v86 = x5_36 + (1 : Int32) → (N36 v86 zp84))) ∧ (¬ (zv (zstep z_36 (oDoor z_36.1 v78 ((v79 - v79 / t0_80 * t0_80)))) [(-1), (-2)]) = x5_36 → (False))))
def lL_drawn_36 (L : Nat) (xs : Nat → Int32) (v2 : Int32) (v3 : Int32) (K36 : zG → Prop) : Nat → Int32 → zG → Prop
  | 0, _, _ => False
  | n36 + 1, x5_36, z_36 => (v3 ≤ x5_36 → (K36 z_36)) ∧ (¬ v3 ≤ x5_36 → (wL_cell (((1 : Int32) + x5_36)) L xs z_36 (fun r76 => ∀ v77 : Int32, v77 = ((r76).toUInt32 >>> (((1 : Int32)).toUInt32 &&& Int32.toUInt32 31)).toInt32 → (∀ v78 : Int32, v78 = ((((97 : Int32) + (v77 - v77 / (6 : Int32) * (6 : Int32)))).toUInt32 % 65536).toInt32 → (∀ v79 : Int32, v79 = ((v77).toUInt32 >>> (((3 : Int32)).toUInt32 &&& Int32.toUInt32 31)).toInt32 → (((v2 - v2 / (3 : Int32) * (3 : Int32)) = 0 → (jL_drawn_80 x5_36 z_36 v78 v79 (fun x5_36 z_36 => lL_drawn_36 L xs v2 v3 K36 n36 x5_36 z_36) (6 : Int32))) ∧ (¬ (v2 - v2 / (3 : Int32) * (3 : Int32)) = 0 → (jL_drawn_80 x5_36 z_36 v78 v79 (fun x5_36 z_36 => lL_drawn_36 L xs v2 v3 K36 n36 x5_36 z_36) (2 : Int32)))))))))
def wL_drawn (L : Nat) (xs : Nat → Int32) (z : zG) (Q : zG → Prop) : Prop :=
  wL_cell ((0 : Int32)) L xs z (fun r1 => ∀ v2 : Int32, v2 = ((r1).toUInt32 >>> (((1 : Int32)).toUInt32 &&& Int32.toUInt32 31)).toInt32 → (∀ v3 : Int32, v3 = ((1 : Int32) + (v2 - v2 / (8 : Int32) * (8 : Int32))) → (∀ v4 : Int32, v4 = ((v2).toUInt32 >>> (((3 : Int32)).toUInt32 &&& Int32.toUInt32 31)).toInt32 → (∀ v5 : Int32, v5 = ((1 : Int32) + (v4 - v4 / (6 : Int32) * (6 : Int32))) → (lL_drawn_36 L xs v2 v3 (fun z_36k => lL_drawn_100 L xs v2 v5 (fun z_100k => lL_drawn_185 L xs v3 v5 (fun z_185k => Q z_185k) 19 (0 : Int32) z_100k) 7 (0 : Int32) z_36k) 9 (0 : Int32) z)))))
theorem cs_L_drawn : sw_cS yL_drawn cL_drawn 11 (some (.object "DoorAcademy")) 1 := ⟨q_32, q_1, q_33, by decide +kernel⟩
set_option maxRecDepth 20000 in
set_option maxHeartbeats 4000000 in
theorem kL_drawn (l : Launch) (hst : l.stackTraces = false) (n : Nat) (D : va_G) (ac : Nat → ClassId) (sk sv : Nat → Nat) (b L : Nat) (xs : Nat → Int32) (Q : zG → Prop) (h : wL_drawn L xs zz0 Q) : Met l yL_drawn (sw_ws yL_drawn cL_drawn 11 (some (.object "DoorAcademy"))) { frames := 10, cells := 369, slots := 2856, locals := 185 } (va_Pc [.ref b] (zSt n D ac sk sv b L xs)) (va_Qr (fun u : sG × zG => Q u.2) (zdR n D ac sk sv) (fun q => n ≤ q)) 369 2856 (fun q => n ≤ q) := by
  refine Met.ofW (by decide) rfl ?_
  intro p e s m args below meth c s₁ B hml hv
  obtain ⟨rfl, hv⟩ := hv
  have hl := lv_entry ([.ref b]) (n := 11) (Nat.le_of_ble_eq_true rfl)
  rw [lg_entry_eq]
  generalize (lg_sl ([.ref b]) ++ List.replicate (11 - (lg_sl ([.ref b])).length) Slot.unset).toArray = ls at hl ⊢
  have hl : lv_has ls 11 [(0, .ref b)] := hl
  have hx := B.exec
  have hb := B.bytes
  have hr := B.returns
  have hlocks := B.notSynchronized
  have hown : s.vm.findClass RL = some m.cls := findClass_of_methodNamed B.named
  have hts := atoms_spec (ws := sw_ws yL_drawn cL_drawn 11 (some (.object "DoorAcademy"))) B.pre
  obtain ⟨R, hRe⟩ : ∃ R : Room, R = { frames := 10, cells := 369, slots := 2856, locals := 185 } := ⟨_, rfl⟩
  rw [← hRe]
  have hRf : R.frames = 10 := by rw [hRe]
  have hRc : R.cells = 369 := by rw [hRe]
  have hRs : R.slots = 2856 := by rw [hRe]
  have hRl : R.locals = 185 := by rw [hRe]
  clear hRe
  have gc0 : 0 + 369 ≤ R.cells := by rw [hRc]; exact (Nat.le_of_ble_eq_true rfl)
  have gs0 : 0 + 2856 ≤ R.slots := by rw [hRs]; exact (Nat.le_of_ble_eq_true rfl)
  obtain ⟨Q0, hQ0⟩ : ∃ Q0 : State → Prop, Q0 = MQ below (va_Qr (fun u : sG × zG => Q u.2) (zdR n D ac sk sv) (fun q => n ≤ q)) #[.ref b] s 369 2856 (fun q => n ≤ q) := ⟨_, rfl⟩
  show W p l e R s m #[.ref b] below meth c s.heap [] 0 0 (MQ below (va_Qr (fun u : sG × zG => Q u.2) (zdR n D ac sk sv) (fun q => n ≤ q)) #[.ref b] s 369 2856 (fun q => n ≤ q)) (F0 m 0 ls [])
  rw [← hQ0]
  generalize hargs : (#[.ref b] : Array Value) = args at hts hQ0 ⊢
  obtain ⟨hsz, hBx, hF0, hX, hbl⟩ := hv
  have hB : zBw D ac (fun q => n ≤ q) [] s s.heap [] := ⟨hBx.1, (fun k q hk => by cases hk), ⟨(fun i j p q hi => by cases hi), (fun k q hk => by cases hk)⟩, va_S.rf, (fun q h => by rw [← hsz]; exact h), hBx.2⟩
  refine zn_new (ci := 6) hx hb hts hown qf_6 tyX6 tyX6_ok rfl q_34 q_35 q_2 hB (fs := [.null, .null, .int 0, .null, .null, .null, .null, .null, .int 0, .int 0]) (by decide) (zc1 (D := 1) gc0 (Nat.le_of_ble_eq_true rfl)) (zc1 (D := 10) gs0 (Nat.le_of_ble_eq_true rfl)) dL_drawn_0 (fun q1 H hB => ?_)
  refine lv_dup hx hb dL_drawn_3 rfl ?_
  refine zn_call hx hb hml hown hts (kc_X6 l D ac) ci_X6 q_36 rfl rfl ⟨by rw [hRf]; exact (Nat.le_of_ble_eq_true rfl), by rw [hRl]; exact (Nat.le_of_ble_eq_true rfl)⟩ hB hl.1 (Nat.le_of_ble_eq_true rfl) dL_drawn_4 ⟨zc1 (D := 220) gc0 (Nat.le_of_ble_eq_true rfl), zc1 (D := 1962) gs0 (Nat.le_of_ble_eq_true rfl)⟩ (fun u1 H locs hB => ?_)
  rw [List.nil_append] at hB
  obtain ⟨g, a0, hg9, hfx, hW⟩ := zd_W hsz hF0 hB
  rw [← a0]
  have hsc : zl_sc g b L xs s := ⟨hX, by rw [hsz]; exact hbl, fun h9 => by rw [zA_eq hg9.1 hfx] at h9; exact absurd h9 (Nat.not_le.mpr hbl)⟩
  generalize zz0 = z at h hW
  unfold wL_drawn at h
  refine lv_astore_n (lv' := [(1, .ref (sw_ad g 0)), (0, .ref b)]) hx hb dL_drawn_7 rfl hl (Nat.le_of_ble_eq_true rfl) rfl (fun ls hl => ?_)
  refine lv_aload_n hx hb dL_drawn_8 rfl (lv_at hl 1 rfl) ?_
  refine lv_iconst (v := 0) hx hb dL_drawn_9 (by decide) ?_
  refine zl_ki (g := g) (rest := []) (zl_runSs (g := g) (As := [.ref b, .int (0 : Int32)]) (rest := []) hx hb hml hown hts (kL_cell l hst (zl_re g H.size) ((0 : Int32)) b L xs z _ h) cs_L_cell q_160 rfl rfl ⟨by rw [hRf]; exact (Nat.le_of_ble_eq_true rfl), by rw [hRl]; exact (Nat.le_of_ble_eq_true rfl)⟩ hW hsc rfl hl.1 rfl (Nat.le_of_ble_eq_true rfl) dL_drawn_10 ⟨(zc1 (D := 220) gc0 (Nat.le_of_ble_eq_true rfl)), (zc1 (D := 1962) gs0 (Nat.le_of_ble_eq_true rfl))⟩) hW (fun r1 z9 H locs h hW => ?_)
  obtain ⟨h, e9⟩ := h
  rw [e9] at hW
  refine lv_iconst (v := 1) hx hb dL_drawn_13 (by decide) ?_
  refine lv_iushr hx hb dL_drawn_14 rfl ?_
  refine lv_topi (fun v2 ev2 => ?_)
  replace h := h v2 ev2
  refine lv_istore_n (lv' := [(2, .int v2), (1, .ref (sw_ad g 0)), (0, .ref b)]) hx hb dL_drawn_15 rfl hl (Nat.le_of_ble_eq_true rfl) rfl (fun ls hl => ?_)
  refine lv_iconst (v := 1) hx hb dL_drawn_16 (by decide) ?_
  refine lv_iload_n hx hb dL_drawn_17 rfl (lv_at hl 0 rfl) ?_
  refine lv_bipush (v := 8) hx hb dL_drawn_18 (by decide) ?_
  refine lv_irem hx hb dL_drawn_20 (by decide) ?_
  refine lv_iadd hx hb dL_drawn_21 ?_
  refine lv_topi (fun v3 ev3 => ?_)
  replace h := h v3 ev3
  refine lv_istore_n (lv' := [(3, .int v3), (2, .int v2), (1, .ref (sw_ad g 0)), (0, .ref b)]) hx hb dL_drawn_22 rfl hl (Nat.le_of_ble_eq_true rfl) rfl (fun ls hl => ?_)
  refine lv_iconst (v := 1) hx hb dL_drawn_23 (by decide) ?_
  refine lv_iload_n hx hb dL_drawn_24 rfl (lv_at hl 1 rfl) ?_
  refine lv_iconst (v := 3) hx hb dL_drawn_25 (by decide) ?_
  refine lv_iushr hx hb dL_drawn_26 rfl ?_
  refine lv_topi (fun v4 ev4 => ?_)
  replace h := h v4 ev4
  refine lv_bipush (v := 6) hx hb dL_drawn_27 (by decide) ?_
  refine lv_irem hx hb dL_drawn_29 (by decide) ?_
  refine lv_iadd hx hb dL_drawn_30 ?_
  refine lv_topi (fun v5 ev5 => ?_)
  replace h := h v5 ev5
  refine lv_istore (lv' := [(4, .int v5), (3, .int v3), (2, .int v2), (1, .ref (sw_ad g 0)), (0, .ref b)]) hx hb dL_drawn_31 hl (Nat.le_of_ble_eq_true rfl) rfl (fun ls hl => ?_)
  refine lv_iconst (v := 0) hx hb dL_drawn_33 (by decide) ?_
  refine lv_istore (lv' := [(5, .int (0 : Int32)), (4, .int v5), (3, .int v3), (2, .int v2), (1, .ref (sw_ad g 0)), (0, .ref b)]) hx hb dL_drawn_34 hl (Nat.le_of_ble_eq_true rfl) rfl (fun ls hl => ?_)
  obtain ⟨CL36, hCL36⟩ : ∃ n : Nat, n = 0 + 1 + 219 + 0 + 9 := ⟨_, rfl⟩
  obtain ⟨SL36, hSL36⟩ : ∃ n : Nat, n = 0 + 10 + 1952 + 0 + 54 := ⟨_, rfl⟩
  have hX36 : ∀ (z_36k : zG)  (H : Heap) (locs : List Loc) (ls : Array Slot) (cx36 sx36 : Nat), (lL_drawn_100 L xs v2 v5 (fun z_100k => lL_drawn_185 L xs v3 v5 (fun z_185k => Q z_185k) 19 (0 : Int32) z_100k) 7 (0 : Int32) z_36k) → cx36 ≤ CL36 → sx36 ≤ SL36 → zl_Wd g [] z_36k s H locs → lv_has ls 11 [(0, .ref b), (1, .ref (sw_ad g 0)), (2, .int v2), (3, .int v3), (4, .int v5)] → W p l e R s m args below meth c H locs cx36 sx36 Q0 (F0 m 97 ls []) := by
    intro z_36k  H locs ls cx36 sx36 h hcx36 hsx36 hW hl
    have g6 : cx36 + 140 ≤ R.cells := zc8 (x := 0) (D := 229) (s := 369) (s' := 140) hcx36 hCL36 gc0 (Nat.le_of_ble_eq_true rfl)
    have g7 : sx36 + 840 ≤ R.slots := zc8 (x := 0) (D := 2016) (s := 2856) (s' := 840) hsx36 hSL36 gs0 (Nat.le_of_ble_eq_true rfl)
    refine lv_iconst (v := 0) hx hb dL_drawn_97 (by decide) ?_
    refine lv_istore (lv' := [(5, .int (0 : Int32)), (0, .ref b), (1, .ref (sw_ad g 0)), (2, .int v2), (3, .int v3), (4, .int v5)]) hx hb dL_drawn_98 hl (Nat.le_of_ble_eq_true rfl) rfl (fun ls hl => ?_)
    obtain ⟨CL100, hCL100⟩ : ∃ n : Nat, n = cx36 + 7 := ⟨_, rfl⟩
    obtain ⟨SL100, hSL100⟩ : ∃ n : Nat, n = sx36 + 42 := ⟨_, rfl⟩
    have hX100 : ∀ (z_100k : zG)  (H : Heap) (locs : List Loc) (ls : Array Slot) (cx100 sx100 : Nat), (lL_drawn_185 L xs v3 v5 (fun z_185k => Q z_185k) 19 (0 : Int32) z_100k) → cx100 ≤ CL100 → sx100 ≤ SL100 → zl_Wd g [] z_100k s H locs → lv_has ls 11 [(0, .ref b), (1, .ref (sw_ad g 0)), (3, .int v3), (4, .int v5)] → W p l e R s m args below meth c H locs cx100 sx100 Q0 (F0 m 182 ls []) := by
      intro z_100k  H locs ls cx100 sx100 h hcx100 hsx100 hW hl
      have g8 : cx100 + 133 ≤ R.cells := zc8 (x := cx36) (D := 7) (s := 140) (s' := 133) hcx100 hCL100 g6 (Nat.le_of_ble_eq_true rfl)
      have g9 : sx100 + 798 ≤ R.slots := zc8 (x := sx36) (D := 42) (s := 840) (s' := 798) hsx100 hSL100 g7 (Nat.le_of_ble_eq_true rfl)
      refine lv_iconst (v := 0) hx hb dL_drawn_182 (by decide) ?_
      refine lv_istore (lv' := [(5, .int (0 : Int32)), (0, .ref b), (1, .ref (sw_ad g 0)), (3, .int v3), (4, .int v5)]) hx hb dL_drawn_183 hl (Nat.le_of_ble_eq_true rfl) rfl (fun ls hl => ?_)
      obtain ⟨CL185, hCL185⟩ : ∃ n : Nat, n = cx100 + 133 := ⟨_, rfl⟩
      obtain ⟨SL185, hSL185⟩ : ∃ n : Nat, n = sx100 + 798 := ⟨_, rfl⟩
      have hX185 : ∀ (z_185k : zG)  (H : Heap) (locs : List Loc) (ls : Array Slot) (cx185 sx185 : Nat), (Q z_185k) → cx185 ≤ CL185 → sx185 ≤ SL185 → zl_Wd g [] z_185k s H locs → lv_has ls 11 [(1, .ref (sw_ad g 0))] → W p l e R s m args below meth c H locs cx185 sx185 Q0 (F0 m 364 ls []) := by
        intro z_185k  H locs ls cx185 sx185 h hcx185 hsx185 hW hl
        have g10 : cx185 + 0 ≤ R.cells := zc8 (x := cx100) (D := 133) (s := 133) (s' := 0) hcx185 hCL185 g8 (Nat.le_of_ble_eq_true rfl)
        have g11 : sx185 + 0 ≤ R.slots := zc8 (x := sx100) (D := 798) (s := 798) (s' := 0) hsx185 hSL185 g9 (Nat.le_of_ble_eq_true rfl)
        refine lv_aload_n hx hb dL_drawn_364 rfl (lv_at hl 0 rfl) ?_
        subst hQ0
        refine W.widen (k := 369) (n := 2856) (Nat.le_trans (zc1 (D := 0) g10 (Nat.le_of_ble_eq_true rfl)) (Nat.le_of_eq hRc)) (Nat.le_trans (zc1 (D := 0) g11 (Nat.le_of_ble_eq_true rfl)) (Nat.le_of_eq hRs)) ?_
        exact zd_ra hx hb hr hlocks hW hg9 hfx h dL_drawn_365
      have key185 : ∀ (n185 : Nat) (x5_185 : Int32) (z_185 : zG)  (H : Heap) (locs : List Loc) (ls : Array Slot) (cn185 sn185 : Nat), lL_drawn_185 L xs v3 v5 (fun z_185k => Q z_185k) n185 x5_185 z_185 → cn185 + n185 * 7 ≤ CL185 → sn185 + n185 * 42 ≤ SL185 → zl_Wd g [] z_185 s H locs → lv_has ls 11 [(0, .ref b), (1, .ref (sw_ad g 0)), (3, .int v3), (4, .int v5), (5, .int x5_185)] → W p l e R s m args below meth c H locs cn185 sn185 Q0 (F0 m 185 ls []) := by
        intro n185
        induction n185 with
        | zero =>
          intro x5_185 z_185  H locs ls cn185 sn185 h
          exact False.elim h
        | succ n185 ih185 =>
          intro x5_185 z_185  H locs ls cn185 sn185 h hcn185 hsn185 hW hl
          rw [lL_drawn_185.eq_2] at h
          obtain ⟨Tcn185, hTcn185⟩ : ∃ n : Nat, n = cn185 + 7 := ⟨_, rfl⟩
          obtain ⟨Tsn185, hTsn185⟩ : ∃ n : Nat, n = sn185 + 42 := ⟨_, rfl⟩
          have g12 : cn185 + 7 ≤ Tcn185 := Nat.le_of_eq hTcn185.symm
          have g13 : sn185 + 42 ≤ Tsn185 := Nat.le_of_eq hTsn185.symm
          have g14 : cn185 + 7 ≤ R.cells := zc9 (x := cx100) (D := 133) (s := 133) (t := 7) hcn185 hCL185 g8 (Nat.le_of_ble_eq_true rfl)
          have g15 : sn185 + 42 ≤ R.slots := zc9 (x := sx100) (D := 798) (s := 798) (t := 42) hsn185 hSL185 g9 (Nat.le_of_ble_eq_true rfl)
          refine lv_iload hx hb dL_drawn_185 (lv_at hl 4 rfl) ?_
          refine lv_bipush (v := 18) hx hb dL_drawn_187 (by decide) ?_
          refine lv_icmp_ge (tgt := 364) hx hb dL_drawn_189 (by decide) (fun k16 => ?_) (fun k16 => ?_)
          · replace h := h.1 k16
            exact hX185 z_185 _ _ _ _ _ h (zc11 (zc1 (D := 0) g12 (Nat.le_of_ble_eq_true rfl)) hTcn185 hcn185) (zc11 (zc1 (D := 0) g13 (Nat.le_of_ble_eq_true rfl)) hTsn185 hsn185) hW (lv_sub hl [1] rfl)
          · replace h := h.2 k16
            refine lv_aload_n hx hb dL_drawn_192 rfl (lv_at hl 0 rfl) ?_
            refine lv_bipush (v := 15) hx hb dL_drawn_193 (by decide) ?_
            refine lv_iload hx hb dL_drawn_195 (lv_at hl 4 rfl) ?_
            refine lv_iadd hx hb dL_drawn_197 ?_
            refine zl_ki (g := g) (rest := []) (zl_runSs (g := g) (As := [.ref b, .int ((15 : Int32) + x5_185)]) (rest := []) hx hb hml hown hts (kL_cell l hst (zl_re g H.size) (((15 : Int32) + x5_185)) b L xs z_185 _ h) cs_L_cell q_160 rfl rfl ⟨by rw [hRf]; exact (Nat.le_of_ble_eq_true rfl), by rw [hRl]; exact (Nat.le_of_ble_eq_true rfl)⟩ hW hsc rfl hl.1 rfl (Nat.le_of_ble_eq_true rfl) dL_drawn_198 ⟨(zc1 (D := 0) g14 (Nat.le_of_ble_eq_true rfl)), (zc1 (D := 0) g15 (Nat.le_of_ble_eq_true rfl))⟩) hW (fun r17 z9 H locs h hW => ?_)
            obtain ⟨h, e9⟩ := h
            rw [e9] at hW
            refine lv_iconst (v := 1) hx hb dL_drawn_201 (by decide) ?_
            refine lv_iushr hx hb dL_drawn_202 rfl ?_
            refine lv_topi (fun v18 ev18 => ?_)
            replace h := h v18 ev18
            refine lv_istore (lv' := [(6, .int v18), (0, .ref b), (1, .ref (sw_ad g 0)), (3, .int v3), (4, .int v5), (5, .int x5_185)]) hx hb dL_drawn_203 hl (Nat.le_of_ble_eq_true rfl) rfl (fun ls hl => ?_)
            refine lv_iload hx hb dL_drawn_205 (lv_at hl 0 rfl) ?_
            refine lv_iconst (v := 4) hx hb dL_drawn_207 (by decide) ?_
            refine lv_iushr hx hb dL_drawn_208 rfl ?_
            refine lv_topi (fun v19 ev19 => ?_)
            replace h := h v19 ev19
            refine lv_iload_n hx hb dL_drawn_209 rfl (lv_at hl 3 rfl) ?_
            have y48 := h.1
            replace h := h.2
            refine lv_irem hx hb dL_drawn_210 y48 ?_
            refine lv_topi (fun v20 ev20 => ?_)
            replace h := h v20 ev20
            refine lv_istore (lv' := [(7, .int v20), (6, .int v18), (0, .ref b), (1, .ref (sw_ad g 0)), (3, .int v3), (4, .int v5), (5, .int x5_185)]) hx hb dL_drawn_211 hl (Nat.le_of_ble_eq_true rfl) rfl (fun ls hl => ?_)
            refine lv_iload hx hb dL_drawn_213 (lv_at hl 1 rfl) ?_
            refine lv_bipush (v := 8) hx hb dL_drawn_215 (by decide) ?_
            refine lv_iushr hx hb dL_drawn_217 rfl ?_
            refine lv_topi (fun v21 ev21 => ?_)
            replace h := h v21 ev21
            refine lv_iload hx hb dL_drawn_218 (lv_at hl 5 rfl) ?_
            have y47 := h.1
            replace h := h.2
            refine lv_irem hx hb dL_drawn_220 y47 ?_
            refine lv_topi (fun v22 ev22 => ?_)
            replace h := h v22 ev22
            refine lv_istore (lv' := [(8, .int v22), (7, .int v20), (6, .int v18), (0, .ref b), (1, .ref (sw_ad g 0)), (3, .int v3), (4, .int v5), (5, .int x5_185)]) hx hb dL_drawn_221 hl (Nat.le_of_ble_eq_true rfl) rfl (fun ls hl => ?_)
            refine lv_iload hx hb dL_drawn_223 (lv_at hl 2 rfl) ?_
            refine lv_bipush (v := 16) hx hb dL_drawn_225 (by decide) ?_
            refine lv_irem hx hb dL_drawn_227 (by decide) ?_
            refine lv_topi (fun v23 ev23 => ?_)
            replace h := h v23 ev23
            refine lv_istore (lv' := [(9, .int v23), (8, .int v22), (7, .int v20), (6, .int v18), (0, .ref b), (1, .ref (sw_ad g 0)), (3, .int v3), (4, .int v5), (5, .int x5_185)]) hx hb dL_drawn_228 hl (Nat.le_of_ble_eq_true rfl) rfl (fun ls hl => ?_)
            refine lv_iload hx hb dL_drawn_230 (lv_at hl 0 rfl) ?_
            refine lv_iconst (v := 5) hx hb dL_drawn_232 (by decide) ?_
            obtain ⟨CJ348, hCJ348⟩ : ∃ n : Nat, n = cn185 + 0 + 7 := ⟨_, rfl⟩
            obtain ⟨SJ348, hSJ348⟩ : ∃ n : Nat, n = sn185 + 0 + 42 := ⟨_, rfl⟩
            have hJ348 : ∀ (t0_348 : Int32) (z_348 : zG) (H : Heap) (locs : List Loc) (ls : Array Slot) (cj348 sj348 : Nat), jL_drawn_348 x5_185 (fun x5_185 z_185 => lL_drawn_185 L xs v3 v5 (fun z_185k => Q z_185k) n185 x5_185 z_185) t0_348 z_348 → cj348 ≤ CJ348 → sj348 ≤ SJ348 → zl_Wd g [] z_348 s H locs → lv_has ls 11 [(0, .ref b), (1, .ref (sw_ad g 0)), (3, .int v3), (4, .int v5), (5, .int x5_185)] → W p l e R s m args below meth c H locs cj348 sj348 Q0 (F0 m 348 ls [.int t0_348]) := by
              intro t0_348 z_348 H locs ls cj348 sj348 h hcj348 hsj348 hW hl
              unfold jL_drawn_348 at h
              have g24 : cj348 + 0 ≤ R.cells := zc8 (x := cn185) (D := 7) (s := 7) (s' := 0) hcj348 hCJ348 g14 (Nat.le_of_ble_eq_true rfl)
              have g25 : cj348 + 0 ≤ Tcn185 := zc8 (x := cn185) (D := 7) (s := 7) (s' := 0) hcj348 hCJ348 g12 (Nat.le_of_ble_eq_true rfl)
              have g26 : sj348 + 0 ≤ R.slots := zc8 (x := sn185) (D := 42) (s := 42) (s' := 0) hsj348 hSJ348 g15 (Nat.le_of_ble_eq_true rfl)
              have g27 : sj348 + 0 ≤ Tsn185 := zc8 (x := sn185) (D := 42) (s := 42) (s' := 0) hsj348 hSJ348 g13 (Nat.le_of_ble_eq_true rfl)
              refine lv_istore (lv' := [(10, .int t0_348), (0, .ref b), (1, .ref (sw_ad g 0)), (3, .int v3), (4, .int v5), (5, .int x5_185)]) hx hb dL_drawn_348 hl (Nat.le_of_ble_eq_true rfl) rfl (fun ls hl => ?_)
              refine lv_iload hx hb dL_drawn_350 (lv_at hl 0 rfl) ?_
              refine lv_iconst (v := -1) hx hb dL_drawn_352 (by decide) ?_
              refine lv_icmp_ne (tgt := 358) hx hb dL_drawn_353 (by decide) (fun k28 => ?_) (fun k28 => ?_)
              · replace h := h.2 k28
                obtain ⟨v29, ev29⟩ : ∃ z : Int32, z = x5_185 + (1 : Int32) := ⟨_, rfl⟩
                replace h := h v29 ev29
                refine lv_iinc (v := v29) (lv' := [(5, .int v29), (10, .int t0_348), (0, .ref b), (1, .ref (sw_ad g 0)), (3, .int v3), (4, .int v5)]) hx hb dL_drawn_358 hl (k := 5) rfl (by rw [ev29]; rfl) (Nat.le_of_ble_eq_true rfl) rfl (fun ls hl => ?_)
                refine lv_goto (tgt := 185) hx hb dL_drawn_361 (by decide) ?_
                exact ih185 v29 z_348 _ _ _ _ _ h (zc10 (zc1 (D := 0) g25 (Nat.le_of_ble_eq_true rfl)) hTcn185 hcn185) (zc10 (zc1 (D := 0) g27 (Nat.le_of_ble_eq_true rfl)) hTsn185 hsn185) hW (lv_sub hl [2, 3, 4, 5, 0] rfl)
              · replace h := h.1 k28
                exact False.elim h
            have g30 : cn185 + 7 ≤ CJ348 := Nat.le_of_eq hCJ348.symm
            have g31 : sn185 + 42 ≤ SJ348 := Nat.le_of_eq hSJ348.symm
            refine lv_icmp_ge (tgt := 247) hx hb dL_drawn_233 (by decide) (fun k32 => ?_) (fun k32 => ?_)
            · replace h := h.1 k32
              refine lv_iload hx hb dL_drawn_247 (lv_at hl 0 rfl) ?_
              refine lv_iconst (v := 5) hx hb dL_drawn_249 (by decide) ?_
              refine lv_icmp_ne (tgt := 260) hx hb dL_drawn_250 (by decide) (fun k33 => ?_) (fun k33 => ?_)
              · replace h := h.2 k33
                refine lv_iload hx hb dL_drawn_260 (lv_at hl 0 rfl) ?_
                refine lv_bipush (v := 6) hx hb dL_drawn_262 (by decide) ?_
                refine lv_icmp_ne (tgt := 278) hx hb dL_drawn_264 (by decide) (fun k34 => ?_) (fun k34 => ?_)
                · replace h := h.2 k34
                  refine lv_iload hx hb dL_drawn_278 (lv_at hl 0 rfl) ?_
                  refine lv_bipush (v := 13) hx hb dL_drawn_280 (by decide) ?_
                  refine lv_icmp_ge (tgt := 304) hx hb dL_drawn_282 (by decide) (fun k35 => ?_) (fun k35 => ?_)
                  · replace h := h.1 k35
                    refine lv_iload hx hb dL_drawn_304 (lv_at hl 0 rfl) ?_
                    refine lv_bipush (v := 13) hx hb dL_drawn_306 (by decide) ?_
                    refine lv_icmp_ne (tgt := 326) hx hb dL_drawn_308 (by decide) (fun k36 => ?_) (fun k36 => ?_)
                    · replace h := h.2 k36
                      refine lv_iload hx hb dL_drawn_326 (lv_at hl 0 rfl) ?_
                      refine lv_bipush (v := 14) hx hb dL_drawn_328 (by decide) ?_
                      refine lv_icmp_ne (tgt := 342) hx hb dL_drawn_330 (by decide) (fun k37 => ?_) (fun k37 => ?_)
                      · replace h := h.2 k37
                        refine lv_aload_n hx hb dL_drawn_342 rfl (lv_at hl 5 rfl) ?_
                        refine lv_iload hx hb dL_drawn_343 (lv_at hl 2 rfl) ?_
                        refine zl_ki (g := g) (rest := []) (zl_runH (g := g) (As := [.ref (sw_ad g 0), .int v20]) (rest := []) hx hb hml hown hts (kL_award l hst (zl_re g H.size) z_185 v20) ch_L_award q_461 rfl rfl ⟨by rw [hRf]; exact (Nat.le_of_ble_eq_true rfl), by rw [hRl]; exact (Nat.le_of_ble_eq_true rfl)⟩ hW rfl hl.1 rfl (Nat.le_of_ble_eq_true rfl) dL_drawn_345 ⟨(zc1 (D := 1) g14 (Nat.le_of_ble_eq_true rfl)), (zc1 (D := 6) g15 (Nat.le_of_ble_eq_true rfl))⟩) hW (fun r9 z9 H locs h9 hW => ?_)
                        obtain ⟨rfl, e9⟩ := h9
                        replace h := h z9 e9
                        obtain ⟨zp38, ezp38⟩ : ∃ z : zG, z = z9 := ⟨_, rfl⟩
                        rw [← ezp38] at h hW
                        exact hJ348 (zv (zstep z_185 (oAw z_185.1 v20)) [(-1), (-2), (-3)]) zp38 _ _ _ _ _ h (zc1 (D := 1) g30 (Nat.le_of_ble_eq_true rfl)) (zc1 (D := 6) g31 (Nat.le_of_ble_eq_true rfl)) hW (lv_sub hl [4, 5, 6, 7, 8] rfl)
                      · replace h := h.1 k37
                        refine lv_aload_n hx hb dL_drawn_333 rfl (lv_at hl 5 rfl) ?_
                        refine lv_iload hx hb dL_drawn_334 (lv_at hl 2 rfl) ?_
                        refine zl_ki (g := g) (rest := []) (zl_runH (g := g) (As := [.ref (sw_ad g 0), .int v20]) (rest := []) hx hb hml hown hts (kL_appeal l hst (zl_re g H.size) z_185 v20) ch_L_appeal q_422 rfl rfl ⟨by rw [hRf]; exact (Nat.le_of_ble_eq_true rfl), by rw [hRl]; exact (Nat.le_of_ble_eq_true rfl)⟩ hW rfl hl.1 rfl (Nat.le_of_ble_eq_true rfl) dL_drawn_336 ⟨(zc1 (D := 1) g14 (Nat.le_of_ble_eq_true rfl)), (zc1 (D := 6) g15 (Nat.le_of_ble_eq_true rfl))⟩) hW (fun r9 z9 H locs h9 hW => ?_)
                        obtain ⟨rfl, e9⟩ := h9
                        replace h := h z9 e9
                        obtain ⟨zp39, ezp39⟩ : ∃ z : zG, z = z9 := ⟨_, rfl⟩
                        rw [← ezp39] at h hW
                        refine lv_goto (tgt := 348) hx hb dL_drawn_339 (by decide) ?_
                        exact hJ348 (zv (zstep z_185 (oApp z_185.1 v20)) [(-1), (-2), (-3)]) zp39 _ _ _ _ _ h (zc1 (D := 1) g30 (Nat.le_of_ble_eq_true rfl)) (zc1 (D := 6) g31 (Nat.le_of_ble_eq_true rfl)) hW (lv_sub hl [4, 5, 6, 7, 8] rfl)
                    · replace h := h.1 k36
                      refine lv_aload_n hx hb dL_drawn_311 rfl (lv_at hl 5 rfl) ?_
                      refine lv_iload hx hb dL_drawn_312 (lv_at hl 3 rfl) ?_
                      refine lv_bipush (v := 12) hx hb dL_drawn_314 (by decide) ?_
                      refine lv_iushr hx hb dL_drawn_316 rfl ?_
                      refine lv_topi (fun v40 ev40 => ?_)
                      replace h := h v40 ev40
                      refine lv_bipush (v := 21) hx hb dL_drawn_317 (by decide) ?_
                      refine lv_irem hx hb dL_drawn_319 (by decide) ?_
                      refine zl_ki (g := g) (rest := []) (zl_runH (g := g) (As := [.ref (sw_ad g 0), .int (v40 - v40 / (21 : Int32) * (21 : Int32))]) (rest := []) hx hb hml hown hts (kL_setThreshold l hst (zl_re g H.size) z_185 ((v40 - v40 / (21 : Int32) * (21 : Int32)))) ch_L_setThreshold q_412 rfl rfl ⟨by rw [hRf]; exact (Nat.le_of_ble_eq_true rfl), by rw [hRl]; exact (Nat.le_of_ble_eq_true rfl)⟩ hW rfl hl.1 rfl (Nat.le_of_ble_eq_true rfl) dL_drawn_320 ⟨(zc1 (D := 1) g14 (Nat.le_of_ble_eq_true rfl)), (zc1 (D := 6) g15 (Nat.le_of_ble_eq_true rfl))⟩) hW (fun r9 z9 H locs h9 hW => ?_)
                      obtain ⟨rfl, e9⟩ := h9
                      replace h := h z9 e9
                      obtain ⟨zp41, ezp41⟩ : ∃ z : zG, z = z9 := ⟨_, rfl⟩
                      rw [← ezp41] at h hW
                      refine lv_goto (tgt := 348) hx hb dL_drawn_323 (by decide) ?_
                      exact hJ348 (zv (zstep z_185 (oThr z_185.1 ((v40 - v40 / (21 : Int32) * (21 : Int32))))) [(-1)]) zp41 _ _ _ _ _ h (zc1 (D := 1) g30 (Nat.le_of_ble_eq_true rfl)) (zc1 (D := 6) g31 (Nat.le_of_ble_eq_true rfl)) hW (lv_sub hl [4, 5, 6, 7, 8] rfl)
                  · replace h := h.2 k35
                    refine lv_aload_n hx hb dL_drawn_285 rfl (lv_at hl 5 rfl) ?_
                    refine lv_iload hx hb dL_drawn_286 (lv_at hl 1 rfl) ?_
                    refine lv_iload hx hb dL_drawn_288 (lv_at hl 2 rfl) ?_
                    refine lv_iload hx hb dL_drawn_290 (lv_at hl 3 rfl) ?_
                    refine lv_bipush (v := 12) hx hb dL_drawn_292 (by decide) ?_
                    refine lv_iushr hx hb dL_drawn_294 rfl ?_
                    refine lv_topi (fun v42 ev42 => ?_)
                    replace h := h v42 ev42
                    refine lv_bipush (v := 21) hx hb dL_drawn_295 (by decide) ?_
                    refine lv_irem hx hb dL_drawn_297 (by decide) ?_
                    refine zl_ki (g := g) (rest := []) (zl_runH (g := g) (As := [.ref (sw_ad g 0), .int v22, .int v20, .int (v42 - v42 / (21 : Int32) * (21 : Int32))]) (rest := []) hx hb hml hown hts (kL_grade l hst (zl_re g H.size) z_185 v22 v20 ((v42 - v42 / (21 : Int32) * (21 : Int32)))) ch_L_grade q_398 rfl rfl ⟨by rw [hRf]; exact (Nat.le_of_ble_eq_true rfl), by rw [hRl]; exact (Nat.le_of_ble_eq_true rfl)⟩ hW rfl hl.1 rfl (Nat.le_of_ble_eq_true rfl) dL_drawn_298 ⟨(zc1 (D := 1) g14 (Nat.le_of_ble_eq_true rfl)), (zc1 (D := 6) g15 (Nat.le_of_ble_eq_true rfl))⟩) hW (fun r9 z9 H locs h9 hW => ?_)
                    obtain ⟨rfl, e9⟩ := h9
                    replace h := h z9 e9
                    obtain ⟨zp43, ezp43⟩ : ∃ z : zG, z = z9 := ⟨_, rfl⟩
                    rw [← ezp43] at h hW
                    refine lv_goto (tgt := 348) hx hb dL_drawn_301 (by decide) ?_
                    exact hJ348 (zv (zstep z_185 (oGrad z_185.1 v22 v20 ((v42 - v42 / (21 : Int32) * (21 : Int32))))) [(-1), (-2), (-3)]) zp43 _ _ _ _ _ h (zc1 (D := 1) g30 (Nat.le_of_ble_eq_true rfl)) (zc1 (D := 6) g31 (Nat.le_of_ble_eq_true rfl)) hW (lv_sub hl [4, 5, 6, 7, 8] rfl)
                · replace h := h.1 k34
                  refine lv_aload_n hx hb dL_drawn_267 rfl (lv_at hl 5 rfl) ?_
                  refine lv_iload hx hb dL_drawn_268 (lv_at hl 1 rfl) ?_
                  refine lv_iload hx hb dL_drawn_270 (lv_at hl 2 rfl) ?_
                  refine zl_ki (g := g) (rest := []) (zl_runH (g := g) (As := [.ref (sw_ad g 0), .int v22, .int v20]) (rest := []) hx hb hml hown hts (kL_conflict l hst (zl_re g H.size) z_185 v22 v20) ch_L_conflict q_384 rfl rfl ⟨by rw [hRf]; exact (Nat.le_of_ble_eq_true rfl), by rw [hRl]; exact (Nat.le_of_ble_eq_true rfl)⟩ hW rfl hl.1 rfl (Nat.le_of_ble_eq_true rfl) dL_drawn_272 ⟨(zc1 (D := 1) g14 (Nat.le_of_ble_eq_true rfl)), (zc1 (D := 6) g15 (Nat.le_of_ble_eq_true rfl))⟩) hW (fun r9 z9 H locs h9 hW => ?_)
                  obtain ⟨rfl, e9⟩ := h9
                  replace h := h z9 e9
                  obtain ⟨zp44, ezp44⟩ : ∃ z : zG, z = z9 := ⟨_, rfl⟩
                  rw [← ezp44] at h hW
                  refine lv_goto (tgt := 348) hx hb dL_drawn_275 (by decide) ?_
                  exact hJ348 (zv (zstep z_185 (oConf z_185.1 v22 v20)) [(-1), (-2)]) zp44 _ _ _ _ _ h (zc1 (D := 1) g30 (Nat.le_of_ble_eq_true rfl)) (zc1 (D := 6) g31 (Nat.le_of_ble_eq_true rfl)) hW (lv_sub hl [4, 5, 6, 7, 8] rfl)
              · replace h := h.1 k33
                refine lv_aload_n hx hb dL_drawn_253 rfl (lv_at hl 5 rfl) ?_
                refine zl_ki (g := g) (rest := []) (zl_runV (g := g) (As := []) (rest := []) hx hb hml hown hts (zD_carryOutPlan l hst (zl_re g H.size) z_185) cv_X6_carryOutPlan q_346 rfl rfl ⟨by rw [hRf]; exact (Nat.le_of_ble_eq_true rfl), by rw [hRl]; exact (Nat.le_of_ble_eq_true rfl)⟩ hW (Or.inl (Nat.le_of_ble_eq_true rfl)) sl_0 rfl rfl hl.1 rfl (Nat.le_of_ble_eq_true rfl) dL_drawn_254 ⟨(zc1 (D := 1) g14 (Nat.le_of_ble_eq_true rfl)), (zc1 (D := 6) g15 (Nat.le_of_ble_eq_true rfl))⟩) hW (fun r9 z9 H locs h9 hW => ?_)
                obtain ⟨rfl, e9⟩ := h9
                replace h := h z9 e9
                obtain ⟨zp45, ezp45⟩ : ∃ z : zG, z = z9 := ⟨_, rfl⟩
                rw [← ezp45] at h hW
                refine lv_goto (tgt := 348) hx hb dL_drawn_257 (by decide) ?_
                exact hJ348 (nI (zstep z_185 (oPlan z_185.1)).2.1) zp45 _ _ _ _ _ h (zc1 (D := 1) g30 (Nat.le_of_ble_eq_true rfl)) (zc1 (D := 6) g31 (Nat.le_of_ble_eq_true rfl)) hW (lv_sub hl [4, 5, 6, 7, 8] rfl)
            · replace h := h.2 k32
              refine lv_aload_n hx hb dL_drawn_236 rfl (lv_at hl 5 rfl) ?_
              refine lv_iload hx hb dL_drawn_237 (lv_at hl 1 rfl) ?_
              refine lv_iload hx hb dL_drawn_239 (lv_at hl 2 rfl) ?_
              refine zl_ki (g := g) (rest := []) (zl_runH (g := g) (As := [.ref (sw_ad g 0), .int v22, .int v20]) (rest := []) hx hb hml hown hts (kL_assign l hst (zl_re g H.size) z_185 v22 v20) ch_L_assign q_273 rfl rfl ⟨by rw [hRf]; exact (Nat.le_of_ble_eq_true rfl), by rw [hRl]; exact (Nat.le_of_ble_eq_true rfl)⟩ hW rfl hl.1 rfl (Nat.le_of_ble_eq_true rfl) dL_drawn_241 ⟨(zc1 (D := 1) g14 (Nat.le_of_ble_eq_true rfl)), (zc1 (D := 6) g15 (Nat.le_of_ble_eq_true rfl))⟩) hW (fun r9 z9 H locs h9 hW => ?_)
              obtain ⟨rfl, e9⟩ := h9
              replace h := h z9 e9
              obtain ⟨zp46, ezp46⟩ : ∃ z : zG, z = z9 := ⟨_, rfl⟩
              rw [← ezp46] at h hW
              refine lv_goto (tgt := 348) hx hb dL_drawn_244 (by decide) ?_
              exact hJ348 (zv (zstep z_185 (oAss z_185.1 v22 v20)) [(-1), (-2), (-3)]) zp46 _ _ _ _ _ h (zc1 (D := 1) g30 (Nat.le_of_ble_eq_true rfl)) (zc1 (D := 6) g31 (Nat.le_of_ble_eq_true rfl)) hW (lv_sub hl [4, 5, 6, 7, 8] rfl)
      exact key185 19 (0 : Int32) z_100k _ _ _ _ _ h (Nat.le_of_eq hCL185.symm) (Nat.le_of_eq hSL185.symm) hW (lv_sub hl [1, 2, 3, 4, 0] rfl)
    have key100 : ∀ (n100 : Nat) (x5_100 : Int32) (z_100 : zG)  (H : Heap) (locs : List Loc) (ls : Array Slot) (cn100 sn100 : Nat), lL_drawn_100 L xs v2 v5 (fun z_100k => lL_drawn_185 L xs v3 v5 (fun z_185k => Q z_185k) 19 (0 : Int32) z_100k) n100 x5_100 z_100 → cn100 + n100 * 1 ≤ CL100 → sn100 + n100 * 6 ≤ SL100 → zl_Wd g [] z_100 s H locs → lv_has ls 11 [(0, .ref b), (1, .ref (sw_ad g 0)), (2, .int v2), (3, .int v3), (4, .int v5), (5, .int x5_100)] → W p l e R s m args below meth c H locs cn100 sn100 Q0 (F0 m 100 ls []) := by
      intro n100
      induction n100 with
      | zero =>
        intro x5_100 z_100  H locs ls cn100 sn100 h
        exact False.elim h
      | succ n100 ih100 =>
        intro x5_100 z_100  H locs ls cn100 sn100 h hcn100 hsn100 hW hl
        rw [lL_drawn_100.eq_2] at h
        obtain ⟨Tcn100, hTcn100⟩ : ∃ n : Nat, n = cn100 + 1 := ⟨_, rfl⟩
        obtain ⟨Tsn100, hTsn100⟩ : ∃ n : Nat, n = sn100 + 6 := ⟨_, rfl⟩
        have g49 : cn100 + 1 ≤ Tcn100 := Nat.le_of_eq hTcn100.symm
        have g50 : sn100 + 6 ≤ Tsn100 := Nat.le_of_eq hTsn100.symm
        have g51 : cn100 + 134 ≤ R.cells := zc9 (x := cx36) (D := 7) (s := 140) (t := 134) hcn100 hCL100 g6 (Nat.le_of_ble_eq_true rfl)
        have g52 : sn100 + 804 ≤ R.slots := zc9 (x := sx36) (D := 42) (s := 840) (t := 804) hsn100 hSL100 g7 (Nat.le_of_ble_eq_true rfl)
        refine lv_iload hx hb dL_drawn_100 (lv_at hl 5 rfl) ?_
        refine lv_iload hx hb dL_drawn_102 (lv_at hl 4 rfl) ?_
        refine lv_icmp_ge (tgt := 182) hx hb dL_drawn_104 (by decide) (fun k53 => ?_) (fun k53 => ?_)
        · replace h := h.1 k53
          exact hX100 z_100 _ _ _ _ _ h (zc11 (zc1 (D := 0) g49 (Nat.le_of_ble_eq_true rfl)) hTcn100 hcn100) (zc11 (zc1 (D := 0) g50 (Nat.le_of_ble_eq_true rfl)) hTsn100 hsn100) hW (lv_sub hl [0, 1, 3, 4] rfl)
        · replace h := h.2 k53
          refine lv_aload_n hx hb dL_drawn_107 rfl (lv_at hl 0 rfl) ?_
          refine lv_bipush (v := 9) hx hb dL_drawn_108 (by decide) ?_
          refine lv_iload hx hb dL_drawn_110 (lv_at hl 5 rfl) ?_
          refine lv_iadd hx hb dL_drawn_112 ?_
          refine zl_ki (g := g) (rest := []) (zl_runSs (g := g) (As := [.ref b, .int ((9 : Int32) + x5_100)]) (rest := []) hx hb hml hown hts (kL_cell l hst (zl_re g H.size) (((9 : Int32) + x5_100)) b L xs z_100 _ h) cs_L_cell q_160 rfl rfl ⟨by rw [hRf]; exact (Nat.le_of_ble_eq_true rfl), by rw [hRl]; exact (Nat.le_of_ble_eq_true rfl)⟩ hW hsc rfl hl.1 rfl (Nat.le_of_ble_eq_true rfl) dL_drawn_113 ⟨(zc1 (D := 0) g51 (Nat.le_of_ble_eq_true rfl)), (zc1 (D := 0) g52 (Nat.le_of_ble_eq_true rfl))⟩) hW (fun r54 z9 H locs h hW => ?_)
          obtain ⟨h, e9⟩ := h
          rw [e9] at hW
          refine lv_iconst (v := 1) hx hb dL_drawn_116 (by decide) ?_
          refine lv_iushr hx hb dL_drawn_117 rfl ?_
          refine lv_topi (fun v55 ev55 => ?_)
          replace h := h v55 ev55
          refine lv_istore (lv' := [(6, .int v55), (0, .ref b), (1, .ref (sw_ad g 0)), (2, .int v2), (3, .int v3), (4, .int v5), (5, .int x5_100)]) hx hb dL_drawn_118 hl (Nat.le_of_ble_eq_true rfl) rfl (fun ls hl => ?_)
          refine lv_aload_n hx hb dL_drawn_120 rfl (lv_at hl 2 rfl) ?_
          refine lv_bipush (v := 97) hx hb dL_drawn_121 (by decide) ?_
          refine lv_iload hx hb dL_drawn_123 (lv_at hl 0 rfl) ?_
          refine lv_bipush (v := 6) hx hb dL_drawn_125 (by decide) ?_
          refine lv_irem hx hb dL_drawn_127 (by decide) ?_
          refine lv_iadd hx hb dL_drawn_128 ?_
          refine lv_i2c hx hb dL_drawn_129 rfl ?_
          refine lv_topi (fun v56 ev56 => ?_)
          replace h := h v56 ev56
          refine lv_iconst (v := 1) hx hb dL_drawn_130 (by decide) ?_
          refine lv_iload hx hb dL_drawn_131 (lv_at hl 0 rfl) ?_
          refine lv_iconst (v := 3) hx hb dL_drawn_133 (by decide) ?_
          refine lv_iushr hx hb dL_drawn_134 rfl ?_
          refine lv_topi (fun v57 ev57 => ?_)
          replace h := h v57 ev57
          refine lv_bipush (v := 63) hx hb dL_drawn_135 (by decide) ?_
          refine lv_irem hx hb dL_drawn_137 (by decide) ?_
          refine lv_iadd hx hb dL_drawn_138 ?_
          refine lv_iconst (v := 1) hx hb dL_drawn_139 (by decide) ?_
          refine lv_iload hx hb dL_drawn_140 (lv_at hl 0 rfl) ?_
          refine lv_bipush (v := 9) hx hb dL_drawn_142 (by decide) ?_
          refine lv_iushr hx hb dL_drawn_144 rfl ?_
          refine lv_topi (fun v58 ev58 => ?_)
          replace h := h v58 ev58
          refine lv_iload_n hx hb dL_drawn_145 rfl (lv_at hl 3 rfl) ?_
          refine lv_iconst (v := 5) hx hb dL_drawn_146 (by decide) ?_
          refine lv_irem hx hb dL_drawn_147 (by decide) ?_
          obtain ⟨CJ156, hCJ156⟩ : ∃ n : Nat, n = cn100 + 0 + 0 := ⟨_, rfl⟩
          obtain ⟨SJ156, hSJ156⟩ : ∃ n : Nat, n = sn100 + 0 + 0 := ⟨_, rfl⟩
          have hJ156 : ∀ (t0_156 : Int32) (H : Heap) (locs : List Loc) (ls : Array Slot) (cj156 sj156 : Nat), jL_drawn_156 x5_100 z_100 v55 v56 v57 v58 (fun x5_100 z_100 => lL_drawn_100 L xs v2 v5 (fun z_100k => lL_drawn_185 L xs v3 v5 (fun z_185k => Q z_185k) 19 (0 : Int32) z_100k) n100 x5_100 z_100) t0_156 → cj156 ≤ CJ156 → sj156 ≤ SJ156 → zl_Wd g [] z_100 s H locs → lv_has ls 11 [(0, .ref b), (1, .ref (sw_ad g 0)), (2, .int v2), (3, .int v3), (4, .int v5), (5, .int x5_100), (6, .int v55)] → W p l e R s m args below meth c H locs cj156 sj156 Q0 (F0 m 156 ls [.int t0_156, .int v58, .int (1 : Int32), .int ((1 : Int32) + (v57 - v57 / (63 : Int32) * (63 : Int32))), .int v56, .ref (sw_ad g 0)]) := by
            intro t0_156 H locs ls cj156 sj156 h hcj156 hsj156 hW hl
            unfold jL_drawn_156 at h
            have g59 : cj156 + 134 ≤ R.cells := zc8 (x := cn100) (D := 0) (s := 134) (s' := 134) hcj156 hCJ156 g51 (Nat.le_of_ble_eq_true rfl)
            have g60 : cj156 + 1 ≤ Tcn100 := zc8 (x := cn100) (D := 0) (s := 1) (s' := 1) hcj156 hCJ156 g49 (Nat.le_of_ble_eq_true rfl)
            have g61 : sj156 + 804 ≤ R.slots := zc8 (x := sn100) (D := 0) (s := 804) (s' := 804) hsj156 hSJ156 g52 (Nat.le_of_ble_eq_true rfl)
            have g62 : sj156 + 6 ≤ Tsn100 := zc8 (x := sn100) (D := 0) (s := 6) (s' := 6) hsj156 hSJ156 g50 (Nat.le_of_ble_eq_true rfl)
            have y67 := h.1
            replace h := h.2
            refine lv_irem hx hb dL_drawn_156 y67 ?_
            refine lv_iadd hx hb dL_drawn_157 ?_
            refine lv_iload hx hb dL_drawn_158 (lv_at hl 6 rfl) ?_
            refine lv_bipush (v := 12) hx hb dL_drawn_160 (by decide) ?_
            refine lv_iushr hx hb dL_drawn_162 rfl ?_
            refine lv_topi (fun v63 ev63 => ?_)
            replace h := h v63 ev63
            refine lv_bipush (v := 10) hx hb dL_drawn_163 (by decide) ?_
            refine lv_irem hx hb dL_drawn_165 (by decide) ?_
            refine zl_ki (g := g) (rest := []) (zl_runH (g := g) (As := [.ref (sw_ad g 0), .int v56, .int ((1 : Int32) + (v57 - v57 / (63 : Int32) * (63 : Int32))), .int ((1 : Int32) + (v58 - v58 / t0_156 * t0_156)), .int (v63 - v63 / (10 : Int32) * (10 : Int32))]) (rest := []) hx hb hml hown hts (kL_addExaminer l hst (zl_re g H.size) z_100 v56 (((1 : Int32) + (v57 - v57 / (63 : Int32) * (63 : Int32)))) (((1 : Int32) + (v58 - v58 / t0_156 * t0_156))) ((v63 - v63 / (10 : Int32) * (10 : Int32)))) ch_L_addExaminer q_263 rfl rfl ⟨by rw [hRf]; exact (Nat.le_of_ble_eq_true rfl), by rw [hRl]; exact (Nat.le_of_ble_eq_true rfl)⟩ hW rfl hl.1 rfl (Nat.le_of_ble_eq_true rfl) dL_drawn_166 ⟨(zc1 (D := 1) g59 (Nat.le_of_ble_eq_true rfl)), (zc1 (D := 6) g61 (Nat.le_of_ble_eq_true rfl))⟩) hW (fun r9 z9 H locs h9 hW => ?_)
            obtain ⟨rfl, e9⟩ := h9
            replace h := h z9 e9
            obtain ⟨zp64, ezp64⟩ : ∃ z : zG, z = z9 := ⟨_, rfl⟩
            rw [← ezp64] at h hW
            refine lv_iload hx hb dL_drawn_169 (lv_at hl 5 rfl) ?_
            refine lv_icmp_eq (tgt := 176) hx hb dL_drawn_171 (by decide) (fun k65 => ?_) (fun k65 => ?_)
            · replace h := h.1 k65
              obtain ⟨v66, ev66⟩ : ∃ z : Int32, z = x5_100 + (1 : Int32) := ⟨_, rfl⟩
              replace h := h v66 ev66
              refine lv_iinc (v := v66) (lv' := [(5, .int v66), (0, .ref b), (1, .ref (sw_ad g 0)), (2, .int v2), (3, .int v3), (4, .int v5), (6, .int v55)]) hx hb dL_drawn_176 hl (k := 5) rfl (by rw [ev66]; rfl) (Nat.le_of_ble_eq_true rfl) rfl (fun ls hl => ?_)
              refine lv_goto (tgt := 100) hx hb dL_drawn_179 (by decide) ?_
              exact ih100 v66 zp64 _ _ _ _ _ h (zc10 (zc1 (D := 1) g60 (Nat.le_of_ble_eq_true rfl)) hTcn100 hcn100) (zc10 (zc1 (D := 6) g62 (Nat.le_of_ble_eq_true rfl)) hTsn100 hsn100) hW (lv_sub hl [1, 2, 3, 4, 5, 0] rfl)
            · replace h := h.2 k65
              exact False.elim h
          have g68 : cn100 + 0 ≤ CJ156 := Nat.le_of_eq hCJ156.symm
          have g69 : sn100 + 0 ≤ SJ156 := Nat.le_of_eq hSJ156.symm
          refine lv_if_ne (tgt := 155) hx hb dL_drawn_148 (by decide) (fun k70 => ?_) (fun k70 => ?_)
          · replace h := h.2 k70
            refine lv_iconst (v := 4) hx hb dL_drawn_155 (by decide) ?_
            exact hJ156 (4 : Int32) _ _ _ _ _ h (zc1 (D := 0) g68 (Nat.le_of_ble_eq_true rfl)) (zc1 (D := 0) g69 (Nat.le_of_ble_eq_true rfl)) hW (lv_sub hl [1, 2, 3, 4, 5, 6, 0] rfl)
          · replace h := h.1 k70
            refine lv_iconst (v := 2) hx hb dL_drawn_151 (by decide) ?_
            refine lv_goto (tgt := 156) hx hb dL_drawn_152 (by decide) ?_
            exact hJ156 (2 : Int32) _ _ _ _ _ h (zc1 (D := 0) g68 (Nat.le_of_ble_eq_true rfl)) (zc1 (D := 0) g69 (Nat.le_of_ble_eq_true rfl)) hW (lv_sub hl [1, 2, 3, 4, 5, 6, 0] rfl)
    exact key100 7 (0 : Int32) z_36k _ _ _ _ _ h (Nat.le_of_eq hCL100.symm) (Nat.le_of_eq hSL100.symm) hW (lv_sub hl [1, 2, 3, 4, 5, 0] rfl)
  have key36 : ∀ (n36 : Nat) (x5_36 : Int32) (z_36 : zG)  (H : Heap) (locs : List Loc) (ls : Array Slot) (cn36 sn36 : Nat), lL_drawn_36 L xs v2 v3 (fun z_36k => lL_drawn_100 L xs v2 v5 (fun z_100k => lL_drawn_185 L xs v3 v5 (fun z_185k => Q z_185k) 19 (0 : Int32) z_100k) 7 (0 : Int32) z_36k) n36 x5_36 z_36 → cn36 + n36 * 1 ≤ CL36 → sn36 + n36 * 6 ≤ SL36 → zl_Wd g [] z_36 s H locs → lv_has ls 11 [(0, .ref b), (1, .ref (sw_ad g 0)), (2, .int v2), (3, .int v3), (4, .int v5), (5, .int x5_36)] → W p l e R s m args below meth c H locs cn36 sn36 Q0 (F0 m 36 ls []) := by
    intro n36
    induction n36 with
    | zero =>
      intro x5_36 z_36  H locs ls cn36 sn36 h
      exact False.elim h
    | succ n36 ih36 =>
      intro x5_36 z_36  H locs ls cn36 sn36 h hcn36 hsn36 hW hl
      rw [lL_drawn_36.eq_2] at h
      obtain ⟨Tcn36, hTcn36⟩ : ∃ n : Nat, n = cn36 + 1 := ⟨_, rfl⟩
      obtain ⟨Tsn36, hTsn36⟩ : ∃ n : Nat, n = sn36 + 6 := ⟨_, rfl⟩
      have g71 : cn36 + 1 ≤ Tcn36 := Nat.le_of_eq hTcn36.symm
      have g72 : sn36 + 6 ≤ Tsn36 := Nat.le_of_eq hTsn36.symm
      have g73 : cn36 + 141 ≤ R.cells := zc9 (x := 0) (D := 229) (s := 369) (t := 141) hcn36 hCL36 gc0 (Nat.le_of_ble_eq_true rfl)
      have g74 : sn36 + 846 ≤ R.slots := zc9 (x := 0) (D := 2016) (s := 2856) (t := 846) hsn36 hSL36 gs0 (Nat.le_of_ble_eq_true rfl)
      refine lv_iload hx hb dL_drawn_36 (lv_at hl 5 rfl) ?_
      refine lv_iload_n hx hb dL_drawn_38 rfl (lv_at hl 3 rfl) ?_
      refine lv_icmp_ge (tgt := 97) hx hb dL_drawn_39 (by decide) (fun k75 => ?_) (fun k75 => ?_)
      · replace h := h.1 k75
        exact hX36 z_36 _ _ _ _ _ h (zc11 (zc1 (D := 0) g71 (Nat.le_of_ble_eq_true rfl)) hTcn36 hcn36) (zc11 (zc1 (D := 0) g72 (Nat.le_of_ble_eq_true rfl)) hTsn36 hsn36) hW (lv_sub hl [0, 1, 2, 3, 4] rfl)
      · replace h := h.2 k75
        refine lv_aload_n hx hb dL_drawn_42 rfl (lv_at hl 0 rfl) ?_
        refine lv_iconst (v := 1) hx hb dL_drawn_43 (by decide) ?_
        refine lv_iload hx hb dL_drawn_44 (lv_at hl 5 rfl) ?_
        refine lv_iadd hx hb dL_drawn_46 ?_
        refine zl_ki (g := g) (rest := []) (zl_runSs (g := g) (As := [.ref b, .int ((1 : Int32) + x5_36)]) (rest := []) hx hb hml hown hts (kL_cell l hst (zl_re g H.size) (((1 : Int32) + x5_36)) b L xs z_36 _ h) cs_L_cell q_160 rfl rfl ⟨by rw [hRf]; exact (Nat.le_of_ble_eq_true rfl), by rw [hRl]; exact (Nat.le_of_ble_eq_true rfl)⟩ hW hsc rfl hl.1 rfl (Nat.le_of_ble_eq_true rfl) dL_drawn_47 ⟨(zc1 (D := 0) g73 (Nat.le_of_ble_eq_true rfl)), (zc1 (D := 0) g74 (Nat.le_of_ble_eq_true rfl))⟩) hW (fun r76 z9 H locs h hW => ?_)
        obtain ⟨h, e9⟩ := h
        rw [e9] at hW
        refine lv_iconst (v := 1) hx hb dL_drawn_50 (by decide) ?_
        refine lv_iushr hx hb dL_drawn_51 rfl ?_
        refine lv_topi (fun v77 ev77 => ?_)
        replace h := h v77 ev77
        refine lv_istore (lv' := [(6, .int v77), (0, .ref b), (1, .ref (sw_ad g 0)), (2, .int v2), (3, .int v3), (4, .int v5), (5, .int x5_36)]) hx hb dL_drawn_52 hl (Nat.le_of_ble_eq_true rfl) rfl (fun ls hl => ?_)
        refine lv_aload_n hx hb dL_drawn_54 rfl (lv_at hl 2 rfl) ?_
        refine lv_bipush (v := 97) hx hb dL_drawn_55 (by decide) ?_
        refine lv_iload hx hb dL_drawn_57 (lv_at hl 0 rfl) ?_
        refine lv_bipush (v := 6) hx hb dL_drawn_59 (by decide) ?_
        refine lv_irem hx hb dL_drawn_61 (by decide) ?_
        refine lv_iadd hx hb dL_drawn_62 ?_
        refine lv_i2c hx hb dL_drawn_63 rfl ?_
        refine lv_topi (fun v78 ev78 => ?_)
        replace h := h v78 ev78
        refine lv_iload hx hb dL_drawn_64 (lv_at hl 0 rfl) ?_
        refine lv_iconst (v := 3) hx hb dL_drawn_66 (by decide) ?_
        refine lv_iushr hx hb dL_drawn_67 rfl ?_
        refine lv_topi (fun v79 ev79 => ?_)
        replace h := h v79 ev79
        refine lv_iload_n hx hb dL_drawn_68 rfl (lv_at hl 3 rfl) ?_
        refine lv_iconst (v := 3) hx hb dL_drawn_69 (by decide) ?_
        refine lv_irem hx hb dL_drawn_70 (by decide) ?_
        obtain ⟨CJ80, hCJ80⟩ : ∃ n : Nat, n = cn36 + 0 + 0 := ⟨_, rfl⟩
        obtain ⟨SJ80, hSJ80⟩ : ∃ n : Nat, n = sn36 + 0 + 0 := ⟨_, rfl⟩
        have hJ80 : ∀ (t0_80 : Int32) (H : Heap) (locs : List Loc) (ls : Array Slot) (cj80 sj80 : Nat), jL_drawn_80 x5_36 z_36 v78 v79 (fun x5_36 z_36 => lL_drawn_36 L xs v2 v3 (fun z_36k => lL_drawn_100 L xs v2 v5 (fun z_100k => lL_drawn_185 L xs v3 v5 (fun z_185k => Q z_185k) 19 (0 : Int32) z_100k) 7 (0 : Int32) z_36k) n36 x5_36 z_36) t0_80 → cj80 ≤ CJ80 → sj80 ≤ SJ80 → zl_Wd g [] z_36 s H locs → lv_has ls 11 [(0, .ref b), (1, .ref (sw_ad g 0)), (2, .int v2), (3, .int v3), (4, .int v5), (5, .int x5_36)] → W p l e R s m args below meth c H locs cj80 sj80 Q0 (F0 m 80 ls [.int t0_80, .int v79, .int v78, .ref (sw_ad g 0)]) := by
          intro t0_80 H locs ls cj80 sj80 h hcj80 hsj80 hW hl
          unfold jL_drawn_80 at h
          have g80 : cj80 + 141 ≤ R.cells := zc8 (x := cn36) (D := 0) (s := 141) (s' := 141) hcj80 hCJ80 g73 (Nat.le_of_ble_eq_true rfl)
          have g81 : cj80 + 1 ≤ Tcn36 := zc8 (x := cn36) (D := 0) (s := 1) (s' := 1) hcj80 hCJ80 g71 (Nat.le_of_ble_eq_true rfl)
          have g82 : sj80 + 846 ≤ R.slots := zc8 (x := sn36) (D := 0) (s := 846) (s' := 846) hsj80 hSJ80 g74 (Nat.le_of_ble_eq_true rfl)
          have g83 : sj80 + 6 ≤ Tsn36 := zc8 (x := sn36) (D := 0) (s := 6) (s' := 6) hsj80 hSJ80 g72 (Nat.le_of_ble_eq_true rfl)
          have y87 := h.1
          replace h := h.2
          refine lv_irem hx hb dL_drawn_80 y87 ?_
          refine zl_ki (g := g) (rest := []) (zl_runH (g := g) (As := [.ref (sw_ad g 0), .int v78, .int (v79 - v79 / t0_80 * t0_80)]) (rest := []) hx hb hml hown hts (kL_addDoor l hst (zl_re g H.size) z_36 v78 ((v79 - v79 / t0_80 * t0_80))) ch_L_addDoor q_164 rfl rfl ⟨by rw [hRf]; exact (Nat.le_of_ble_eq_true rfl), by rw [hRl]; exact (Nat.le_of_ble_eq_true rfl)⟩ hW rfl hl.1 rfl (Nat.le_of_ble_eq_true rfl) dL_drawn_81 ⟨(zc1 (D := 1) g80 (Nat.le_of_ble_eq_true rfl)), (zc1 (D := 6) g82 (Nat.le_of_ble_eq_true rfl))⟩) hW (fun r9 z9 H locs h9 hW => ?_)
          obtain ⟨rfl, e9⟩ := h9
          replace h := h z9 e9
          obtain ⟨zp84, ezp84⟩ : ∃ z : zG, z = z9 := ⟨_, rfl⟩
          rw [← ezp84] at h hW
          refine lv_iload hx hb dL_drawn_84 (lv_at hl 5 rfl) ?_
          refine lv_icmp_eq (tgt := 91) hx hb dL_drawn_86 (by decide) (fun k85 => ?_) (fun k85 => ?_)
          · replace h := h.1 k85
            obtain ⟨v86, ev86⟩ : ∃ z : Int32, z = x5_36 + (1 : Int32) := ⟨_, rfl⟩
            replace h := h v86 ev86
            refine lv_iinc (v := v86) (lv' := [(5, .int v86), (0, .ref b), (1, .ref (sw_ad g 0)), (2, .int v2), (3, .int v3), (4, .int v5)]) hx hb dL_drawn_91 hl (k := 5) rfl (by rw [ev86]; rfl) (Nat.le_of_ble_eq_true rfl) rfl (fun ls hl => ?_)
            refine lv_goto (tgt := 36) hx hb dL_drawn_94 (by decide) ?_
            exact ih36 v86 zp84 _ _ _ _ _ h (zc10 (zc1 (D := 1) g81 (Nat.le_of_ble_eq_true rfl)) hTcn36 hcn36) (zc10 (zc1 (D := 6) g83 (Nat.le_of_ble_eq_true rfl)) hTsn36 hsn36) hW (lv_sub hl [1, 2, 3, 4, 5, 0] rfl)
          · replace h := h.2 k85
            exact False.elim h
        have g88 : cn36 + 0 ≤ CJ80 := Nat.le_of_eq hCJ80.symm
        have g89 : sn36 + 0 ≤ SJ80 := Nat.le_of_eq hSJ80.symm
        refine lv_if_ne (tgt := 79) hx hb dL_drawn_71 (by decide) (fun k90 => ?_) (fun k90 => ?_)
        · replace h := h.2 k90
          refine lv_iconst (v := 2) hx hb dL_drawn_79 (by decide) ?_
          exact hJ80 (2 : Int32) _ _ _ _ _ h (zc1 (D := 0) g88 (Nat.le_of_ble_eq_true rfl)) (zc1 (D := 0) g89 (Nat.le_of_ble_eq_true rfl)) hW (lv_sub hl [1, 2, 3, 4, 5, 6] rfl)
        · replace h := h.1 k90
          refine lv_bipush (v := 6) hx hb dL_drawn_74 (by decide) ?_
          refine lv_goto (tgt := 80) hx hb dL_drawn_76 (by decide) ?_
          exact hJ80 (6 : Int32) _ _ _ _ _ h (zc1 (D := 0) g88 (Nat.le_of_ble_eq_true rfl)) (zc1 (D := 0) g89 (Nat.le_of_ble_eq_true rfl)) hW (lv_sub hl [1, 2, 3, 4, 5, 6] rfl)
  exact key36 9 (0 : Int32) z _ _ _ _ _ h (Nat.le_of_eq hCL36.symm) (Nat.le_of_eq hSL36.symm) hW (lv_sub hl [5, 4, 3, 2, 1, 0] rfl)
