/-! All the cells at the start, in their order. -/
def zqX (ac : Nat → ClassId) (q1 : Nat) (u : z6B) : va_W := (q1, .inr (6, [.ref u.1.1, .ref u.2.1.1, .int 0, .ref u.2.2.1.1, .ref u.2.2.2.1.1, .ref u.2.2.2.2.1.1, .ref u.2.2.2.2.2.1.1, .ref u.2.2.2.2.2.2.1, .int (-1), .int (-1)])) :: (zWX5 ac u.1.1 u.1.2 ++ (zWX5 ac u.2.1.1 u.2.1.2 ++ [(u.2.2.1.1, .inr (0, [.ref u.2.2.1.2.1.1, .int 0, .int 0])), (u.2.2.1.2.1.1, .inl (ac 3, 9, .inr (.inr (.inr (.inr u.2.2.1.2.1.2.1)))))]))
def zqY (ac : Nat → ClassId) (u : z6B) : va_W := zWX3 ac u.2.2.2.1.1 u.2.2.2.1.2 ++ (zWX2 ac u.2.2.2.2.1.1 u.2.2.2.2.1.2 ++ (zWX4 ac u.2.2.2.2.2.1.1 u.2.2.2.2.2.1.2 ++ (zWX1 ac u.2.2.2.2.2.2.1 u.2.2.2.2.2.2.2)))
def zqL (u : z6B) : List (Nat × zSB) := u.2.2.1.2.1.2.2
def zqT (ac : Nat → ClassId) (q1 : Nat) (u : z6B) : va_W := zqX ac q1 u ++ (zFl ac (zqL u) ++ zqY ac u)
theorem zT_eq (ac : Nat → ClassId) (q1 : Nat) (u : z6B) : zWX6 ac q1 u = zqT ac q1 u := by
  unfold zWX6 zWX0 zWh zqT zqX zqY zqL
  simp only [List.append_assoc, List.cons_append, List.nil_append]
theorem zFl_len (ac : Nat → ClassId) : ∀ L : List (Nat × zSB), (zFl ac L).length = 17 * L.length
  | [] => rfl
  | x :: L => by
    show (zWX5 ac x.1 x.2 ++ zFl ac L).length = _
    rw [List.length_append, zFl_len ac L, List.length_cons, show (zWX5 ac x.1 x.2).length = 17 from rfl]
    omega
theorem zFl_get (ac : Nat → ClassId) : ∀ (L : List (Nat × zSB)) (i : Nat) (x : Nat × zSB), L[i]? = some x → ∀ n, n < 17 → (zFl ac L)[17 * i + n]? = (zWX5 ac x.1 x.2)[n]?
  | [], i, x, h, n, hn => by cases h
  | y :: L, 0, x, h, n, hn => by
    cases h
    show (zWX5 ac y.1 y.2 ++ zFl ac L)[_]? = _
    rw [List.getElem?_append_left (by rw [show (zWX5 ac y.1 y.2).length = 17 from rfl]; omega), Nat.mul_zero, Nat.zero_add]
  | y :: L, i + 1, x, h, n, hn => by
    show (zWX5 ac y.1 y.2 ++ zFl ac L)[_]? = _
    rw [List.getElem?_append_right (by rw [show (zWX5 ac y.1 y.2).length = 17 from rfl]; omega), show (zWX5 ac y.1 y.2).length = 17 from rfl, show 17 * (i + 1) + n - 17 = 17 * i + n by omega]
    exact zFl_get ac L i x h n hn
/-- the i-th State -/
def zqS (u : z6B) (i : Nat) : Nat × zSB := (u.1 :: u.2.1 :: zqL u).getD i u.1
def zqP (k : Nat) : Nat := if k = 0 then 0 else if k < 3 then 34 + k else if k < 46 then k + 187 else if k < 233 then (if (k - 46) / 17 < 2 then 1 else 3) + 17 * ((k - 46) / 17) + zlp ((k - 46) % 17) else k
def zqI : List Nat := [0, 46, 47, 48, 49, 50, 51, 52, 53, 54, 56, 57, 58, 59, 60, 61, 62, 55, 63, 64, 65, 66, 67, 68, 69, 70, 71, 73, 74, 75, 76, 77, 78, 79, 72, 1, 2, 80, 81, 82, 83, 84, 85, 86, 87, 88, 90, 91, 92, 93, 94, 95, 96, 89, 97, 98, 99, 100, 101, 102, 103, 104, 105, 107, 108, 109, 110, 111, 112, 113, 106, 114, 115, 116, 117, 118, 119, 120, 121, 122, 124, 125, 126, 127, 128, 129, 130, 123, 131, 132, 133, 134, 135, 136, 137, 138, 139, 141, 142, 143, 144, 145, 146, 147, 140, 148, 149, 150, 151, 152, 153, 154, 155, 156, 158, 159, 160, 161, 162, 163, 164, 157, 165, 166, 167, 168, 169, 170, 171, 172, 173, 175, 176, 177, 178, 179, 180, 181, 174, 182, 183, 184, 185, 186, 187, 188, 189, 190, 192, 193, 194, 195, 196, 197, 198, 191, 199, 200, 201, 202, 203, 204, 205, 206, 207, 209, 210, 211, 212, 213, 214, 215, 208, 216, 217, 218, 219, 220, 221, 222, 223, 224, 226, 227, 228, 229, 230, 231, 232, 225, 3, 4, 5, 6, 7, 8, 9, 10, 11, 12, 13, 14, 15, 16, 17, 18, 19, 20, 21, 22, 23, 24, 25, 26, 27, 28, 29, 30, 31, 32]
theorem zqP_i0 : ∀ k, k < 233 → (k < 33 ∨ 46 ≤ k) → zqI.getD (zqP k) 0 = k := by decide +kernel
theorem zqP_i (k : Nat) (hk : sw_vk k) : zqI.getD (zqP k) 0 = k := zqP_i0 k (by rcases hk with h | h <;> omega) (by rcases hk with h | h <;> omega)
def zqA (q1 : Nat) (u : z6B) : Nat → Nat := fun k => if 46 ≤ k ∧ k < 233 then sAd (zqS u ((k - 46) / 17)).1 (zqS u ((k - 46) / 17)).2.1.1 ((k - 46) % 17) else ([q1, u.2.2.1.1, u.2.2.1.2.1.1, u.2.2.2.1.1, u.2.2.2.1.2 1, u.2.2.2.1.2 2, u.2.2.2.1.2 3, u.2.2.2.1.2 4, u.2.2.2.1.2 5, u.2.2.2.1.2 6, u.2.2.2.1.2 7, u.2.2.2.1.2 8, u.2.2.2.2.1.1, u.2.2.2.2.1.2 1, u.2.2.2.2.2.1.1, u.2.2.2.2.2.1.2 1, u.2.2.2.2.2.1.2 2, u.2.2.2.2.2.1.2 3, u.2.2.2.2.2.1.2 3 + 1 + 0, u.2.2.2.2.2.1.2 3 + 1 + 1, u.2.2.2.2.2.1.2 3 + 1 + 2, u.2.2.2.2.2.1.2 3 + 1 + 3, u.2.2.2.2.2.1.2 3 + 1 + 4, u.2.2.2.2.2.1.2 3 + 1 + 5, u.2.2.2.2.2.1.2 3 + 1 + 6, u.2.2.2.2.2.1.2 3 + 1 + 7, u.2.2.2.2.2.1.2 3 + 1 + 8, u.2.2.2.2.2.1.2 3 + 1 + 9, u.2.2.2.2.2.1.2 3 + 1 + 10, u.2.2.2.2.2.1.2 3 + 1 + 11, u.2.2.2.2.2.1.2 3 + 1 + 12, u.2.2.2.2.2.2.1, u.2.2.2.2.2.2.2 1] : List Nat).getD (if k < 46 then k else k - 187) 0
def zqM (u : z6B) : sM := fun k j => if k = 0 then (if j = 8 ∨ j = 9 then -1 else 0) else if k = 33 then (if j = 16 ∨ j = 17 then -1 else 0) else if k = 34 then (if j = 2 then 10 else 0) else if k < 46 then 0 else if (k - 46) % 17 = 0 then (if j = 14 then 10 else 0) else if (k - 46) % 17 < 11 then 0 else (zqS u ((k - 46) / 17)).2.1.2 ((k - 46) % 17 - 11) j
def zqG (sz : Nat) (D : va_G) (ac : Nat → ClassId) (sk sv : Nat → Nat) (q1 : Nat) (u : z6B) : sG := (sz, zqA q1 u, ac, D, sk, sv)
section ZT
variable {sz : Nat} {D : va_G} {ac : Nat → ClassId} {sk sv : Nat → Nat} {q1 : Nat} {u : z6B}
theorem zqM_0 (i j : Nat) : zqM u (46 + 17 * i) j = if j = 14 then 10 else 0 := by
  unfold zqM
  rw [if_neg (show ¬ 46 + 17 * i = 0 by omega), if_neg (show ¬ 46 + 17 * i = 33 by omega), if_neg (show ¬ 46 + 17 * i = 34 by omega), if_neg (show ¬ 46 + 17 * i < 46 by omega), if_pos (show (46 + 17 * i - 46) % 17 = 0 by omega)]
theorem zqM_1 (i : Nat) {r : Nat} (h1 : 0 < r) (h2 : r < 11) (j : Nat) : zqM u (46 + 17 * i + r) j = 0 := by
  unfold zqM
  rw [if_neg (show ¬ 46 + 17 * i + r = 0 by omega), if_neg (show ¬ 46 + 17 * i + r = 33 by omega), if_neg (show ¬ 46 + 17 * i + r = 34 by omega), if_neg (show ¬ 46 + 17 * i + r < 46 by omega), if_neg (show ¬ (46 + 17 * i + r - 46) % 17 = 0 by omega), if_pos (show (46 + 17 * i + r - 46) % 17 < 11 by omega)]
theorem zqM_2 (i : Nat) {x : Nat} (hx : x < 6) : zqM u (46 + 17 * i + (11 + x)) = (zqS u i).2.1.2 x := by
  funext j
  unfold zqM
  rw [if_neg (show ¬ 46 + 17 * i + (11 + x) = 0 by omega), if_neg (show ¬ 46 + 17 * i + (11 + x) = 33 by omega), if_neg (show ¬ 46 + 17 * i + (11 + x) = 34 by omega), if_neg (show ¬ 46 + 17 * i + (11 + x) < 46 by omega), if_neg (show ¬ (46 + 17 * i + (11 + x) - 46) % 17 = 0 by omega), if_neg (show ¬ (46 + 17 * i + (11 + x) - 46) % 17 < 11 by omega), show (46 + 17 * i + (11 + x) - 46) / 17 = i by omega, show (46 + 17 * i + (11 + x) - 46) % 17 - 11 = x by omega]
theorem zqA_s {i r : Nat} (hi : i < 11) (hr : r < 17) : zqA q1 u (46 + 17 * i + r) = sAd (zqS u i).1 (zqS u i).2.1.1 r := by
  unfold zqA
  rw [if_pos (show 46 ≤ 46 + 17 * i + r ∧ 46 + 17 * i + r < 233 by omega), show (46 + 17 * i + r - 46) / 17 = i by omega, show (46 + 17 * i + r - 46) % 17 = r by omega]
theorem zqP_s {i r : Nat} (hi : i < 11) (hr : r < 17) : zqP (46 + 17 * i + r) = (if i < 2 then 1 else 3) + 17 * i + zlp r := by
  unfold zqP
  rw [if_neg (show ¬ 46 + 17 * i + r = 0 by omega), if_neg (show ¬ 46 + 17 * i + r < 3 by omega), if_neg (show ¬ 46 + 17 * i + r < 46 by omega), if_pos (show 46 + 17 * i + r < 233 by omega), show (46 + 17 * i + r - 46) / 17 = i by omega, show (46 + 17 * i + r - 46) % 17 = r by omega]
theorem zlp_lt {r : Nat} (hr : r < 17) : zlp r < 17 := by
  unfold zlp
  split
  · omega
  · split <;> omega
theorem zqM_ok : zMok (zqM u) := by
  refine ⟨fun j => rfl, fun k j h1 h2 => ?_, fun j => rfl, fun j => rfl, fun k j h1 h2 => ?_, fun j => zqM_0 0 j, fun r j h1 h2 => zqM_1 0 h1 h2 j, fun x k hx hk => ?_⟩
  · unfold zqM
    rw [if_neg (show ¬ k = 0 by omega), if_neg (show ¬ k = 33 by omega), if_neg (show ¬ k = 34 by omega), if_pos (show k < 46 by omega)]
  · unfold zqM
    rw [if_neg (show ¬ k = 0 by omega), if_neg (show ¬ k = 33 by omega), if_neg (show ¬ k = 34 by omega), if_pos (show k < 46 by omega)]
  · have e := zqM_2 (u := u) 0 hx
    rw [show 57 + x = 46 + 17 * 0 + (11 + x) by omega, e]
    exact (zqS u 0).2.2 x k hx hk (Or.inl hx)
theorem zL_9 : (zqL u).length = 9 := u.2.2.1.2.2.1
theorem zqX_len : (zqX ac q1 u).length = 37 := rfl
theorem zS_pos {i r : Nat} (hi : i < 11) (hr : r < 17) : (zqT ac q1 u)[zqP (46 + 17 * i + r)]? = (zWX5 ac (zqS u i).1 (zqS u i).2)[zlp r]? := by
  have hl := zlp_lt hr
  rw [zqP_s hi hr]
  unfold zqT
  match i, hi with
  | 0, _ =>
    rw [List.getElem?_append_left (by rw [zqX_len, if_pos (by decide)]; omega), if_pos (by decide)]
    rw [show 1 + 17 * 0 + zlp r = zlp r + 1 by omega]
    unfold zqX
    rw [List.getElem?_cons_succ, List.getElem?_append_left (by rw [show (zWX5 ac u.1.1 u.1.2).length = 17 from rfl]; exact hl)]
    rfl
  | 1, _ =>
    rw [List.getElem?_append_left (by rw [zqX_len, if_pos (by decide)]; omega), if_pos (by decide)]
    rw [show 1 + 17 * 1 + zlp r = (17 + zlp r) + 1 by omega]
    unfold zqX
    rw [List.getElem?_cons_succ, List.getElem?_append_right (by rw [show (zWX5 ac u.1.1 u.1.2).length = 17 from rfl]; omega), show (zWX5 ac u.1.1 u.1.2).length = 17 from rfl, show 17 + zlp r - 17 = zlp r by omega, List.getElem?_append_left (by rw [show (zWX5 ac u.2.1.1 u.2.1.2).length = 17 from rfl]; exact hl)]
    rfl
  | i + 2, hi =>
    have hL := zL_9 (u := u)
    rw [List.getElem?_append_right (by rw [zqX_len, if_neg (by omega)]; omega), zqX_len, if_neg (by omega), List.getElem?_append_left (by rw [zFl_len, hL]; omega), show 3 + 17 * (i + 2) + zlp r - 37 = 17 * i + zlp r by omega]
    refine zFl_get ac _ i _ ?_ _ hl
    show (zqL u)[i]? = some ((zqL u).getD i u.1)
    rw [List.getD_eq_getElem?_getD]
    cases h : (zqL u)[i]? with
    | none => rw [List.getElem?_eq_none_iff] at h; omega
    | some y => rfl
/-- the cells of the States -/
theorem zS_all {i r : Nat} (hi : i < 11) (hr : r < 17) : ∃ x, (zqT ac q1 u)[zqP (46 + 17 * i + r)]? = some (zqA q1 u (46 + 17 * i + r), x) ∧ ∀ H, va_at D sw_cl (zqA q1 u (46 + 17 * i + r), x) H → va_at D sw_cl (zqA q1 u (46 + 17 * i + r), sw_e (zqG sz D ac sk sv q1 u) (zqM u) (46 + 17 * i + r)) H := by
  refine ⟨zSE ac (zqS u i).2.1.1 (zqS u i).2.1.2 r, ?_, fun H h => ?_⟩
  · rw [zS_pos hi hr, zqA_s hi hr]
    exact zS_get ac (zqS u i).1 (zqS u i).2.1.1 (zqS u i).2.1.2 r hr
  · have el : sw_lay (46 + 17 * i + r) = sw_layS (46 + 17 * i) r := sw_lay_s i r hr
    unfold sw_e
    rw [el]
    exact zS_at (g := zqG sz D ac sk sv q1 u) (M := zqM u) (b := 46 + 17 * i) (q := (zqS u i).1) (fun r hr => zqA_s hi hr) (zqM_0 i) (fun r h1 h2 j => zqM_1 i h1 h2 j) (fun x hx => zqM_2 i hx) r hr h
theorem z_hist {j : Nat} (hj : j < 9) : u.2.2.1.2.1.2.1 j = some (zqA q1 u (80 + 17 * j)) := by
  have h1 := u.2.2.1.2.2.2 j hj
  have hL := zL_9 (u := u)
  rw [h1, show 80 + 17 * j = 46 + 17 * (j + 2) + 0 by omega, zqA_s (show j + 2 < 11 by omega) (by decide)]
  show ((zqL u)[j]?).map Prod.fst = some (((zqL u).getD j u.1).1)
  rw [List.getD_eq_getElem?_getD]
  cases h : (zqL u)[j]? with
  | none => rw [List.getElem?_eq_none_iff] at h; omega
  | some y => rfl
theorem z_oper : ∀ j : Nat, j < 13 → some (u.2.2.2.2.2.1.2 3 + 1 + j) = some (zqA q1 u (18 + 1 * j))
  | 0, _ => rfl
  | 1, _ => rfl
  | 2, _ => rfl
  | 3, _ => rfl
  | 4, _ => rfl
  | 5, _ => rfl
  | 6, _ => rfl
  | 7, _ => rfl
  | 8, _ => rfl
  | 9, _ => rfl
  | 10, _ => rfl
  | 11, _ => rfl
  | 12, _ => rfl
  | k + 13, h => absurd h (by omega)
theorem zT_1 {n : Nat} (h : n < 37) : (zqT ac q1 u)[n]? = (zqX ac q1 u)[n]? := List.getElem?_append_left (by rw [zqX_len]; exact h)
theorem zT_2 (n : Nat) : (zqT ac q1 u)[190 + n]? = (zqY ac u)[n]? := by
  unfold zqT
  rw [List.getElem?_append_right (by rw [zqX_len]; omega), zqX_len, List.getElem?_append_right (by rw [zFl_len, zL_9]; omega), zFl_len, zL_9, show 190 + n - 37 - 17 * 9 = n by omega]
set_option maxRecDepth 20000 in
theorem zN_all : ∀ k, k < 33 → ∃ x, (zqT ac q1 u)[zqP k]? = some (zqA q1 u k, x) ∧ ∀ H, va_at D sw_cl (zqA q1 u k, x) H → va_at D sw_cl (zqA q1 u k, sw_e (zqG sz D ac sk sv q1 u) (zqM u) k) H
  | 0, _ => ⟨_, (zT_1 (n := 0) (by decide)).trans rfl, fun H h => h⟩
  | 1, _ => ⟨_, (zT_1 (n := 35) (by decide)).trans rfl, fun H h => h⟩
  | 2, _ => ⟨_, (zT_1 (n := 36) (by decide)).trans rfl, fun H h => z_refs (fun j hj => z_hist hj) h⟩
  | 3, _ => ⟨_, (zT_2 0).trans rfl, fun H h => h⟩
  | 4, _ => ⟨_, (zT_2 1).trans rfl, fun H h => h⟩
  | 5, _ => ⟨_, (zT_2 2).trans rfl, fun H h => h⟩
  | 6, _ => ⟨_, (zT_2 3).trans rfl, fun H h => h⟩
  | 7, _ => ⟨_, (zT_2 4).trans rfl, fun H h => h⟩
  | 8, _ => ⟨_, (zT_2 5).trans rfl, fun H h => h⟩
  | 9, _ => ⟨_, (zT_2 6).trans rfl, fun H h => h⟩
  | 10, _ => ⟨_, (zT_2 7).trans rfl, fun H h => h⟩
  | 11, _ => ⟨_, (zT_2 8).trans rfl, fun H h => h⟩
  | 12, _ => ⟨_, (zT_2 9).trans rfl, fun H h => h⟩
  | 13, _ => ⟨_, (zT_2 10).trans rfl, fun H h => h⟩
  | 14, _ => ⟨_, (zT_2 11).trans rfl, fun H h => h⟩
  | 15, _ => ⟨_, (zT_2 12).trans rfl, fun H h => h⟩
  | 16, _ => ⟨_, (zT_2 13).trans rfl, fun H h => h⟩
  | 17, _ => ⟨_, (zT_2 14).trans rfl, fun H h => z_refs z_oper h⟩
  | 18, _ => ⟨_, (zT_2 15).trans rfl, fun H h => h⟩
  | 19, _ => ⟨_, (zT_2 16).trans rfl, fun H h => h⟩
  | 20, _ => ⟨_, (zT_2 17).trans rfl, fun H h => h⟩
  | 21, _ => ⟨_, (zT_2 18).trans rfl, fun H h => h⟩
  | 22, _ => ⟨_, (zT_2 19).trans rfl, fun H h => h⟩
  | 23, _ => ⟨_, (zT_2 20).trans rfl, fun H h => h⟩
  | 24, _ => ⟨_, (zT_2 21).trans rfl, fun H h => h⟩
  | 25, _ => ⟨_, (zT_2 22).trans rfl, fun H h => h⟩
  | 26, _ => ⟨_, (zT_2 23).trans rfl, fun H h => h⟩
  | 27, _ => ⟨_, (zT_2 24).trans rfl, fun H h => h⟩
  | 28, _ => ⟨_, (zT_2 25).trans rfl, fun H h => h⟩
  | 29, _ => ⟨_, (zT_2 26).trans rfl, fun H h => h⟩
  | 30, _ => ⟨_, (zT_2 27).trans rfl, fun H h => h⟩
  | 31, _ => ⟨_, (zT_2 28).trans rfl, fun H h => h⟩
  | 32, _ => ⟨_, (zT_2 29).trans rfl, fun H h => h⟩
  | k + 33, h => absurd h (by omega)
theorem zW_all {k : Nat} (hk : sw_vk k) : ∃ x, (zqT ac q1 u)[zqP k]? = some (zqA q1 u k, x) ∧ ∀ H, va_at D sw_cl (zqA q1 u k, x) H → va_at D sw_cl (zqA q1 u k, sw_e (zqG sz D ac sk sv q1 u) (zqM u) k) H := by
  rcases hk with h | h
  · exact zN_all k h
  · have e : k = 46 + 17 * ((k - 46) / 17) + (k - 46) % 17 := by omega
    have := zS_all (sz := sz) (D := D) (ac := ac) (sk := sk) (sv := sv) (q1 := q1) (u := u) (i := (k - 46) / 17) (r := (k - 46) % 17) (by omega) (by omega)
    rw [← e] at this
    exact this
/-- the cells, as the world has them -/
theorem zq_W {A : Nat → Prop} {H : Heap} (hD : va_D A (zqT ac q1 u)) (hP : va_P D sw_cl (zqT ac q1 u) H) (hA : ∀ q, A q → sz ≤ q) : sw_in (zqG sz D ac sk sv q1 u) ∧ (∀ k, sw_vk k → sz ≤ sw_ad (zqG sz D ac sk sv q1 u) k) ∧ va_P D sw_cl (sw_W (zqG sz D ac sk sv q1 u) (zqM u)) H := by
  refine ⟨fun i j hi hj e => ?_, fun i hi => ?_, fun k q hq => ?_⟩
  · obtain ⟨x, hx, -⟩ := zW_all (sz := sz) (D := D) (ac := ac) (sk := sk) (sv := sv) (q1 := q1) (u := u) hi
    obtain ⟨y, hy, -⟩ := zW_all (sz := sz) (D := D) (ac := ac) (sk := sk) (sv := sv) (q1 := q1) (u := u) hj
    have r := hD.1 _ _ _ _ hx hy e
    rw [← zqP_i i hi, ← zqP_i j hj, r]
  · obtain ⟨x, hx, -⟩ := zW_all (sz := sz) (D := D) (ac := ac) (sk := sk) (sv := sv) (q1 := q1) (u := u) hi
    exact hA _ (hD.2 _ _ hx)
  · obtain ⟨hk, -⟩ := sw_W_at _ _ hq
    rw [sw_W_i _ _ hk] at hq
    cases hq
    obtain ⟨x, h1, h2⟩ := zW_all (sz := sz) (D := D) (ac := ac) (sk := sk) (sv := sv) (q1 := q1) (u := u) (sw_vk_un hk)
    exact h2 H (hP _ _ h1)
end ZT
