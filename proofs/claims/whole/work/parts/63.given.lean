/-! What the Statement gives of the start: strings, statics, what a handler does not take. -/
abbrev zgv : Cond := Jvm.Cond.and given_1 narrow_1
set_option maxRecDepth 20000 in
theorem zy_ex : ∀ i : Nat, i < 28 → Cond.exactly (Term.string (sw_so i) (sw_si i)) "java/lang/String" ∈ flatC zgv
  | 0, _ => List.mem_of_getElem? (i := 94) rfl
  | 1, _ => List.mem_of_getElem? (i := 106) rfl
  | 2, _ => List.mem_of_getElem? (i := 126) rfl
  | 3, _ => List.mem_of_getElem? (i := 142) rfl
  | 4, _ => List.mem_of_getElem? (i := 156) rfl
  | 5, _ => List.mem_of_getElem? (i := 164) rfl
  | 6, _ => List.mem_of_getElem? (i := 179) rfl
  | 7, _ => List.mem_of_getElem? (i := 194) rfl
  | 8, _ => List.mem_of_getElem? (i := 206) rfl
  | 9, _ => List.mem_of_getElem? (i := 217) rfl
  | 10, _ => List.mem_of_getElem? (i := 229) rfl
  | 11, _ => List.mem_of_getElem? (i := 237) rfl
  | 12, _ => List.mem_of_getElem? (i := 243) rfl
  | 13, _ => List.mem_of_getElem? (i := 248) rfl
  | 14, _ => List.mem_of_getElem? (i := 260) rfl
  | 15, _ => List.mem_of_getElem? (i := 268) rfl
  | 16, _ => List.mem_of_getElem? (i := 280) rfl
  | 17, _ => List.mem_of_getElem? (i := 286) rfl
  | 18, _ => List.mem_of_getElem? (i := 296) rfl
  | 19, _ => List.mem_of_getElem? (i := 301) rfl
  | 20, _ => List.mem_of_getElem? (i := 310) rfl
  | 21, _ => List.mem_of_getElem? (i := 320) rfl
  | 22, _ => List.mem_of_getElem? (i := 329) rfl
  | 23, _ => List.mem_of_getElem? (i := 336) rfl
  | 24, _ => List.mem_of_getElem? (i := 349) rfl
  | 25, _ => List.mem_of_getElem? (i := 354) rfl
  | 26, _ => List.mem_of_getElem? (i := 364) rfl
  | 27, _ => List.mem_of_getElem? (i := 373) rfl
  | k + 28, h => absurd h (by omega)
set_option maxRecDepth 20000 in
theorem zy_co : ∀ i : Nat, i < 28 → Cond.eq (.field (Term.string (sw_so i) (sw_si i)) "java/lang/String" "coder" "B") (.int 0) ∈ flatC zgv
  | 0, _ => List.mem_of_getElem? (i := 95) rfl
  | 1, _ => List.mem_of_getElem? (i := 107) rfl
  | 2, _ => List.mem_of_getElem? (i := 127) rfl
  | 3, _ => List.mem_of_getElem? (i := 143) rfl
  | 4, _ => List.mem_of_getElem? (i := 157) rfl
  | 5, _ => List.mem_of_getElem? (i := 165) rfl
  | 6, _ => List.mem_of_getElem? (i := 180) rfl
  | 7, _ => List.mem_of_getElem? (i := 195) rfl
  | 8, _ => List.mem_of_getElem? (i := 207) rfl
  | 9, _ => List.mem_of_getElem? (i := 218) rfl
  | 10, _ => List.mem_of_getElem? (i := 230) rfl
  | 11, _ => List.mem_of_getElem? (i := 238) rfl
  | 12, _ => List.mem_of_getElem? (i := 244) rfl
  | 13, _ => List.mem_of_getElem? (i := 249) rfl
  | 14, _ => List.mem_of_getElem? (i := 261) rfl
  | 15, _ => List.mem_of_getElem? (i := 269) rfl
  | 16, _ => List.mem_of_getElem? (i := 281) rfl
  | 17, _ => List.mem_of_getElem? (i := 287) rfl
  | 18, _ => List.mem_of_getElem? (i := 297) rfl
  | 19, _ => List.mem_of_getElem? (i := 302) rfl
  | 20, _ => List.mem_of_getElem? (i := 311) rfl
  | 21, _ => List.mem_of_getElem? (i := 321) rfl
  | 22, _ => List.mem_of_getElem? (i := 330) rfl
  | 23, _ => List.mem_of_getElem? (i := 337) rfl
  | 24, _ => List.mem_of_getElem? (i := 350) rfl
  | 25, _ => List.mem_of_getElem? (i := 355) rfl
  | 26, _ => List.mem_of_getElem? (i := 365) rfl
  | 27, _ => List.mem_of_getElem? (i := 374) rfl
  | k + 28, h => absurd h (by omega)
set_option maxRecDepth 20000 in
theorem zy_ar : ∀ i : Nat, i < 28 → Cond.arrayOf (.field (Term.string (sw_so i) (sw_si i)) "java/lang/String" "value" "[B") .byte ∈ flatC zgv
  | 0, _ => List.mem_of_getElem? (i := 96) rfl
  | 1, _ => List.mem_of_getElem? (i := 108) rfl
  | 2, _ => List.mem_of_getElem? (i := 128) rfl
  | 3, _ => List.mem_of_getElem? (i := 144) rfl
  | 4, _ => List.mem_of_getElem? (i := 158) rfl
  | 5, _ => List.mem_of_getElem? (i := 166) rfl
  | 6, _ => List.mem_of_getElem? (i := 181) rfl
  | 7, _ => List.mem_of_getElem? (i := 196) rfl
  | 8, _ => List.mem_of_getElem? (i := 208) rfl
  | 9, _ => List.mem_of_getElem? (i := 219) rfl
  | 10, _ => List.mem_of_getElem? (i := 231) rfl
  | 11, _ => List.mem_of_getElem? (i := 239) rfl
  | 12, _ => List.mem_of_getElem? (i := 245) rfl
  | 13, _ => List.mem_of_getElem? (i := 250) rfl
  | 14, _ => List.mem_of_getElem? (i := 262) rfl
  | 15, _ => List.mem_of_getElem? (i := 270) rfl
  | 16, _ => List.mem_of_getElem? (i := 282) rfl
  | 17, _ => List.mem_of_getElem? (i := 288) rfl
  | 18, _ => List.mem_of_getElem? (i := 298) rfl
  | 19, _ => List.mem_of_getElem? (i := 303) rfl
  | 20, _ => List.mem_of_getElem? (i := 312) rfl
  | 21, _ => List.mem_of_getElem? (i := 322) rfl
  | 22, _ => List.mem_of_getElem? (i := 331) rfl
  | 23, _ => List.mem_of_getElem? (i := 338) rfl
  | 24, _ => List.mem_of_getElem? (i := 351) rfl
  | 25, _ => List.mem_of_getElem? (i := 356) rfl
  | 26, _ => List.mem_of_getElem? (i := 366) rfl
  | 27, _ => List.mem_of_getElem? (i := 375) rfl
  | k + 28, h => absurd h (by omega)
set_option maxRecDepth 20000 in
theorem zy_le : ∀ i : Nat, i < 28 → Cond.eq (.length (.field (Term.string (sw_so i) (sw_si i)) "java/lang/String" "value" "[B")) (.int (Int32.ofNat (sw_sb i).length)) ∈ flatC zgv
  | 0, _ => List.mem_of_getElem? (i := 97) rfl
  | 1, _ => List.mem_of_getElem? (i := 109) rfl
  | 2, _ => List.mem_of_getElem? (i := 129) rfl
  | 3, _ => List.mem_of_getElem? (i := 145) rfl
  | 4, _ => List.mem_of_getElem? (i := 159) rfl
  | 5, _ => List.mem_of_getElem? (i := 167) rfl
  | 6, _ => List.mem_of_getElem? (i := 182) rfl
  | 7, _ => List.mem_of_getElem? (i := 197) rfl
  | 8, _ => List.mem_of_getElem? (i := 209) rfl
  | 9, _ => List.mem_of_getElem? (i := 220) rfl
  | 10, _ => List.mem_of_getElem? (i := 232) rfl
  | 11, _ => List.mem_of_getElem? (i := 240) rfl
  | 12, _ => List.mem_of_getElem? (i := 246) rfl
  | 13, _ => List.mem_of_getElem? (i := 251) rfl
  | 14, _ => List.mem_of_getElem? (i := 263) rfl
  | 15, _ => List.mem_of_getElem? (i := 271) rfl
  | 16, _ => List.mem_of_getElem? (i := 283) rfl
  | 17, _ => List.mem_of_getElem? (i := 289) rfl
  | 18, _ => List.mem_of_getElem? (i := 299) rfl
  | 19, _ => List.mem_of_getElem? (i := 304) rfl
  | 20, _ => List.mem_of_getElem? (i := 313) rfl
  | 21, _ => List.mem_of_getElem? (i := 323) rfl
  | 22, _ => List.mem_of_getElem? (i := 332) rfl
  | 23, _ => List.mem_of_getElem? (i := 339) rfl
  | 24, _ => List.mem_of_getElem? (i := 352) rfl
  | 25, _ => List.mem_of_getElem? (i := 357) rfl
  | 26, _ => List.mem_of_getElem? (i := 367) rfl
  | 27, _ => List.mem_of_getElem? (i := 376) rfl
  | k + 28, h => absurd h (by omega)
set_option maxRecDepth 20000 in
theorem zy_el0 : ∀ j : Nat, j < (sw_sb 0).length → Cond.eq (.elem (.field (Term.string (sw_so 0) (sw_si 0)) "java/lang/String" "value" "[B") (.int (Int32.ofNat j))) (.int ((sw_sb 0).getD j 0)) ∈ flatC zgv
  | 0, _ => List.mem_of_getElem? (i := 98) rfl
  | 1, _ => List.mem_of_getElem? (i := 99) rfl
  | 2, _ => List.mem_of_getElem? (i := 100) rfl
  | 3, _ => List.mem_of_getElem? (i := 101) rfl
  | 4, _ => List.mem_of_getElem? (i := 102) rfl
  | 5, _ => List.mem_of_getElem? (i := 103) rfl
  | 6, _ => List.mem_of_getElem? (i := 104) rfl
  | 7, _ => List.mem_of_getElem? (i := 105) rfl
  | k + 8, h => absurd h (by show ¬ k + 8 < 8; omega)
set_option maxRecDepth 20000 in
theorem zy_el1 : ∀ j : Nat, j < (sw_sb 1).length → Cond.eq (.elem (.field (Term.string (sw_so 1) (sw_si 1)) "java/lang/String" "value" "[B") (.int (Int32.ofNat j))) (.int ((sw_sb 1).getD j 0)) ∈ flatC zgv
  | 0, _ => List.mem_of_getElem? (i := 110) rfl
  | 1, _ => List.mem_of_getElem? (i := 111) rfl
  | 2, _ => List.mem_of_getElem? (i := 112) rfl
  | 3, _ => List.mem_of_getElem? (i := 113) rfl
  | 4, _ => List.mem_of_getElem? (i := 114) rfl
  | 5, _ => List.mem_of_getElem? (i := 115) rfl
  | 6, _ => List.mem_of_getElem? (i := 116) rfl
  | 7, _ => List.mem_of_getElem? (i := 117) rfl
  | 8, _ => List.mem_of_getElem? (i := 118) rfl
  | 9, _ => List.mem_of_getElem? (i := 119) rfl
  | 10, _ => List.mem_of_getElem? (i := 120) rfl
  | 11, _ => List.mem_of_getElem? (i := 121) rfl
  | 12, _ => List.mem_of_getElem? (i := 122) rfl
  | 13, _ => List.mem_of_getElem? (i := 123) rfl
  | 14, _ => List.mem_of_getElem? (i := 124) rfl
  | 15, _ => List.mem_of_getElem? (i := 125) rfl
  | k + 16, h => absurd h (by show ¬ k + 16 < 16; omega)
set_option maxRecDepth 20000 in
theorem zy_el2 : ∀ j : Nat, j < (sw_sb 2).length → Cond.eq (.elem (.field (Term.string (sw_so 2) (sw_si 2)) "java/lang/String" "value" "[B") (.int (Int32.ofNat j))) (.int ((sw_sb 2).getD j 0)) ∈ flatC zgv
  | 0, _ => List.mem_of_getElem? (i := 130) rfl
  | 1, _ => List.mem_of_getElem? (i := 131) rfl
  | 2, _ => List.mem_of_getElem? (i := 132) rfl
  | 3, _ => List.mem_of_getElem? (i := 133) rfl
  | 4, _ => List.mem_of_getElem? (i := 134) rfl
  | 5, _ => List.mem_of_getElem? (i := 135) rfl
  | 6, _ => List.mem_of_getElem? (i := 136) rfl
  | 7, _ => List.mem_of_getElem? (i := 137) rfl
  | 8, _ => List.mem_of_getElem? (i := 138) rfl
  | 9, _ => List.mem_of_getElem? (i := 139) rfl
  | 10, _ => List.mem_of_getElem? (i := 140) rfl
  | 11, _ => List.mem_of_getElem? (i := 141) rfl
  | k + 12, h => absurd h (by show ¬ k + 12 < 12; omega)
set_option maxRecDepth 20000 in
theorem zy_el3 : ∀ j : Nat, j < (sw_sb 3).length → Cond.eq (.elem (.field (Term.string (sw_so 3) (sw_si 3)) "java/lang/String" "value" "[B") (.int (Int32.ofNat j))) (.int ((sw_sb 3).getD j 0)) ∈ flatC zgv
  | 0, _ => List.mem_of_getElem? (i := 146) rfl
  | 1, _ => List.mem_of_getElem? (i := 147) rfl
  | 2, _ => List.mem_of_getElem? (i := 148) rfl
  | 3, _ => List.mem_of_getElem? (i := 149) rfl
  | 4, _ => List.mem_of_getElem? (i := 150) rfl
  | 5, _ => List.mem_of_getElem? (i := 151) rfl
  | 6, _ => List.mem_of_getElem? (i := 152) rfl
  | 7, _ => List.mem_of_getElem? (i := 153) rfl
  | 8, _ => List.mem_of_getElem? (i := 154) rfl
  | 9, _ => List.mem_of_getElem? (i := 155) rfl
  | k + 10, h => absurd h (by show ¬ k + 10 < 10; omega)
set_option maxRecDepth 20000 in
theorem zy_el4 : ∀ j : Nat, j < (sw_sb 4).length → Cond.eq (.elem (.field (Term.string (sw_so 4) (sw_si 4)) "java/lang/String" "value" "[B") (.int (Int32.ofNat j))) (.int ((sw_sb 4).getD j 0)) ∈ flatC zgv
  | 0, _ => List.mem_of_getElem? (i := 160) rfl
  | 1, _ => List.mem_of_getElem? (i := 161) rfl
  | 2, _ => List.mem_of_getElem? (i := 162) rfl
  | 3, _ => List.mem_of_getElem? (i := 163) rfl
  | k + 4, h => absurd h (by show ¬ k + 4 < 4; omega)
set_option maxRecDepth 20000 in
theorem zy_el5 : ∀ j : Nat, j < (sw_sb 5).length → Cond.eq (.elem (.field (Term.string (sw_so 5) (sw_si 5)) "java/lang/String" "value" "[B") (.int (Int32.ofNat j))) (.int ((sw_sb 5).getD j 0)) ∈ flatC zgv
  | 0, _ => List.mem_of_getElem? (i := 168) rfl
  | 1, _ => List.mem_of_getElem? (i := 169) rfl
  | 2, _ => List.mem_of_getElem? (i := 170) rfl
  | 3, _ => List.mem_of_getElem? (i := 171) rfl
  | 4, _ => List.mem_of_getElem? (i := 172) rfl
  | 5, _ => List.mem_of_getElem? (i := 173) rfl
  | 6, _ => List.mem_of_getElem? (i := 174) rfl
  | 7, _ => List.mem_of_getElem? (i := 175) rfl
  | 8, _ => List.mem_of_getElem? (i := 176) rfl
  | 9, _ => List.mem_of_getElem? (i := 177) rfl
  | 10, _ => List.mem_of_getElem? (i := 178) rfl
  | k + 11, h => absurd h (by show ¬ k + 11 < 11; omega)
set_option maxRecDepth 20000 in
theorem zy_el6 : ∀ j : Nat, j < (sw_sb 6).length → Cond.eq (.elem (.field (Term.string (sw_so 6) (sw_si 6)) "java/lang/String" "value" "[B") (.int (Int32.ofNat j))) (.int ((sw_sb 6).getD j 0)) ∈ flatC zgv
  | 0, _ => List.mem_of_getElem? (i := 183) rfl
  | 1, _ => List.mem_of_getElem? (i := 184) rfl
  | 2, _ => List.mem_of_getElem? (i := 185) rfl
  | 3, _ => List.mem_of_getElem? (i := 186) rfl
  | 4, _ => List.mem_of_getElem? (i := 187) rfl
  | 5, _ => List.mem_of_getElem? (i := 188) rfl
  | 6, _ => List.mem_of_getElem? (i := 189) rfl
  | 7, _ => List.mem_of_getElem? (i := 190) rfl
  | 8, _ => List.mem_of_getElem? (i := 191) rfl
  | 9, _ => List.mem_of_getElem? (i := 192) rfl
  | 10, _ => List.mem_of_getElem? (i := 193) rfl
  | k + 11, h => absurd h (by show ¬ k + 11 < 11; omega)
set_option maxRecDepth 20000 in
theorem zy_el7 : ∀ j : Nat, j < (sw_sb 7).length → Cond.eq (.elem (.field (Term.string (sw_so 7) (sw_si 7)) "java/lang/String" "value" "[B") (.int (Int32.ofNat j))) (.int ((sw_sb 7).getD j 0)) ∈ flatC zgv
  | 0, _ => List.mem_of_getElem? (i := 198) rfl
  | 1, _ => List.mem_of_getElem? (i := 199) rfl
  | 2, _ => List.mem_of_getElem? (i := 200) rfl
  | 3, _ => List.mem_of_getElem? (i := 201) rfl
  | 4, _ => List.mem_of_getElem? (i := 202) rfl
  | 5, _ => List.mem_of_getElem? (i := 203) rfl
  | 6, _ => List.mem_of_getElem? (i := 204) rfl
  | 7, _ => List.mem_of_getElem? (i := 205) rfl
  | k + 8, h => absurd h (by show ¬ k + 8 < 8; omega)
set_option maxRecDepth 20000 in
theorem zy_el8 : ∀ j : Nat, j < (sw_sb 8).length → Cond.eq (.elem (.field (Term.string (sw_so 8) (sw_si 8)) "java/lang/String" "value" "[B") (.int (Int32.ofNat j))) (.int ((sw_sb 8).getD j 0)) ∈ flatC zgv
  | 0, _ => List.mem_of_getElem? (i := 210) rfl
  | 1, _ => List.mem_of_getElem? (i := 211) rfl
  | 2, _ => List.mem_of_getElem? (i := 212) rfl
  | 3, _ => List.mem_of_getElem? (i := 213) rfl
  | 4, _ => List.mem_of_getElem? (i := 214) rfl
  | 5, _ => List.mem_of_getElem? (i := 215) rfl
  | 6, _ => List.mem_of_getElem? (i := 216) rfl
  | k + 7, h => absurd h (by show ¬ k + 7 < 7; omega)
set_option maxRecDepth 20000 in
theorem zy_el9 : ∀ j : Nat, j < (sw_sb 9).length → Cond.eq (.elem (.field (Term.string (sw_so 9) (sw_si 9)) "java/lang/String" "value" "[B") (.int (Int32.ofNat j))) (.int ((sw_sb 9).getD j 0)) ∈ flatC zgv
  | 0, _ => List.mem_of_getElem? (i := 221) rfl
  | 1, _ => List.mem_of_getElem? (i := 222) rfl
  | 2, _ => List.mem_of_getElem? (i := 223) rfl
  | 3, _ => List.mem_of_getElem? (i := 224) rfl
  | 4, _ => List.mem_of_getElem? (i := 225) rfl
  | 5, _ => List.mem_of_getElem? (i := 226) rfl
  | 6, _ => List.mem_of_getElem? (i := 227) rfl
  | 7, _ => List.mem_of_getElem? (i := 228) rfl
  | k + 8, h => absurd h (by show ¬ k + 8 < 8; omega)
set_option maxRecDepth 20000 in
theorem zy_el10 : ∀ j : Nat, j < (sw_sb 10).length → Cond.eq (.elem (.field (Term.string (sw_so 10) (sw_si 10)) "java/lang/String" "value" "[B") (.int (Int32.ofNat j))) (.int ((sw_sb 10).getD j 0)) ∈ flatC zgv
  | 0, _ => List.mem_of_getElem? (i := 233) rfl
  | 1, _ => List.mem_of_getElem? (i := 234) rfl
  | 2, _ => List.mem_of_getElem? (i := 235) rfl
  | 3, _ => List.mem_of_getElem? (i := 236) rfl
  | k + 4, h => absurd h (by show ¬ k + 4 < 4; omega)
set_option maxRecDepth 20000 in
theorem zy_el11 : ∀ j : Nat, j < (sw_sb 11).length → Cond.eq (.elem (.field (Term.string (sw_so 11) (sw_si 11)) "java/lang/String" "value" "[B") (.int (Int32.ofNat j))) (.int ((sw_sb 11).getD j 0)) ∈ flatC zgv
  | 0, _ => List.mem_of_getElem? (i := 241) rfl
  | 1, _ => List.mem_of_getElem? (i := 242) rfl
  | k + 2, h => absurd h (by show ¬ k + 2 < 2; omega)
set_option maxRecDepth 20000 in
theorem zy_el12 : ∀ j : Nat, j < (sw_sb 12).length → Cond.eq (.elem (.field (Term.string (sw_so 12) (sw_si 12)) "java/lang/String" "value" "[B") (.int (Int32.ofNat j))) (.int ((sw_sb 12).getD j 0)) ∈ flatC zgv
  | 0, _ => List.mem_of_getElem? (i := 247) rfl
  | k + 1, h => absurd h (by show ¬ k + 1 < 1; omega)
set_option maxRecDepth 20000 in
theorem zy_el13 : ∀ j : Nat, j < (sw_sb 13).length → Cond.eq (.elem (.field (Term.string (sw_so 13) (sw_si 13)) "java/lang/String" "value" "[B") (.int (Int32.ofNat j))) (.int ((sw_sb 13).getD j 0)) ∈ flatC zgv
  | 0, _ => List.mem_of_getElem? (i := 252) rfl
  | 1, _ => List.mem_of_getElem? (i := 253) rfl
  | 2, _ => List.mem_of_getElem? (i := 254) rfl
  | 3, _ => List.mem_of_getElem? (i := 255) rfl
  | 4, _ => List.mem_of_getElem? (i := 256) rfl
  | 5, _ => List.mem_of_getElem? (i := 257) rfl
  | 6, _ => List.mem_of_getElem? (i := 258) rfl
  | 7, _ => List.mem_of_getElem? (i := 259) rfl
  | k + 8, h => absurd h (by show ¬ k + 8 < 8; omega)
set_option maxRecDepth 20000 in
theorem zy_el14 : ∀ j : Nat, j < (sw_sb 14).length → Cond.eq (.elem (.field (Term.string (sw_so 14) (sw_si 14)) "java/lang/String" "value" "[B") (.int (Int32.ofNat j))) (.int ((sw_sb 14).getD j 0)) ∈ flatC zgv
  | 0, _ => List.mem_of_getElem? (i := 264) rfl
  | 1, _ => List.mem_of_getElem? (i := 265) rfl
  | 2, _ => List.mem_of_getElem? (i := 266) rfl
  | 3, _ => List.mem_of_getElem? (i := 267) rfl
  | k + 4, h => absurd h (by show ¬ k + 4 < 4; omega)
set_option maxRecDepth 20000 in
theorem zy_el15 : ∀ j : Nat, j < (sw_sb 15).length → Cond.eq (.elem (.field (Term.string (sw_so 15) (sw_si 15)) "java/lang/String" "value" "[B") (.int (Int32.ofNat j))) (.int ((sw_sb 15).getD j 0)) ∈ flatC zgv
  | 0, _ => List.mem_of_getElem? (i := 272) rfl
  | 1, _ => List.mem_of_getElem? (i := 273) rfl
  | 2, _ => List.mem_of_getElem? (i := 274) rfl
  | 3, _ => List.mem_of_getElem? (i := 275) rfl
  | 4, _ => List.mem_of_getElem? (i := 276) rfl
  | 5, _ => List.mem_of_getElem? (i := 277) rfl
  | 6, _ => List.mem_of_getElem? (i := 278) rfl
  | 7, _ => List.mem_of_getElem? (i := 279) rfl
  | k + 8, h => absurd h (by show ¬ k + 8 < 8; omega)
set_option maxRecDepth 20000 in
theorem zy_el16 : ∀ j : Nat, j < (sw_sb 16).length → Cond.eq (.elem (.field (Term.string (sw_so 16) (sw_si 16)) "java/lang/String" "value" "[B") (.int (Int32.ofNat j))) (.int ((sw_sb 16).getD j 0)) ∈ flatC zgv
  | 0, _ => List.mem_of_getElem? (i := 284) rfl
  | 1, _ => List.mem_of_getElem? (i := 285) rfl
  | k + 2, h => absurd h (by show ¬ k + 2 < 2; omega)
set_option maxRecDepth 20000 in
theorem zy_el17 : ∀ j : Nat, j < (sw_sb 17).length → Cond.eq (.elem (.field (Term.string (sw_so 17) (sw_si 17)) "java/lang/String" "value" "[B") (.int (Int32.ofNat j))) (.int ((sw_sb 17).getD j 0)) ∈ flatC zgv
  | 0, _ => List.mem_of_getElem? (i := 290) rfl
  | 1, _ => List.mem_of_getElem? (i := 291) rfl
  | 2, _ => List.mem_of_getElem? (i := 292) rfl
  | 3, _ => List.mem_of_getElem? (i := 293) rfl
  | 4, _ => List.mem_of_getElem? (i := 294) rfl
  | 5, _ => List.mem_of_getElem? (i := 295) rfl
  | k + 6, h => absurd h (by show ¬ k + 6 < 6; omega)
set_option maxRecDepth 20000 in
theorem zy_el18 : ∀ j : Nat, j < (sw_sb 18).length → Cond.eq (.elem (.field (Term.string (sw_so 18) (sw_si 18)) "java/lang/String" "value" "[B") (.int (Int32.ofNat j))) (.int ((sw_sb 18).getD j 0)) ∈ flatC zgv
  | 0, _ => List.mem_of_getElem? (i := 300) rfl
  | k + 1, h => absurd h (by show ¬ k + 1 < 1; omega)
set_option maxRecDepth 20000 in
theorem zy_el19 : ∀ j : Nat, j < (sw_sb 19).length → Cond.eq (.elem (.field (Term.string (sw_so 19) (sw_si 19)) "java/lang/String" "value" "[B") (.int (Int32.ofNat j))) (.int ((sw_sb 19).getD j 0)) ∈ flatC zgv
  | 0, _ => List.mem_of_getElem? (i := 305) rfl
  | 1, _ => List.mem_of_getElem? (i := 306) rfl
  | 2, _ => List.mem_of_getElem? (i := 307) rfl
  | 3, _ => List.mem_of_getElem? (i := 308) rfl
  | 4, _ => List.mem_of_getElem? (i := 309) rfl
  | k + 5, h => absurd h (by show ¬ k + 5 < 5; omega)
set_option maxRecDepth 20000 in
theorem zy_el20 : ∀ j : Nat, j < (sw_sb 20).length → Cond.eq (.elem (.field (Term.string (sw_so 20) (sw_si 20)) "java/lang/String" "value" "[B") (.int (Int32.ofNat j))) (.int ((sw_sb 20).getD j 0)) ∈ flatC zgv
  | 0, _ => List.mem_of_getElem? (i := 314) rfl
  | 1, _ => List.mem_of_getElem? (i := 315) rfl
  | 2, _ => List.mem_of_getElem? (i := 316) rfl
  | 3, _ => List.mem_of_getElem? (i := 317) rfl
  | 4, _ => List.mem_of_getElem? (i := 318) rfl
  | 5, _ => List.mem_of_getElem? (i := 319) rfl
  | k + 6, h => absurd h (by show ¬ k + 6 < 6; omega)
set_option maxRecDepth 20000 in
theorem zy_el21 : ∀ j : Nat, j < (sw_sb 21).length → Cond.eq (.elem (.field (Term.string (sw_so 21) (sw_si 21)) "java/lang/String" "value" "[B") (.int (Int32.ofNat j))) (.int ((sw_sb 21).getD j 0)) ∈ flatC zgv
  | 0, _ => List.mem_of_getElem? (i := 324) rfl
  | 1, _ => List.mem_of_getElem? (i := 325) rfl
  | 2, _ => List.mem_of_getElem? (i := 326) rfl
  | 3, _ => List.mem_of_getElem? (i := 327) rfl
  | 4, _ => List.mem_of_getElem? (i := 328) rfl
  | k + 5, h => absurd h (by show ¬ k + 5 < 5; omega)
set_option maxRecDepth 20000 in
theorem zy_el22 : ∀ j : Nat, j < (sw_sb 22).length → Cond.eq (.elem (.field (Term.string (sw_so 22) (sw_si 22)) "java/lang/String" "value" "[B") (.int (Int32.ofNat j))) (.int ((sw_sb 22).getD j 0)) ∈ flatC zgv
  | 0, _ => List.mem_of_getElem? (i := 333) rfl
  | 1, _ => List.mem_of_getElem? (i := 334) rfl
  | 2, _ => List.mem_of_getElem? (i := 335) rfl
  | k + 3, h => absurd h (by show ¬ k + 3 < 3; omega)
set_option maxRecDepth 20000 in
theorem zy_el23 : ∀ j : Nat, j < (sw_sb 23).length → Cond.eq (.elem (.field (Term.string (sw_so 23) (sw_si 23)) "java/lang/String" "value" "[B") (.int (Int32.ofNat j))) (.int ((sw_sb 23).getD j 0)) ∈ flatC zgv
  | 0, _ => List.mem_of_getElem? (i := 340) rfl
  | 1, _ => List.mem_of_getElem? (i := 341) rfl
  | 2, _ => List.mem_of_getElem? (i := 342) rfl
  | 3, _ => List.mem_of_getElem? (i := 343) rfl
  | 4, _ => List.mem_of_getElem? (i := 344) rfl
  | 5, _ => List.mem_of_getElem? (i := 345) rfl
  | 6, _ => List.mem_of_getElem? (i := 346) rfl
  | 7, _ => List.mem_of_getElem? (i := 347) rfl
  | 8, _ => List.mem_of_getElem? (i := 348) rfl
  | k + 9, h => absurd h (by show ¬ k + 9 < 9; omega)
set_option maxRecDepth 20000 in
theorem zy_el24 : ∀ j : Nat, j < (sw_sb 24).length → Cond.eq (.elem (.field (Term.string (sw_so 24) (sw_si 24)) "java/lang/String" "value" "[B") (.int (Int32.ofNat j))) (.int ((sw_sb 24).getD j 0)) ∈ flatC zgv
  | 0, _ => List.mem_of_getElem? (i := 353) rfl
  | k + 1, h => absurd h (by show ¬ k + 1 < 1; omega)
set_option maxRecDepth 20000 in
theorem zy_el25 : ∀ j : Nat, j < (sw_sb 25).length → Cond.eq (.elem (.field (Term.string (sw_so 25) (sw_si 25)) "java/lang/String" "value" "[B") (.int (Int32.ofNat j))) (.int ((sw_sb 25).getD j 0)) ∈ flatC zgv
  | 0, _ => List.mem_of_getElem? (i := 358) rfl
  | 1, _ => List.mem_of_getElem? (i := 359) rfl
  | 2, _ => List.mem_of_getElem? (i := 360) rfl
  | 3, _ => List.mem_of_getElem? (i := 361) rfl
  | 4, _ => List.mem_of_getElem? (i := 362) rfl
  | 5, _ => List.mem_of_getElem? (i := 363) rfl
  | k + 6, h => absurd h (by show ¬ k + 6 < 6; omega)
set_option maxRecDepth 20000 in
theorem zy_el26 : ∀ j : Nat, j < (sw_sb 26).length → Cond.eq (.elem (.field (Term.string (sw_so 26) (sw_si 26)) "java/lang/String" "value" "[B") (.int (Int32.ofNat j))) (.int ((sw_sb 26).getD j 0)) ∈ flatC zgv
  | 0, _ => List.mem_of_getElem? (i := 368) rfl
  | 1, _ => List.mem_of_getElem? (i := 369) rfl
  | 2, _ => List.mem_of_getElem? (i := 370) rfl
  | 3, _ => List.mem_of_getElem? (i := 371) rfl
  | k + 4, h => absurd h (by show ¬ k + 4 < 4; omega)
set_option maxRecDepth 20000 in
theorem zy_el27 : ∀ j : Nat, j < (sw_sb 27).length → Cond.eq (.elem (.field (Term.string (sw_so 27) (sw_si 27)) "java/lang/String" "value" "[B") (.int (Int32.ofNat j))) (.int ((sw_sb 27).getD j 0)) ∈ flatC zgv
  | k + 0, h => absurd h (by show ¬ k + 0 < 0; omega)
set_option maxRecDepth 20000 in
theorem zy_el : ∀ i : Nat, i < 28 → ∀ j : Nat, j < (sw_sb i).length → Cond.eq (.elem (.field (Term.string (sw_so i) (sw_si i)) "java/lang/String" "value" "[B") (.int (Int32.ofNat j))) (.int ((sw_sb i).getD j 0)) ∈ flatC zgv
  | 0, _ => zy_el0
  | 1, _ => zy_el1
  | 2, _ => zy_el2
  | 3, _ => zy_el3
  | 4, _ => zy_el4
  | 5, _ => zy_el5
  | 6, _ => zy_el6
  | 7, _ => zy_el7
  | 8, _ => zy_el8
  | 9, _ => zy_el9
  | 10, _ => zy_el10
  | 11, _ => zy_el11
  | 12, _ => zy_el12
  | 13, _ => zy_el13
  | 14, _ => zy_el14
  | 15, _ => zy_el15
  | 16, _ => zy_el16
  | 17, _ => zy_el17
  | 18, _ => zy_el18
  | 19, _ => zy_el19
  | 20, _ => zy_el20
  | 21, _ => zy_el21
  | 22, _ => zy_el22
  | 23, _ => zy_el23
  | 24, _ => zy_el24
  | 25, _ => zy_el25
  | 26, _ => zy_el26
  | 27, _ => zy_el27
  | k + 28, h => absurd h (by omega)
set_option maxRecDepth 20000 in
theorem zy_rf : ∀ i : Nat, i < 28 → Cond.stringRef (sw_so i) (sw_si i) (sw_stx i) ∈ lw_tbl
  | 0, _ => qt_5 _ (List.mem_of_getElem? (i := 79) rfl)
  | 1, _ => qt_5 _ (List.mem_of_getElem? (i := 80) rfl)
  | 2, _ => qt_5 _ (List.mem_of_getElem? (i := 81) rfl)
  | 3, _ => qt_5 _ (List.mem_of_getElem? (i := 82) rfl)
  | 4, _ => qt_5 _ (List.mem_of_getElem? (i := 83) rfl)
  | 5, _ => qt_5 _ (List.mem_of_getElem? (i := 84) rfl)
  | 6, _ => qt_5 _ (List.mem_of_getElem? (i := 85) rfl)
  | 7, _ => qt_5 _ (List.mem_of_getElem? (i := 86) rfl)
  | 8, _ => qt_5 _ (List.mem_of_getElem? (i := 87) rfl)
  | 9, _ => qt_5 _ (List.mem_of_getElem? (i := 88) rfl)
  | 10, _ => qt_7 _ (List.mem_of_getElem? (i := 215) rfl)
  | 11, _ => qt_7 _ (List.mem_of_getElem? (i := 216) rfl)
  | 12, _ => qt_7 _ (List.mem_of_getElem? (i := 231) rfl)
  | 13, _ => qt_7 _ (List.mem_of_getElem? (i := 236) rfl)
  | 14, _ => qt_7 _ (List.mem_of_getElem? (i := 237) rfl)
  | 15, _ => qt_7 _ (List.mem_of_getElem? (i := 238) rfl)
  | 16, _ => qt_7 _ (List.mem_of_getElem? (i := 239) rfl)
  | 17, _ => qt_8 _ (List.mem_of_getElem? (i := 0) rfl)
  | 18, _ => qt_8 _ (List.mem_of_getElem? (i := 1) rfl)
  | 19, _ => qt_8 _ (List.mem_of_getElem? (i := 2) rfl)
  | 20, _ => qt_8 _ (List.mem_of_getElem? (i := 3) rfl)
  | 21, _ => qt_8 _ (List.mem_of_getElem? (i := 4) rfl)
  | 22, _ => qt_8 _ (List.mem_of_getElem? (i := 5) rfl)
  | 23, _ => qt_8 _ (List.mem_of_getElem? (i := 6) rfl)
  | 24, _ => qt_8 _ (List.mem_of_getElem? (i := 7) rfl)
  | 25, _ => qt_8 _ (List.mem_of_getElem? (i := 8) rfl)
  | 26, _ => qt_8 _ (List.mem_of_getElem? (i := 9) rfl)
  | 27, _ => qt_8 _ (List.mem_of_getElem? (i := 10) rfl)
  | k + 28, h => absurd h (by omega)
set_option maxRecDepth 20000 in
theorem zy_ln : ∀ i : Nat, i < 28 → (sw_sb i).length < 2 ^ 31
  | 0, _ => by decide
  | 1, _ => by decide
  | 2, _ => by decide
  | 3, _ => by decide
  | 4, _ => by decide
  | 5, _ => by decide
  | 6, _ => by decide
  | 7, _ => by decide
  | 8, _ => by decide
  | 9, _ => by decide
  | 10, _ => by decide
  | 11, _ => by decide
  | 12, _ => by decide
  | 13, _ => by decide
  | 14, _ => by decide
  | 15, _ => by decide
  | 16, _ => by decide
  | 17, _ => by decide
  | 18, _ => by decide
  | 19, _ => by decide
  | 20, _ => by decide
  | 21, _ => by decide
  | 22, _ => by decide
  | 23, _ => by decide
  | 24, _ => by decide
  | 25, _ => by decide
  | 26, _ => by decide
  | 27, _ => by decide
  | k + 28, h => absurd h (by omega)
set_option maxRecDepth 20000 in
theorem zy_nc : ∀ q ∈ sw_nc, Cond.not (.castable q.1 q.2) ∈ flatC zgv := by
  unfold sw_nc
  refine List.forall_mem_cons.mpr ⟨List.mem_of_getElem? (i := 47) rfl, List.forall_mem_cons.mpr ⟨List.mem_of_getElem? (i := 20) rfl, List.forall_mem_cons.mpr ⟨List.mem_of_getElem? (i := 48) rfl, List.forall_mem_cons.mpr ⟨List.mem_of_getElem? (i := 76) rfl, List.forall_mem_cons.mpr ⟨List.mem_of_getElem? (i := 21) rfl, List.forall_mem_cons.mpr ⟨List.mem_of_getElem? (i := 35) rfl, List.forall_mem_cons.mpr ⟨List.mem_of_getElem? (i := 49) rfl, List.forall_mem_cons.mpr ⟨List.mem_of_getElem? (i := 22) rfl, List.forall_mem_cons.mpr ⟨List.mem_of_getElem? (i := 50) rfl, fun _ h => absurd h List.not_mem_nil⟩⟩⟩⟩⟩⟩⟩⟩⟩
theorem zy_us : Cond.isRef (.static "java/lang/Throwable" "UNASSIGNED_STACK" "[Ljava/lang/StackTraceElement;") ∈ flatC zgv := List.mem_of_getElem? (i := 4) rfl
theorem zy_usl : Cond.laysStatic "java/lang/Throwable" "UNASSIGNED_STACK" "[Ljava/lang/StackTraceElement;" ∈ lw_tbl := qt_2 _ (List.mem_of_getElem? (i := 142) rfl)
theorem zy_usi : Cond.initialized "java/lang/Throwable" ∈ lw_tbl := qt_1 _ (List.mem_of_getElem? (i := 9) rfl)
theorem zy_ss : Cond.isRef (.static "java/lang/Throwable" "SUPPRESSED_SENTINEL" "Ljava/util/List;") ∈ flatC zgv := List.mem_of_getElem? (i := 5) rfl
theorem zy_ssl : Cond.laysStatic "java/lang/Throwable" "SUPPRESSED_SENTINEL" "Ljava/util/List;" ∈ lw_tbl := qt_2 _ (List.mem_of_getElem? (i := 144) rfl)
theorem zy_ssi : Cond.initialized "java/lang/Throwable" ∈ lw_tbl := qt_1 _ (List.mem_of_getElem? (i := 9) rfl)
theorem zy_pf : Cond.isRef (.static "jdk/internal/util/Preconditions" "SIOOBE_FORMATTER" "Ljava/util/function/BiFunction;") ∈ flatC zgv := List.mem_of_getElem? (i := 7) rfl
theorem zy_pfl : Cond.laysStatic "jdk/internal/util/Preconditions" "SIOOBE_FORMATTER" "Ljava/util/function/BiFunction;" ∈ lw_tbl := qt_5 _ (List.mem_of_getElem? (i := 118) rfl)
theorem zy_pfi : Cond.initialized "jdk/internal/util/Preconditions" ∈ lw_tbl := qt_1 _ (List.mem_of_getElem? (i := 24) rfl)
theorem zy_cs : Cond.eq (.static "java/lang/String" "COMPACT_STRINGS" "Z") (.int 1) ∈ flatC zgv := List.mem_of_getElem? (i := 6) rfl
theorem zy_csl : Cond.laysStatic "java/lang/String" "COMPACT_STRINGS" "Z" ∈ lw_tbl := qt_5 _ (List.mem_of_getElem? (i := 102) rfl)
theorem zy_csi : Cond.initialized "java/lang/String" ∈ lw_tbl := qt_1 _ (List.mem_of_getElem? (i := 20) rfl)
/-- the strings and statics at the start -/
theorem z_str {args : Array Value} {s : State} (hA : ∀ a : Nat, a < s.heap.size → ¬ s.heap.size ≤ a) (hts : ∀ w ∈ lw_tbl, w.before args s = true) (hgv : zgv.before args s = true) : ∃ sk sv : Nat → Nat, ∀ (g : sG), g.1 = s.heap.size → sw_sk g = sk → sw_sv g = sv → ∀ i : Nat, i < 28 → sw_S1 g i s s.heap := by
  have hs := flat_of_before _ hgv
  have h0 : ∀ i : Nat, ∃ q : Nat × Nat, i < 28 → ∀ (g : sG), g.1 = s.heap.size → sw_sk g i = q.1 → sw_sv g i = q.2 → sw_S1 g i s s.heap := by
    intro i
    by_cases hi : i < 28
    · obtain ⟨a, c, cA, kA, q1, q2, q3, q4, q5, q6, -⟩ := Cond.exactly_spec (args := args) (first := s) (o := none) (s := s) (idx := []) (t := Term.string (sw_so i) (sw_si i)) (cls := "java/lang/String") (hs _ (zy_ex i hi))
      obtain ⟨t, ht, hT⟩ := va_Tof (f := fun j => .int ((sw_sb i).getD j 0)) (A := fun a => s.heap.size ≤ a) (zy_ln i hi) (hs _ (zy_ar i hi)) (va_eqt (hs _ (zy_le i hi))) (fun j hj => va_eqt (hs _ (zy_el i hi j hj))) hA
      refine ⟨(a, t), fun _ g h1 h2 h3 => ?_⟩
      unfold sw_S1
      rw [h2, h3]
      have eA : sw_A g = fun a => s.heap.size ≤ a := by unfold sw_A; rw [h1]
      rw [eA]
      exact ⟨⟨cA, q3, q5, by rw [q6]; exact q2, hA a (Array.getElem?_eq_some_iff.mp q3).1⟩, vk_OFof q1 (va_eqt (hs _ (zy_co i hi))) hA, vk_OFof q1 ht hA, hT, vk_R.of (hts _ (zy_rf i hi)) q1⟩
    · exact ⟨(0, 0), fun h => absurd h hi⟩
  obtain ⟨ad, had⟩ := Classical.axiomOfChoice h0
  exact ⟨fun i => (ad i).1, fun i => (ad i).2, fun g h1 h2 h3 i hi => had i hi g h1 (congrFun h2 i) (congrFun h3 i)⟩
theorem z_sta {args : Array Value} {s : State} (hA : ∀ a : Nat, a < s.heap.size → ¬ s.heap.size ≤ a) (hts : ∀ w ∈ lw_tbl, w.before args s = true) (hgv : zgv.before args s = true) (g : sG) (h1 : g.1 = s.heap.size) : vx_Zq Bundle.tN "UNASSIGNED_STACK" Bundle.steD (sw_A g) s s.heap ∧ vx_Zq Bundle.tN "SUPPRESSED_SENTINEL" Bundle.listD (sw_A g) s s.heap ∧ sw_CS g s s.heap := by
  have hs := flat_of_before _ hgv
  have eA : sw_A g = fun a => s.heap.size ≤ a := by unfold sw_A; rw [h1]
  unfold sw_CS
  rw [eA]
  exact ⟨vx_Zqof (hts _ zy_usl) (hts _ zy_usi) (hs _ zy_us) hA, vx_Zqof (hts _ zy_ssl) (hts _ zy_ssi) (hs _ zy_ss) hA, va_Zof (hts _ zy_csl) (hts _ zy_csi) (va_eqi (hs _ zy_cs)) hA, va_Zqof (hts _ zy_pfl) (hts _ zy_pfi) (hs _ zy_pf) hA, fun q hq => va_Nc.of (hs _ (zy_nc q hq))⟩
