theorem zA_eq {g : sG} {n : Nat} (h1 : g.1 = n) (hfx : ∀ k, sw_vk k → n ≤ sw_ad g k) : sw_A g = fun a => n ≤ a := by
  funext a
  apply propext
  unfold sw_A sw_fx
  rw [h1]
  refine ⟨fun h => ?_, Or.inl⟩
  rcases h with h | ⟨k, h, e⟩
  · exact h
  · rw [e]; exact hfx k h
/-! What the Statement gives of the start: strings, statics, what a handler does not take. -/
abbrev zgv : Cond := Jvm.Cond.and given_1 narrow_1
set_option maxRecDepth 20000 in
theorem zy_ex : ∀ i : Nat, i < 18 → Cond.exactly (Term.string (sw_so i) (sw_si i)) "java/lang/String" ∈ flatC zgv
  | 0, _ => List.mem_of_getElem? (i := 401) rfl
  | 1, _ => List.mem_of_getElem? (i := 422) rfl
  | 2, _ => List.mem_of_getElem? (i := 452) rfl
  | 3, _ => List.mem_of_getElem? (i := 479) rfl
  | 4, _ => List.mem_of_getElem? (i := 505) rfl
  | 5, _ => List.mem_of_getElem? (i := 526) rfl
  | 6, _ => List.mem_of_getElem? (i := 555) rfl
  | 7, _ => List.mem_of_getElem? (i := 585) rfl
  | 8, _ => List.mem_of_getElem? (i := 613) rfl
  | 9, _ => List.mem_of_getElem? (i := 641) rfl
  | 10, _ => List.mem_of_getElem? (i := 291) rfl
  | 11, _ => List.mem_of_getElem? (i := 303) rfl
  | 12, _ => List.mem_of_getElem? (i := 310) rfl
  | 13, _ => List.mem_of_getElem? (i := 318) rfl
  | 14, _ => List.mem_of_getElem? (i := 327) rfl
  | 15, _ => List.mem_of_getElem? (i := 337) rfl
  | 16, _ => List.mem_of_getElem? (i := 362) rfl
  | 17, _ => List.mem_of_getElem? (i := 380) rfl
  | k + 18, h => absurd h (by omega)
set_option maxRecDepth 20000 in
theorem zy_co : ∀ i : Nat, i < 18 → Cond.eq (.field (Term.string (sw_so i) (sw_si i)) "java/lang/String" "coder" "B") (.int 0) ∈ flatC zgv
  | 0, _ => List.mem_of_getElem? (i := 402) rfl
  | 1, _ => List.mem_of_getElem? (i := 423) rfl
  | 2, _ => List.mem_of_getElem? (i := 453) rfl
  | 3, _ => List.mem_of_getElem? (i := 480) rfl
  | 4, _ => List.mem_of_getElem? (i := 506) rfl
  | 5, _ => List.mem_of_getElem? (i := 527) rfl
  | 6, _ => List.mem_of_getElem? (i := 556) rfl
  | 7, _ => List.mem_of_getElem? (i := 586) rfl
  | 8, _ => List.mem_of_getElem? (i := 614) rfl
  | 9, _ => List.mem_of_getElem? (i := 642) rfl
  | 10, _ => List.mem_of_getElem? (i := 292) rfl
  | 11, _ => List.mem_of_getElem? (i := 304) rfl
  | 12, _ => List.mem_of_getElem? (i := 311) rfl
  | 13, _ => List.mem_of_getElem? (i := 319) rfl
  | 14, _ => List.mem_of_getElem? (i := 328) rfl
  | 15, _ => List.mem_of_getElem? (i := 338) rfl
  | 16, _ => List.mem_of_getElem? (i := 363) rfl
  | 17, _ => List.mem_of_getElem? (i := 381) rfl
  | k + 18, h => absurd h (by omega)
set_option maxRecDepth 20000 in
theorem zy_ar : ∀ i : Nat, i < 18 → Cond.arrayOf (.field (Term.string (sw_so i) (sw_si i)) "java/lang/String" "value" "[B") .byte ∈ flatC zgv
  | 0, _ => List.mem_of_getElem? (i := 403) rfl
  | 1, _ => List.mem_of_getElem? (i := 424) rfl
  | 2, _ => List.mem_of_getElem? (i := 454) rfl
  | 3, _ => List.mem_of_getElem? (i := 481) rfl
  | 4, _ => List.mem_of_getElem? (i := 507) rfl
  | 5, _ => List.mem_of_getElem? (i := 528) rfl
  | 6, _ => List.mem_of_getElem? (i := 557) rfl
  | 7, _ => List.mem_of_getElem? (i := 587) rfl
  | 8, _ => List.mem_of_getElem? (i := 615) rfl
  | 9, _ => List.mem_of_getElem? (i := 643) rfl
  | 10, _ => List.mem_of_getElem? (i := 293) rfl
  | 11, _ => List.mem_of_getElem? (i := 305) rfl
  | 12, _ => List.mem_of_getElem? (i := 312) rfl
  | 13, _ => List.mem_of_getElem? (i := 320) rfl
  | 14, _ => List.mem_of_getElem? (i := 329) rfl
  | 15, _ => List.mem_of_getElem? (i := 339) rfl
  | 16, _ => List.mem_of_getElem? (i := 364) rfl
  | 17, _ => List.mem_of_getElem? (i := 382) rfl
  | k + 18, h => absurd h (by omega)
set_option maxRecDepth 20000 in
theorem zy_le : ∀ i : Nat, i < 18 → Cond.eq (.length (.field (Term.string (sw_so i) (sw_si i)) "java/lang/String" "value" "[B")) (.int (Int32.ofNat (sw_sb i).length)) ∈ flatC zgv
  | 0, _ => List.mem_of_getElem? (i := 404) rfl
  | 1, _ => List.mem_of_getElem? (i := 425) rfl
  | 2, _ => List.mem_of_getElem? (i := 455) rfl
  | 3, _ => List.mem_of_getElem? (i := 482) rfl
  | 4, _ => List.mem_of_getElem? (i := 508) rfl
  | 5, _ => List.mem_of_getElem? (i := 529) rfl
  | 6, _ => List.mem_of_getElem? (i := 558) rfl
  | 7, _ => List.mem_of_getElem? (i := 588) rfl
  | 8, _ => List.mem_of_getElem? (i := 616) rfl
  | 9, _ => List.mem_of_getElem? (i := 644) rfl
  | 10, _ => List.mem_of_getElem? (i := 294) rfl
  | 11, _ => List.mem_of_getElem? (i := 306) rfl
  | 12, _ => List.mem_of_getElem? (i := 313) rfl
  | 13, _ => List.mem_of_getElem? (i := 321) rfl
  | 14, _ => List.mem_of_getElem? (i := 330) rfl
  | 15, _ => List.mem_of_getElem? (i := 340) rfl
  | 16, _ => List.mem_of_getElem? (i := 365) rfl
  | 17, _ => List.mem_of_getElem? (i := 383) rfl
  | k + 18, h => absurd h (by omega)
set_option maxRecDepth 20000 in
theorem zy_el0 : ∀ j : Nat, j < (sw_sb 0).length → Cond.eq (.elem (.field (Term.string (sw_so 0) (sw_si 0)) "java/lang/String" "value" "[B") (.int (Int32.ofNat j))) (.int ((sw_sb 0).getD j 0)) ∈ flatC zgv
  | 0, _ => List.mem_of_getElem? (i := 405) rfl
  | 1, _ => List.mem_of_getElem? (i := 406) rfl
  | 2, _ => List.mem_of_getElem? (i := 407) rfl
  | 3, _ => List.mem_of_getElem? (i := 408) rfl
  | 4, _ => List.mem_of_getElem? (i := 409) rfl
  | 5, _ => List.mem_of_getElem? (i := 410) rfl
  | 6, _ => List.mem_of_getElem? (i := 411) rfl
  | 7, _ => List.mem_of_getElem? (i := 412) rfl
  | k + 8, h => absurd h (by show ¬ k + 8 < 8; omega)
set_option maxRecDepth 20000 in
theorem zy_el1 : ∀ j : Nat, j < (sw_sb 1).length → Cond.eq (.elem (.field (Term.string (sw_so 1) (sw_si 1)) "java/lang/String" "value" "[B") (.int (Int32.ofNat j))) (.int ((sw_sb 1).getD j 0)) ∈ flatC zgv
  | 0, _ => List.mem_of_getElem? (i := 426) rfl
  | 1, _ => List.mem_of_getElem? (i := 427) rfl
  | 2, _ => List.mem_of_getElem? (i := 428) rfl
  | 3, _ => List.mem_of_getElem? (i := 429) rfl
  | 4, _ => List.mem_of_getElem? (i := 430) rfl
  | 5, _ => List.mem_of_getElem? (i := 431) rfl
  | 6, _ => List.mem_of_getElem? (i := 432) rfl
  | 7, _ => List.mem_of_getElem? (i := 433) rfl
  | 8, _ => List.mem_of_getElem? (i := 434) rfl
  | 9, _ => List.mem_of_getElem? (i := 435) rfl
  | 10, _ => List.mem_of_getElem? (i := 436) rfl
  | 11, _ => List.mem_of_getElem? (i := 437) rfl
  | 12, _ => List.mem_of_getElem? (i := 438) rfl
  | 13, _ => List.mem_of_getElem? (i := 439) rfl
  | 14, _ => List.mem_of_getElem? (i := 440) rfl
  | 15, _ => List.mem_of_getElem? (i := 441) rfl
  | k + 16, h => absurd h (by show ¬ k + 16 < 16; omega)
set_option maxRecDepth 20000 in
theorem zy_el2 : ∀ j : Nat, j < (sw_sb 2).length → Cond.eq (.elem (.field (Term.string (sw_so 2) (sw_si 2)) "java/lang/String" "value" "[B") (.int (Int32.ofNat j))) (.int ((sw_sb 2).getD j 0)) ∈ flatC zgv
  | 0, _ => List.mem_of_getElem? (i := 456) rfl
  | 1, _ => List.mem_of_getElem? (i := 457) rfl
  | 2, _ => List.mem_of_getElem? (i := 458) rfl
  | 3, _ => List.mem_of_getElem? (i := 459) rfl
  | 4, _ => List.mem_of_getElem? (i := 460) rfl
  | 5, _ => List.mem_of_getElem? (i := 461) rfl
  | 6, _ => List.mem_of_getElem? (i := 462) rfl
  | 7, _ => List.mem_of_getElem? (i := 463) rfl
  | 8, _ => List.mem_of_getElem? (i := 464) rfl
  | 9, _ => List.mem_of_getElem? (i := 465) rfl
  | 10, _ => List.mem_of_getElem? (i := 466) rfl
  | 11, _ => List.mem_of_getElem? (i := 467) rfl
  | k + 12, h => absurd h (by show ¬ k + 12 < 12; omega)
set_option maxRecDepth 20000 in
theorem zy_el3 : ∀ j : Nat, j < (sw_sb 3).length → Cond.eq (.elem (.field (Term.string (sw_so 3) (sw_si 3)) "java/lang/String" "value" "[B") (.int (Int32.ofNat j))) (.int ((sw_sb 3).getD j 0)) ∈ flatC zgv
  | 0, _ => List.mem_of_getElem? (i := 483) rfl
  | 1, _ => List.mem_of_getElem? (i := 484) rfl
  | 2, _ => List.mem_of_getElem? (i := 485) rfl
  | 3, _ => List.mem_of_getElem? (i := 486) rfl
  | 4, _ => List.mem_of_getElem? (i := 487) rfl
  | 5, _ => List.mem_of_getElem? (i := 488) rfl
  | 6, _ => List.mem_of_getElem? (i := 489) rfl
  | 7, _ => List.mem_of_getElem? (i := 490) rfl
  | 8, _ => List.mem_of_getElem? (i := 491) rfl
  | 9, _ => List.mem_of_getElem? (i := 492) rfl
  | k + 10, h => absurd h (by show ¬ k + 10 < 10; omega)
set_option maxRecDepth 20000 in
theorem zy_el4 : ∀ j : Nat, j < (sw_sb 4).length → Cond.eq (.elem (.field (Term.string (sw_so 4) (sw_si 4)) "java/lang/String" "value" "[B") (.int (Int32.ofNat j))) (.int ((sw_sb 4).getD j 0)) ∈ flatC zgv
  | 0, _ => List.mem_of_getElem? (i := 509) rfl
  | 1, _ => List.mem_of_getElem? (i := 510) rfl
  | 2, _ => List.mem_of_getElem? (i := 511) rfl
  | 3, _ => List.mem_of_getElem? (i := 512) rfl
  | k + 4, h => absurd h (by show ¬ k + 4 < 4; omega)
set_option maxRecDepth 20000 in
theorem zy_el5 : ∀ j : Nat, j < (sw_sb 5).length → Cond.eq (.elem (.field (Term.string (sw_so 5) (sw_si 5)) "java/lang/String" "value" "[B") (.int (Int32.ofNat j))) (.int ((sw_sb 5).getD j 0)) ∈ flatC zgv
  | 0, _ => List.mem_of_getElem? (i := 530) rfl
  | 1, _ => List.mem_of_getElem? (i := 531) rfl
  | 2, _ => List.mem_of_getElem? (i := 532) rfl
  | 3, _ => List.mem_of_getElem? (i := 533) rfl
  | 4, _ => List.mem_of_getElem? (i := 534) rfl
  | 5, _ => List.mem_of_getElem? (i := 535) rfl
  | 6, _ => List.mem_of_getElem? (i := 536) rfl
  | 7, _ => List.mem_of_getElem? (i := 537) rfl
  | 8, _ => List.mem_of_getElem? (i := 538) rfl
  | 9, _ => List.mem_of_getElem? (i := 539) rfl
  | 10, _ => List.mem_of_getElem? (i := 540) rfl
  | k + 11, h => absurd h (by show ¬ k + 11 < 11; omega)
set_option maxRecDepth 20000 in
theorem zy_el6 : ∀ j : Nat, j < (sw_sb 6).length → Cond.eq (.elem (.field (Term.string (sw_so 6) (sw_si 6)) "java/lang/String" "value" "[B") (.int (Int32.ofNat j))) (.int ((sw_sb 6).getD j 0)) ∈ flatC zgv
  | 0, _ => List.mem_of_getElem? (i := 559) rfl
  | 1, _ => List.mem_of_getElem? (i := 560) rfl
  | 2, _ => List.mem_of_getElem? (i := 561) rfl
  | 3, _ => List.mem_of_getElem? (i := 562) rfl
  | 4, _ => List.mem_of_getElem? (i := 563) rfl
  | 5, _ => List.mem_of_getElem? (i := 564) rfl
  | 6, _ => List.mem_of_getElem? (i := 565) rfl
  | 7, _ => List.mem_of_getElem? (i := 566) rfl
  | 8, _ => List.mem_of_getElem? (i := 567) rfl
  | 9, _ => List.mem_of_getElem? (i := 568) rfl
  | 10, _ => List.mem_of_getElem? (i := 569) rfl
  | k + 11, h => absurd h (by show ¬ k + 11 < 11; omega)
set_option maxRecDepth 20000 in
theorem zy_el7 : ∀ j : Nat, j < (sw_sb 7).length → Cond.eq (.elem (.field (Term.string (sw_so 7) (sw_si 7)) "java/lang/String" "value" "[B") (.int (Int32.ofNat j))) (.int ((sw_sb 7).getD j 0)) ∈ flatC zgv
  | 0, _ => List.mem_of_getElem? (i := 589) rfl
  | 1, _ => List.mem_of_getElem? (i := 590) rfl
  | 2, _ => List.mem_of_getElem? (i := 591) rfl
  | 3, _ => List.mem_of_getElem? (i := 592) rfl
  | 4, _ => List.mem_of_getElem? (i := 593) rfl
  | 5, _ => List.mem_of_getElem? (i := 594) rfl
  | 6, _ => List.mem_of_getElem? (i := 595) rfl
  | 7, _ => List.mem_of_getElem? (i := 596) rfl
  | k + 8, h => absurd h (by show ¬ k + 8 < 8; omega)
set_option maxRecDepth 20000 in
theorem zy_el8 : ∀ j : Nat, j < (sw_sb 8).length → Cond.eq (.elem (.field (Term.string (sw_so 8) (sw_si 8)) "java/lang/String" "value" "[B") (.int (Int32.ofNat j))) (.int ((sw_sb 8).getD j 0)) ∈ flatC zgv
  | 0, _ => List.mem_of_getElem? (i := 617) rfl
  | 1, _ => List.mem_of_getElem? (i := 618) rfl
  | 2, _ => List.mem_of_getElem? (i := 619) rfl
  | 3, _ => List.mem_of_getElem? (i := 620) rfl
  | 4, _ => List.mem_of_getElem? (i := 621) rfl
  | 5, _ => List.mem_of_getElem? (i := 622) rfl
  | 6, _ => List.mem_of_getElem? (i := 623) rfl
  | k + 7, h => absurd h (by show ¬ k + 7 < 7; omega)
set_option maxRecDepth 20000 in
theorem zy_el9 : ∀ j : Nat, j < (sw_sb 9).length → Cond.eq (.elem (.field (Term.string (sw_so 9) (sw_si 9)) "java/lang/String" "value" "[B") (.int (Int32.ofNat j))) (.int ((sw_sb 9).getD j 0)) ∈ flatC zgv
  | 0, _ => List.mem_of_getElem? (i := 645) rfl
  | 1, _ => List.mem_of_getElem? (i := 646) rfl
  | 2, _ => List.mem_of_getElem? (i := 647) rfl
  | 3, _ => List.mem_of_getElem? (i := 648) rfl
  | 4, _ => List.mem_of_getElem? (i := 649) rfl
  | 5, _ => List.mem_of_getElem? (i := 650) rfl
  | 6, _ => List.mem_of_getElem? (i := 651) rfl
  | 7, _ => List.mem_of_getElem? (i := 652) rfl
  | k + 8, h => absurd h (by show ¬ k + 8 < 8; omega)
set_option maxRecDepth 20000 in
theorem zy_el10 : ∀ j : Nat, j < (sw_sb 10).length → Cond.eq (.elem (.field (Term.string (sw_so 10) (sw_si 10)) "java/lang/String" "value" "[B") (.int (Int32.ofNat j))) (.int ((sw_sb 10).getD j 0)) ∈ flatC zgv
  | k + 0, h => absurd h (by show ¬ k + 0 < 0; omega)
set_option maxRecDepth 20000 in
theorem zy_el11 : ∀ j : Nat, j < (sw_sb 11).length → Cond.eq (.elem (.field (Term.string (sw_so 11) (sw_si 11)) "java/lang/String" "value" "[B") (.int (Int32.ofNat j))) (.int ((sw_sb 11).getD j 0)) ∈ flatC zgv
  | 0, _ => List.mem_of_getElem? (i := 307) rfl
  | k + 1, h => absurd h (by show ¬ k + 1 < 1; omega)
set_option maxRecDepth 20000 in
theorem zy_el12 : ∀ j : Nat, j < (sw_sb 12).length → Cond.eq (.elem (.field (Term.string (sw_so 12) (sw_si 12)) "java/lang/String" "value" "[B") (.int (Int32.ofNat j))) (.int ((sw_sb 12).getD j 0)) ∈ flatC zgv
  | 0, _ => List.mem_of_getElem? (i := 314) rfl
  | k + 1, h => absurd h (by show ¬ k + 1 < 1; omega)
set_option maxRecDepth 20000 in
theorem zy_el13 : ∀ j : Nat, j < (sw_sb 13).length → Cond.eq (.elem (.field (Term.string (sw_so 13) (sw_si 13)) "java/lang/String" "value" "[B") (.int (Int32.ofNat j))) (.int ((sw_sb 13).getD j 0)) ∈ flatC zgv
  | 0, _ => List.mem_of_getElem? (i := 322) rfl
  | k + 1, h => absurd h (by show ¬ k + 1 < 1; omega)
set_option maxRecDepth 20000 in
theorem zy_el14 : ∀ j : Nat, j < (sw_sb 14).length → Cond.eq (.elem (.field (Term.string (sw_so 14) (sw_si 14)) "java/lang/String" "value" "[B") (.int (Int32.ofNat j))) (.int ((sw_sb 14).getD j 0)) ∈ flatC zgv
  | 0, _ => List.mem_of_getElem? (i := 331) rfl
  | k + 1, h => absurd h (by show ¬ k + 1 < 1; omega)
set_option maxRecDepth 20000 in
theorem zy_el15 : ∀ j : Nat, j < (sw_sb 15).length → Cond.eq (.elem (.field (Term.string (sw_so 15) (sw_si 15)) "java/lang/String" "value" "[B") (.int (Int32.ofNat j))) (.int ((sw_sb 15).getD j 0)) ∈ flatC zgv
  | 0, _ => List.mem_of_getElem? (i := 341) rfl
  | 1, _ => List.mem_of_getElem? (i := 342) rfl
  | 2, _ => List.mem_of_getElem? (i := 343) rfl
  | 3, _ => List.mem_of_getElem? (i := 344) rfl
  | 4, _ => List.mem_of_getElem? (i := 345) rfl
  | 5, _ => List.mem_of_getElem? (i := 346) rfl
  | 6, _ => List.mem_of_getElem? (i := 347) rfl
  | 7, _ => List.mem_of_getElem? (i := 348) rfl
  | 8, _ => List.mem_of_getElem? (i := 349) rfl
  | 9, _ => List.mem_of_getElem? (i := 350) rfl
  | 10, _ => List.mem_of_getElem? (i := 351) rfl
  | 11, _ => List.mem_of_getElem? (i := 352) rfl
  | 12, _ => List.mem_of_getElem? (i := 353) rfl
  | 13, _ => List.mem_of_getElem? (i := 354) rfl
  | 14, _ => List.mem_of_getElem? (i := 355) rfl
  | k + 15, h => absurd h (by show ¬ k + 15 < 15; omega)
set_option maxRecDepth 20000 in
theorem zy_el16 : ∀ j : Nat, j < (sw_sb 16).length → Cond.eq (.elem (.field (Term.string (sw_so 16) (sw_si 16)) "java/lang/String" "value" "[B") (.int (Int32.ofNat j))) (.int ((sw_sb 16).getD j 0)) ∈ flatC zgv
  | 0, _ => List.mem_of_getElem? (i := 366) rfl
  | 1, _ => List.mem_of_getElem? (i := 367) rfl
  | 2, _ => List.mem_of_getElem? (i := 368) rfl
  | 3, _ => List.mem_of_getElem? (i := 369) rfl
  | 4, _ => List.mem_of_getElem? (i := 370) rfl
  | 5, _ => List.mem_of_getElem? (i := 371) rfl
  | 6, _ => List.mem_of_getElem? (i := 372) rfl
  | k + 7, h => absurd h (by show ¬ k + 7 < 7; omega)
set_option maxRecDepth 20000 in
theorem zy_el17 : ∀ j : Nat, j < (sw_sb 17).length → Cond.eq (.elem (.field (Term.string (sw_so 17) (sw_si 17)) "java/lang/String" "value" "[B") (.int (Int32.ofNat j))) (.int ((sw_sb 17).getD j 0)) ∈ flatC zgv
  | 0, _ => List.mem_of_getElem? (i := 384) rfl
  | 1, _ => List.mem_of_getElem? (i := 385) rfl
  | 2, _ => List.mem_of_getElem? (i := 386) rfl
  | 3, _ => List.mem_of_getElem? (i := 387) rfl
  | 4, _ => List.mem_of_getElem? (i := 388) rfl
  | 5, _ => List.mem_of_getElem? (i := 389) rfl
  | 6, _ => List.mem_of_getElem? (i := 390) rfl
  | 7, _ => List.mem_of_getElem? (i := 391) rfl
  | 8, _ => List.mem_of_getElem? (i := 392) rfl
  | k + 9, h => absurd h (by show ¬ k + 9 < 9; omega)
set_option maxRecDepth 20000 in
theorem zy_el : ∀ i : Nat, i < 18 → ∀ j : Nat, j < (sw_sb i).length → Cond.eq (.elem (.field (Term.string (sw_so i) (sw_si i)) "java/lang/String" "value" "[B") (.int (Int32.ofNat j))) (.int ((sw_sb i).getD j 0)) ∈ flatC zgv
  | 0, _ => zy_el0
  | 1, _ => zy_el1
  | 2, _ => zy_el2
  | 3, _ => zy_el3
  | 4, _ => zy_el4
  | 5, _ => zy_el5
  | 6, _ => zy_el6
  | 7, _ => zy_el7
  | 8, _ => zy_el8
  | 9, _ => zy_el9
  | 10, _ => zy_el10
  | 11, _ => zy_el11
  | 12, _ => zy_el12
  | 13, _ => zy_el13
  | 14, _ => zy_el14
  | 15, _ => zy_el15
  | 16, _ => zy_el16
  | 17, _ => zy_el17
  | k + 18, h => absurd h (by omega)
set_option maxRecDepth 20000 in
theorem zy_rf : ∀ i : Nat, i < 18 → Cond.stringRef (sw_so i) (sw_si i) (sw_stx i) ∈ lw_tbl
  | 0, _ => qt_6 _ (List.mem_of_getElem? (i := 211) rfl)
  | 1, _ => qt_6 _ (List.mem_of_getElem? (i := 212) rfl)
  | 2, _ => qt_6 _ (List.mem_of_getElem? (i := 213) rfl)
  | 3, _ => qt_6 _ (List.mem_of_getElem? (i := 214) rfl)
  | 4, _ => qt_6 _ (List.mem_of_getElem? (i := 215) rfl)
  | 5, _ => qt_6 _ (List.mem_of_getElem? (i := 216) rfl)
  | 6, _ => qt_6 _ (List.mem_of_getElem? (i := 217) rfl)
  | 7, _ => qt_6 _ (List.mem_of_getElem? (i := 218) rfl)
  | 8, _ => qt_6 _ (List.mem_of_getElem? (i := 219) rfl)
  | 9, _ => qt_6 _ (List.mem_of_getElem? (i := 220) rfl)
  | 10, _ => qt_5 _ (List.mem_of_getElem? (i := 87) rfl)
  | 11, _ => qt_6 _ (List.mem_of_getElem? (i := 77) rfl)
  | 12, _ => qt_6 _ (List.mem_of_getElem? (i := 78) rfl)
  | 13, _ => qt_6 _ (List.mem_of_getElem? (i := 79) rfl)
  | 14, _ => qt_6 _ (List.mem_of_getElem? (i := 80) rfl)
  | 15, _ => qt_6 _ (List.mem_of_getElem? (i := 172) rfl)
  | 16, _ => qt_6 _ (List.mem_of_getElem? (i := 173) rfl)
  | 17, _ => qt_6 _ (List.mem_of_getElem? (i := 174) rfl)
  | k + 18, h => absurd h (by omega)
set_option maxRecDepth 20000 in
theorem zy_ln : ∀ i : Nat, i < 18 → (sw_sb i).length < 2 ^ 31
  | 0, _ => by decide
  | 1, _ => by decide
  | 2, _ => by decide
  | 3, _ => by decide
  | 4, _ => by decide
  | 5, _ => by decide
  | 6, _ => by decide
  | 7, _ => by decide
  | 8, _ => by decide
  | 9, _ => by decide
  | 10, _ => by decide
  | 11, _ => by decide
  | 12, _ => by decide
  | 13, _ => by decide
  | 14, _ => by decide
  | 15, _ => by decide
  | 16, _ => by decide
  | 17, _ => by decide
  | k + 18, h => absurd h (by omega)
set_option maxRecDepth 20000 in
theorem zy_nc : ∀ q ∈ sw_nc, Cond.not (.castable q.1 q.2) ∈ flatC zgv := by
  unfold sw_nc
  refine List.forall_mem_cons.mpr ⟨List.mem_of_getElem? (i := 254) rfl, List.forall_mem_cons.mpr ⟨List.mem_of_getElem? (i := 225) rfl, List.forall_mem_cons.mpr ⟨List.mem_of_getElem? (i := 255) rfl, List.forall_mem_cons.mpr ⟨List.mem_of_getElem? (i := 285) rfl, List.forall_mem_cons.mpr ⟨List.mem_of_getElem? (i := 226) rfl, List.forall_mem_cons.mpr ⟨List.mem_of_getElem? (i := 241) rfl, List.forall_mem_cons.mpr ⟨List.mem_of_getElem? (i := 256) rfl, List.forall_mem_cons.mpr ⟨List.mem_of_getElem? (i := 227) rfl, List.forall_mem_cons.mpr ⟨List.mem_of_getElem? (i := 257) rfl, fun _ h => absurd h List.not_mem_nil⟩⟩⟩⟩⟩⟩⟩⟩⟩
theorem zy_us : Cond.isRef (.static "java/lang/Throwable" "UNASSIGNED_STACK" "[Ljava/lang/StackTraceElement;") ∈ flatC zgv := List.mem_of_getElem? (i := 4) rfl
theorem zy_usl : Cond.laysStatic "java/lang/Throwable" "UNASSIGNED_STACK" "[Ljava/lang/StackTraceElement;" ∈ lw_tbl := qt_2 _ (List.mem_of_getElem? (i := 91) rfl)
theorem zy_usi : Cond.initialized "java/lang/Throwable" ∈ lw_tbl := qt_1 _ (List.mem_of_getElem? (i := 8) rfl)
theorem zy_ss : Cond.isRef (.static "java/lang/Throwable" "SUPPRESSED_SENTINEL" "Ljava/util/List;") ∈ flatC zgv := List.mem_of_getElem? (i := 5) rfl
theorem zy_ssl : Cond.laysStatic "java/lang/Throwable" "SUPPRESSED_SENTINEL" "Ljava/util/List;" ∈ lw_tbl := qt_2 _ (List.mem_of_getElem? (i := 93) rfl)
theorem zy_ssi : Cond.initialized "java/lang/Throwable" ∈ lw_tbl := qt_1 _ (List.mem_of_getElem? (i := 8) rfl)
theorem zy_pf : Cond.isRef (.static "jdk/internal/util/Preconditions" "SIOOBE_FORMATTER" "Ljava/util/function/BiFunction;") ∈ flatC zgv := List.mem_of_getElem? (i := 7) rfl
theorem zy_pfl : Cond.laysStatic "jdk/internal/util/Preconditions" "SIOOBE_FORMATTER" "Ljava/util/function/BiFunction;" ∈ lw_tbl := qt_5 _ (List.mem_of_getElem? (i := 148) rfl)
theorem zy_pfi : Cond.initialized "jdk/internal/util/Preconditions" ∈ lw_tbl := qt_1 _ (List.mem_of_getElem? (i := 28) rfl)
theorem zy_cs : Cond.eq (.static "java/lang/String" "COMPACT_STRINGS" "Z") (.int 1) ∈ flatC zgv := List.mem_of_getElem? (i := 6) rfl
theorem zy_csl : Cond.laysStatic "java/lang/String" "COMPACT_STRINGS" "Z" ∈ lw_tbl := qt_5 _ (List.mem_of_getElem? (i := 66) rfl)
theorem zy_csi : Cond.initialized "java/lang/String" ∈ lw_tbl := qt_1 _ (List.mem_of_getElem? (i := 18) rfl)
theorem zy_d1a : Cond.arrayOf (.static "java/lang/Integer" "DigitOnes" "[B") .byte ∈ flatC zgv := List.mem_of_getElem? (i := 12) rfl
theorem zy_d1n : Cond.eq (.length (.static "java/lang/Integer" "DigitOnes" "[B")) (.int (Int32.ofNat 100)) ∈ flatC zgv := List.mem_of_getElem? (i := 13) rfl
theorem zy_d1l : Cond.laysStatic "java/lang/Integer" "DigitOnes" "[B" ∈ lw_tbl := qt_6 _ (List.mem_of_getElem? (i := 0) rfl)
set_option maxRecDepth 20000 in
theorem zy_d1e : ∀ j : Nat, j < 100 → Cond.eq (.elem (.static "java/lang/Integer" "DigitOnes" "[B") (.int (Int32.ofNat j))) (.int (nI (48 + j % 10))) ∈ flatC zgv
  | 0, _ => List.mem_of_getElem? (i := 14) rfl
  | 1, _ => List.mem_of_getElem? (i := 15) rfl
  | 2, _ => List.mem_of_getElem? (i := 16) rfl
  | 3, _ => List.mem_of_getElem? (i := 17) rfl
  | 4, _ => List.mem_of_getElem? (i := 18) rfl
  | 5, _ => List.mem_of_getElem? (i := 19) rfl
  | 6, _ => List.mem_of_getElem? (i := 20) rfl
  | 7, _ => List.mem_of_getElem? (i := 21) rfl
  | 8, _ => List.mem_of_getElem? (i := 22) rfl
  | 9, _ => List.mem_of_getElem? (i := 23) rfl
  | 10, _ => List.mem_of_getElem? (i := 24) rfl
  | 11, _ => List.mem_of_getElem? (i := 25) rfl
  | 12, _ => List.mem_of_getElem? (i := 26) rfl
  | 13, _ => List.mem_of_getElem? (i := 27) rfl
  | 14, _ => List.mem_of_getElem? (i := 28) rfl
  | 15, _ => List.mem_of_getElem? (i := 29) rfl
  | 16, _ => List.mem_of_getElem? (i := 30) rfl
  | 17, _ => List.mem_of_getElem? (i := 31) rfl
  | 18, _ => List.mem_of_getElem? (i := 32) rfl
  | 19, _ => List.mem_of_getElem? (i := 33) rfl
  | 20, _ => List.mem_of_getElem? (i := 34) rfl
  | 21, _ => List.mem_of_getElem? (i := 35) rfl
  | 22, _ => List.mem_of_getElem? (i := 36) rfl
  | 23, _ => List.mem_of_getElem? (i := 37) rfl
  | 24, _ => List.mem_of_getElem? (i := 38) rfl
  | 25, _ => List.mem_of_getElem? (i := 39) rfl
  | 26, _ => List.mem_of_getElem? (i := 40) rfl
  | 27, _ => List.mem_of_getElem? (i := 41) rfl
  | 28, _ => List.mem_of_getElem? (i := 42) rfl
  | 29, _ => List.mem_of_getElem? (i := 43) rfl
  | 30, _ => List.mem_of_getElem? (i := 44) rfl
  | 31, _ => List.mem_of_getElem? (i := 45) rfl
  | 32, _ => List.mem_of_getElem? (i := 46) rfl
  | 33, _ => List.mem_of_getElem? (i := 47) rfl
  | 34, _ => List.mem_of_getElem? (i := 48) rfl
  | 35, _ => List.mem_of_getElem? (i := 49) rfl
  | 36, _ => List.mem_of_getElem? (i := 50) rfl
  | 37, _ => List.mem_of_getElem? (i := 51) rfl
  | 38, _ => List.mem_of_getElem? (i := 52) rfl
  | 39, _ => List.mem_of_getElem? (i := 53) rfl
  | 40, _ => List.mem_of_getElem? (i := 54) rfl
  | 41, _ => List.mem_of_getElem? (i := 55) rfl
  | 42, _ => List.mem_of_getElem? (i := 56) rfl
  | 43, _ => List.mem_of_getElem? (i := 57) rfl
  | 44, _ => List.mem_of_getElem? (i := 58) rfl
  | 45, _ => List.mem_of_getElem? (i := 59) rfl
  | 46, _ => List.mem_of_getElem? (i := 60) rfl
  | 47, _ => List.mem_of_getElem? (i := 61) rfl
  | 48, _ => List.mem_of_getElem? (i := 62) rfl
  | 49, _ => List.mem_of_getElem? (i := 63) rfl
  | 50, _ => List.mem_of_getElem? (i := 64) rfl
  | 51, _ => List.mem_of_getElem? (i := 65) rfl
  | 52, _ => List.mem_of_getElem? (i := 66) rfl
  | 53, _ => List.mem_of_getElem? (i := 67) rfl
  | 54, _ => List.mem_of_getElem? (i := 68) rfl
  | 55, _ => List.mem_of_getElem? (i := 69) rfl
  | 56, _ => List.mem_of_getElem? (i := 70) rfl
  | 57, _ => List.mem_of_getElem? (i := 71) rfl
  | 58, _ => List.mem_of_getElem? (i := 72) rfl
  | 59, _ => List.mem_of_getElem? (i := 73) rfl
  | 60, _ => List.mem_of_getElem? (i := 74) rfl
  | 61, _ => List.mem_of_getElem? (i := 75) rfl
  | 62, _ => List.mem_of_getElem? (i := 76) rfl
  | 63, _ => List.mem_of_getElem? (i := 77) rfl
  | 64, _ => List.mem_of_getElem? (i := 78) rfl
  | 65, _ => List.mem_of_getElem? (i := 79) rfl
  | 66, _ => List.mem_of_getElem? (i := 80) rfl
  | 67, _ => List.mem_of_getElem? (i := 81) rfl
  | 68, _ => List.mem_of_getElem? (i := 82) rfl
  | 69, _ => List.mem_of_getElem? (i := 83) rfl
  | 70, _ => List.mem_of_getElem? (i := 84) rfl
  | 71, _ => List.mem_of_getElem? (i := 85) rfl
  | 72, _ => List.mem_of_getElem? (i := 86) rfl
  | 73, _ => List.mem_of_getElem? (i := 87) rfl
  | 74, _ => List.mem_of_getElem? (i := 88) rfl
  | 75, _ => List.mem_of_getElem? (i := 89) rfl
  | 76, _ => List.mem_of_getElem? (i := 90) rfl
  | 77, _ => List.mem_of_getElem? (i := 91) rfl
  | 78, _ => List.mem_of_getElem? (i := 92) rfl
  | 79, _ => List.mem_of_getElem? (i := 93) rfl
  | 80, _ => List.mem_of_getElem? (i := 94) rfl
  | 81, _ => List.mem_of_getElem? (i := 95) rfl
  | 82, _ => List.mem_of_getElem? (i := 96) rfl
  | 83, _ => List.mem_of_getElem? (i := 97) rfl
  | 84, _ => List.mem_of_getElem? (i := 98) rfl
  | 85, _ => List.mem_of_getElem? (i := 99) rfl
  | 86, _ => List.mem_of_getElem? (i := 100) rfl
  | 87, _ => List.mem_of_getElem? (i := 101) rfl
  | 88, _ => List.mem_of_getElem? (i := 102) rfl
  | 89, _ => List.mem_of_getElem? (i := 103) rfl
  | 90, _ => List.mem_of_getElem? (i := 104) rfl
  | 91, _ => List.mem_of_getElem? (i := 105) rfl
  | 92, _ => List.mem_of_getElem? (i := 106) rfl
  | 93, _ => List.mem_of_getElem? (i := 107) rfl
  | 94, _ => List.mem_of_getElem? (i := 108) rfl
  | 95, _ => List.mem_of_getElem? (i := 109) rfl
  | 96, _ => List.mem_of_getElem? (i := 110) rfl
  | 97, _ => List.mem_of_getElem? (i := 111) rfl
  | 98, _ => List.mem_of_getElem? (i := 112) rfl
  | 99, _ => List.mem_of_getElem? (i := 113) rfl
  | k + 100, h => absurd h (by omega)
theorem zy_d2a : Cond.arrayOf (.static "java/lang/Integer" "DigitTens" "[B") .byte ∈ flatC zgv := List.mem_of_getElem? (i := 115) rfl
theorem zy_d2n : Cond.eq (.length (.static "java/lang/Integer" "DigitTens" "[B")) (.int (Int32.ofNat 100)) ∈ flatC zgv := List.mem_of_getElem? (i := 116) rfl
theorem zy_d2l : Cond.laysStatic "java/lang/Integer" "DigitTens" "[B" ∈ lw_tbl := qt_6 _ (List.mem_of_getElem? (i := 2) rfl)
set_option maxRecDepth 20000 in
theorem zy_d2e : ∀ j : Nat, j < 100 → Cond.eq (.elem (.static "java/lang/Integer" "DigitTens" "[B") (.int (Int32.ofNat j))) (.int (nI (48 + j / 10))) ∈ flatC zgv
  | 0, _ => List.mem_of_getElem? (i := 117) rfl
  | 1, _ => List.mem_of_getElem? (i := 118) rfl
  | 2, _ => List.mem_of_getElem? (i := 119) rfl
  | 3, _ => List.mem_of_getElem? (i := 120) rfl
  | 4, _ => List.mem_of_getElem? (i := 121) rfl
  | 5, _ => List.mem_of_getElem? (i := 122) rfl
  | 6, _ => List.mem_of_getElem? (i := 123) rfl
  | 7, _ => List.mem_of_getElem? (i := 124) rfl
  | 8, _ => List.mem_of_getElem? (i := 125) rfl
  | 9, _ => List.mem_of_getElem? (i := 126) rfl
  | 10, _ => List.mem_of_getElem? (i := 127) rfl
  | 11, _ => List.mem_of_getElem? (i := 128) rfl
  | 12, _ => List.mem_of_getElem? (i := 129) rfl
  | 13, _ => List.mem_of_getElem? (i := 130) rfl
  | 14, _ => List.mem_of_getElem? (i := 131) rfl
  | 15, _ => List.mem_of_getElem? (i := 132) rfl
  | 16, _ => List.mem_of_getElem? (i := 133) rfl
  | 17, _ => List.mem_of_getElem? (i := 134) rfl
  | 18, _ => List.mem_of_getElem? (i := 135) rfl
  | 19, _ => List.mem_of_getElem? (i := 136) rfl
  | 20, _ => List.mem_of_getElem? (i := 137) rfl
  | 21, _ => List.mem_of_getElem? (i := 138) rfl
  | 22, _ => List.mem_of_getElem? (i := 139) rfl
  | 23, _ => List.mem_of_getElem? (i := 140) rfl
  | 24, _ => List.mem_of_getElem? (i := 141) rfl
  | 25, _ => List.mem_of_getElem? (i := 142) rfl
  | 26, _ => List.mem_of_getElem? (i := 143) rfl
  | 27, _ => List.mem_of_getElem? (i := 144) rfl
  | 28, _ => List.mem_of_getElem? (i := 145) rfl
  | 29, _ => List.mem_of_getElem? (i := 146) rfl
  | 30, _ => List.mem_of_getElem? (i := 147) rfl
  | 31, _ => List.mem_of_getElem? (i := 148) rfl
  | 32, _ => List.mem_of_getElem? (i := 149) rfl
  | 33, _ => List.mem_of_getElem? (i := 150) rfl
  | 34, _ => List.mem_of_getElem? (i := 151) rfl
  | 35, _ => List.mem_of_getElem? (i := 152) rfl
  | 36, _ => List.mem_of_getElem? (i := 153) rfl
  | 37, _ => List.mem_of_getElem? (i := 154) rfl
  | 38, _ => List.mem_of_getElem? (i := 155) rfl
  | 39, _ => List.mem_of_getElem? (i := 156) rfl
  | 40, _ => List.mem_of_getElem? (i := 157) rfl
  | 41, _ => List.mem_of_getElem? (i := 158) rfl
  | 42, _ => List.mem_of_getElem? (i := 159) rfl
  | 43, _ => List.mem_of_getElem? (i := 160) rfl
  | 44, _ => List.mem_of_getElem? (i := 161) rfl
  | 45, _ => List.mem_of_getElem? (i := 162) rfl
  | 46, _ => List.mem_of_getElem? (i := 163) rfl
  | 47, _ => List.mem_of_getElem? (i := 164) rfl
  | 48, _ => List.mem_of_getElem? (i := 165) rfl
  | 49, _ => List.mem_of_getElem? (i := 166) rfl
  | 50, _ => List.mem_of_getElem? (i := 167) rfl
  | 51, _ => List.mem_of_getElem? (i := 168) rfl
  | 52, _ => List.mem_of_getElem? (i := 169) rfl
  | 53, _ => List.mem_of_getElem? (i := 170) rfl
  | 54, _ => List.mem_of_getElem? (i := 171) rfl
  | 55, _ => List.mem_of_getElem? (i := 172) rfl
  | 56, _ => List.mem_of_getElem? (i := 173) rfl
  | 57, _ => List.mem_of_getElem? (i := 174) rfl
  | 58, _ => List.mem_of_getElem? (i := 175) rfl
  | 59, _ => List.mem_of_getElem? (i := 176) rfl
  | 60, _ => List.mem_of_getElem? (i := 177) rfl
  | 61, _ => List.mem_of_getElem? (i := 178) rfl
  | 62, _ => List.mem_of_getElem? (i := 179) rfl
  | 63, _ => List.mem_of_getElem? (i := 180) rfl
  | 64, _ => List.mem_of_getElem? (i := 181) rfl
  | 65, _ => List.mem_of_getElem? (i := 182) rfl
  | 66, _ => List.mem_of_getElem? (i := 183) rfl
  | 67, _ => List.mem_of_getElem? (i := 184) rfl
  | 68, _ => List.mem_of_getElem? (i := 185) rfl
  | 69, _ => List.mem_of_getElem? (i := 186) rfl
  | 70, _ => List.mem_of_getElem? (i := 187) rfl
  | 71, _ => List.mem_of_getElem? (i := 188) rfl
  | 72, _ => List.mem_of_getElem? (i := 189) rfl
  | 73, _ => List.mem_of_getElem? (i := 190) rfl
  | 74, _ => List.mem_of_getElem? (i := 191) rfl
  | 75, _ => List.mem_of_getElem? (i := 192) rfl
  | 76, _ => List.mem_of_getElem? (i := 193) rfl
  | 77, _ => List.mem_of_getElem? (i := 194) rfl
  | 78, _ => List.mem_of_getElem? (i := 195) rfl
  | 79, _ => List.mem_of_getElem? (i := 196) rfl
  | 80, _ => List.mem_of_getElem? (i := 197) rfl
  | 81, _ => List.mem_of_getElem? (i := 198) rfl
  | 82, _ => List.mem_of_getElem? (i := 199) rfl
  | 83, _ => List.mem_of_getElem? (i := 200) rfl
  | 84, _ => List.mem_of_getElem? (i := 201) rfl
  | 85, _ => List.mem_of_getElem? (i := 202) rfl
  | 86, _ => List.mem_of_getElem? (i := 203) rfl
  | 87, _ => List.mem_of_getElem? (i := 204) rfl
  | 88, _ => List.mem_of_getElem? (i := 205) rfl
  | 89, _ => List.mem_of_getElem? (i := 206) rfl
  | 90, _ => List.mem_of_getElem? (i := 207) rfl
  | 91, _ => List.mem_of_getElem? (i := 208) rfl
  | 92, _ => List.mem_of_getElem? (i := 209) rfl
  | 93, _ => List.mem_of_getElem? (i := 210) rfl
  | 94, _ => List.mem_of_getElem? (i := 211) rfl
  | 95, _ => List.mem_of_getElem? (i := 212) rfl
  | 96, _ => List.mem_of_getElem? (i := 213) rfl
  | 97, _ => List.mem_of_getElem? (i := 214) rfl
  | 98, _ => List.mem_of_getElem? (i := 215) rfl
  | 99, _ => List.mem_of_getElem? (i := 216) rfl
  | k + 100, h => absurd h (by omega)
theorem zy_di : Cond.initialized "java/lang/Integer" ∈ lw_tbl := qt_1 _ (List.mem_of_getElem? (i := 20) rfl)
/-- the strings and statics at the start -/
theorem z_str {args : Array Value} {s : State} (hA : ∀ a : Nat, a < s.heap.size → ¬ s.heap.size ≤ a) (hts : ∀ w ∈ lw_tbl, w.before args s = true) (hgv : zgv.before args s = true) : ∃ sk sv : Nat → Nat, ∀ (g : sG), g.1 = s.heap.size → (∀ k, sw_vk k → s.heap.size ≤ sw_ad g k) → sw_sk g = sk → sw_sv g = sv → ∀ i : Nat, i < 18 → sw_S1 g i s s.heap := by
  have hs := flat_of_before _ hgv
  have h0 : ∀ i : Nat, ∃ q : Nat × Nat, i < 18 → ∀ (g : sG), g.1 = s.heap.size → (∀ k, sw_vk k → s.heap.size ≤ sw_ad g k) → sw_sk g i = q.1 → sw_sv g i = q.2 → sw_S1 g i s s.heap := by
    intro i
    by_cases hi : i < 18
    · obtain ⟨a, c, cA, kA, q1, q2, q3, q4, q5, q6, -⟩ := Cond.exactly_spec (args := args) (first := s) (o := none) (s := s) (idx := []) (t := Term.string (sw_so i) (sw_si i)) (cls := "java/lang/String") (hs _ (zy_ex i hi))
      obtain ⟨t, ht, hT⟩ := va_Tof (f := fun j => .int ((sw_sb i).getD j 0)) (A := fun a => s.heap.size ≤ a) (zy_ln i hi) (hs _ (zy_ar i hi)) (va_eqt (hs _ (zy_le i hi))) (fun j hj => va_eqt (hs _ (zy_el i hi j hj))) hA
      refine ⟨(a, t), fun _ g h1 hfx h2 h3 => ?_⟩
      unfold sw_S1
      rw [h2, h3]
      have eA : sw_A g = fun a => s.heap.size ≤ a := zA_eq h1 hfx
      rw [eA]
      exact ⟨⟨cA, q3, q5, by rw [q6]; exact q2, hA a (Array.getElem?_eq_some_iff.mp q3).1⟩, vk_OFof q1 (va_eqt (hs _ (zy_co i hi))) hA, vk_OFof q1 ht hA, hT, vk_R.of (hts _ (zy_rf i hi)) q1⟩
    · exact ⟨(0, 0), fun h => absurd h hi⟩
  obtain ⟨ad, had⟩ := Classical.axiomOfChoice h0
  exact ⟨fun i => (ad i).1, fun i => (ad i).2, fun g h1 hfx h2 h3 i hi => had i hi g h1 hfx (congrFun h2 i) (congrFun h3 i)⟩
theorem z_sta {args : Array Value} {s : State} (hA : ∀ a : Nat, a < s.heap.size → ¬ s.heap.size ≤ a) (hts : ∀ w ∈ lw_tbl, w.before args s = true) (hgv : zgv.before args s = true) (g : sG) (h1 : g.1 = s.heap.size) (hfx : ∀ k, sw_vk k → s.heap.size ≤ sw_ad g k) : vx_Zq Bundle.tN "UNASSIGNED_STACK" Bundle.steD (sw_A g) s s.heap ∧ vx_Zq Bundle.tN "SUPPRESSED_SENTINEL" Bundle.listD (sw_A g) s s.heap ∧ sw_CS g s s.heap := by
  have hs := flat_of_before _ hgv
  have eA : sw_A g = fun a => s.heap.size ≤ a := zA_eq h1 hfx
  have d1 : sw_dg g s s.heap "DigitOnes" (fun j => j % 10) := by
    obtain ⟨t, ht, hT⟩ := va_Tof (f := fun j => .int (nI (48 + j % 10))) (A := fun a => s.heap.size ≤ a) (N := 100) (by decide) (hs _ zy_d1a) (va_eqt (hs _ zy_d1n)) (fun j hj => va_eqt (hs _ (zy_d1e j hj))) hA
    unfold sw_dg
    rw [eA]
    exact ⟨t, va_Zof (hts _ zy_d1l) (hts _ zy_di) ht hA, hT⟩
  have d2 : sw_dg g s s.heap "DigitTens" (fun j => j / 10) := by
    obtain ⟨t, ht, hT⟩ := va_Tof (f := fun j => .int (nI (48 + j / 10))) (A := fun a => s.heap.size ≤ a) (N := 100) (by decide) (hs _ zy_d2a) (va_eqt (hs _ zy_d2n)) (fun j hj => va_eqt (hs _ (zy_d2e j hj))) hA
    unfold sw_dg
    rw [eA]
    exact ⟨t, va_Zof (hts _ zy_d2l) (hts _ zy_di) ht hA, hT⟩
  unfold sw_CS
  refine ⟨?_, ?_, ?_, ?_, ?_, d1, d2⟩ <;> (try rw [eA])
  · exact vx_Zqof (hts _ zy_usl) (hts _ zy_usi) (hs _ zy_us) hA
  · exact vx_Zqof (hts _ zy_ssl) (hts _ zy_ssi) (hs _ zy_ss) hA
  · exact va_Zof (hts _ zy_csl) (hts _ zy_csi) (va_eqi (hs _ zy_cs)) hA
  · exact va_Zqof (hts _ zy_pfl) (hts _ zy_pfi) (hs _ zy_pf) hA
  · exact fun q hq => va_Nc.of (hs _ (zy_nc q hq))
