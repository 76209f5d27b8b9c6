theorem cat_rf (r : Option Nat) : (va_rf r).category = 1 := by cases r <;> rfl
theorem c8x : ∀ st : List Value, (st.map fun v => v.category).sum ≤ 2 * st.length
  | [] => Nat.le_refl 0
  | v :: st => by
    have h1 := c8x st
    have h2 := lv_cat v
    simp only [List.map_cons, List.sum_cons, List.length_cons]
    omega
theorem c8 {st : List Value} (h : st.length ≤ 4) : (st.map fun v => v.category).sum ≤ 8 := Nat.le_trans (c8x st) (by omega)
set_option maxRecDepth 100000 in
theorem fk_H_117 : Cond.fieldLink R_H 117 R_Wo (F_Wo 2).2.1 (F_Wo 2).2.2.1 ∈ wd_tbl := wd_of 362 (by decide +kernel) rfl
set_option maxRecDepth 100000 in
theorem fk_H_86 : Cond.fieldLink R_H 86 R_To (F_To 1).2.1 (F_To 1).2.2.1 ∈ wd_tbl := wd_of 383 (by decide +kernel) rfl
set_option maxRecDepth 100000 in
theorem fk_H_111 : Cond.fieldLink R_H 111 R_To (F_To 5).2.1 (F_To 5).2.2.1 ∈ wd_tbl := wd_of 396 (by decide +kernel) rfl
set_option maxRecDepth 100000 in
theorem fk_H_114 : Cond.fieldLink R_H 114 R_Co (F_Co 2).2.1 (F_Co 2).2.2.1 ∈ wd_tbl := wd_of 474 (by decide +kernel) rfl
set_option maxRecDepth 100000 in
theorem fk_H_135 : Cond.fieldLink R_H 135 R_Co (F_Co 3).2.1 (F_Co 3).2.2.1 ∈ wd_tbl := wd_of 478 (by decide +kernel) rfl
set_option maxRecDepth 100000 in
theorem fk_H_139 : Cond.fieldLink R_H 139 R_Co (F_Co 4).2.1 (F_Co 4).2.2.1 ∈ wd_tbl := wd_of 481 (by decide +kernel) rfl
set_option maxRecDepth 100000 in
theorem fk_H_145 : Cond.fieldLink R_H 145 R_Co (F_Co 5).2.1 (F_Co 5).2.2.1 ∈ wd_tbl := wd_of 483 (by decide +kernel) rfl
set_option maxRecDepth 100000 in
theorem fk_H_142 : Cond.fieldLink R_H 142 R_Co (F_Co 7).2.1 (F_Co 7).2.2.1 ∈ wd_tbl := wd_of 487 (by decide +kernel) rfl
set_option maxRecDepth 100000 in
theorem fk_H_182 : Cond.fieldLink R_H 182 R_Co (F_Co 8).2.1 (F_Co 8).2.2.1 ∈ wd_tbl := wd_of 490 (by decide +kernel) rfl
set_option maxRecDepth 100000 in
theorem fk_H_118 : Cond.fieldLink R_H 118 R_Wl (F_Wl 2).2.1 (F_Wl 2).2.2.1 ∈ wd_tbl := wd_of 656 (by decide +kernel) rfl
set_option maxRecDepth 100000 in
theorem fk_H_169 : Cond.fieldLink R_H 169 R_Wl (F_Wl 3).2.1 (F_Wl 3).2.2.1 ∈ wd_tbl := wd_of 658 (by decide +kernel) rfl
set_option maxRecDepth 100000 in
theorem fk_H_125 : Cond.fieldLink R_H 125 R_Wl (F_Wl 4).2.1 (F_Wl 4).2.2.1 ∈ wd_tbl := wd_of 660 (by decide +kernel) rfl
set_option maxRecDepth 100000 in
theorem fk_H_128 : Cond.fieldLink R_H 128 R_Wl (F_Wl 5).2.1 (F_Wl 5).2.2.1 ∈ wd_tbl := wd_of 663 (by decide +kernel) rfl
set_option maxRecDepth 100000 in
theorem fk_H_122 : Cond.fieldLink R_H 122 R_Wl (F_Wl 6).2.1 (F_Wl 6).2.2.1 ∈ wd_tbl := wd_of 666 (by decide +kernel) rfl
set_option maxRecDepth 100000 in
theorem fk_H_308 : Cond.fieldLink R_H 308 R_Wl (F_Wl 11).2.1 (F_Wl 11).2.2.1 ∈ wd_tbl := wd_of 674 (by decide +kernel) rfl
set_option maxRecDepth 100000 in
theorem fk_H_305 : Cond.fieldLink R_H 305 R_Wl (F_Wl 12).2.1 (F_Wl 12).2.2.1 ∈ wd_tbl := wd_of 676 (by decide +kernel) rfl
set_option maxRecDepth 100000 in
theorem fk_H_119 : Cond.fieldLink R_H 119 R_Wl (F_Wl 13).2.1 (F_Wl 13).2.2.1 ∈ wd_tbl := wd_of 678 (by decide +kernel) rfl
set_option maxRecDepth 100000 in
theorem fk_H_16 : Cond.fieldLink R_H 16 R_H (F_H 0).2.1 (F_H 0).2.2.1 ∈ wd_tbl := wd_of 769 (by decide +kernel) rfl
set_option maxRecDepth 100000 in
theorem fk_H_25 : Cond.fieldLink R_H 25 R_H (F_H 1).2.1 (F_H 1).2.2.1 ∈ wd_tbl := wd_of 770 (by decide +kernel) rfl
set_option maxRecDepth 100000 in
theorem fk_H_35 : Cond.fieldLink R_H 35 R_H (F_H 2).2.1 (F_H 2).2.2.1 ∈ wd_tbl := wd_of 771 (by decide +kernel) rfl
set_option maxRecDepth 100000 in
theorem fk_H_44 : Cond.fieldLink R_H 44 R_H (F_H 3).2.1 (F_H 3).2.2.1 ∈ wd_tbl := wd_of 772 (by decide +kernel) rfl
set_option maxRecDepth 100000 in
theorem fk_H_53 : Cond.fieldLink R_H 53 R_H (F_H 4).2.1 (F_H 4).2.2.1 ∈ wd_tbl := wd_of 773 (by decide +kernel) rfl
set_option maxRecDepth 100000 in
theorem fk_H_60 : Cond.fieldLink R_H 60 R_H (F_H 5).2.1 (F_H 5).2.2.1 ∈ wd_tbl := wd_of 774 (by decide +kernel) rfl
set_option maxRecDepth 100000 in
theorem fk_H_69 : Cond.fieldLink R_H 69 R_H (F_H 6).2.1 (F_H 6).2.2.1 ∈ wd_tbl := wd_of 775 (by decide +kernel) rfl
set_option maxRecDepth 100000 in
theorem fk_H_78 : Cond.fieldLink R_H 78 R_H (F_H 7).2.1 (F_H 7).2.2.1 ∈ wd_tbl := wd_of 776 (by decide +kernel) rfl
set_option maxRecDepth 100000 in
theorem fk_H_82 : Cond.fieldLink R_H 82 R_H (F_H 8).2.1 (F_H 8).2.2.1 ∈ wd_tbl := wd_of 777 (by decide +kernel) rfl
set_option maxRecDepth 100000 in
theorem fk_H_294 : Cond.fieldLink R_H 294 R_H (F_H 9).2.1 (F_H 9).2.2.1 ∈ wd_tbl := wd_of 778 (by decide +kernel) rfl
set_option maxRecDepth 100000 in
theorem fk_H_104 : Cond.fieldLink R_H 104 R_H (F_H 10).2.1 (F_H 10).2.2.1 ∈ wd_tbl := wd_of 779 (by decide +kernel) rfl
set_option maxRecDepth 100000 in
theorem fk_H_236 : Cond.fieldLink R_H 236 R_Fr (F_Fr 1).2.1 (F_Fr 1).2.2.1 ∈ wd_tbl := wd_of 1472 (by decide +kernel) rfl
set_option maxRecDepth 100000 in
theorem fk_H_300 : Cond.fieldLink R_H 300 R_Fr (F_Fr 3).2.1 (F_Fr 3).2.2.1 ∈ wd_tbl := wd_of 1477 (by decide +kernel) rfl
set_option maxRecDepth 100000 in
theorem fk_H_302 : Cond.fieldLink R_H 302 R_Fr (F_Fr 5).2.1 (F_Fr 5).2.2.1 ∈ wd_tbl := wd_of 1483 (by decide +kernel) rfl
set_option maxRecDepth 100000 in
theorem fk_H_263 : Cond.fieldLink R_H 263 R_Fr (F_Fr 9).2.1 (F_Fr 9).2.2.1 ∈ wd_tbl := wd_of 1492 (by decide +kernel) rfl
set_option maxRecDepth 100000 in
theorem fk_H_176 : Cond.fieldLink R_H 176 R_Pr (F_Pr 1).2.1 (F_Pr 1).2.2.1 ∈ wd_tbl := wd_of 1519 (by decide +kernel) rfl
set_option maxRecDepth 100000 in
theorem fk_H_282 : Cond.fieldLink R_H 282 R_Pr (F_Pr 2).2.1 (F_Pr 2).2.2.1 ∈ wd_tbl := wd_of 1524 (by decide +kernel) rfl
set_option maxRecDepth 100000 in
theorem fk_H_237 : Cond.fieldLink R_H 237 R_Pr (F_Pr 4).2.1 (F_Pr 4).2.2.1 ∈ wd_tbl := wd_of 1528 (by decide +kernel) rfl
set_option maxRecDepth 100000 in
theorem fk_H_240 : Cond.fieldLink R_H 240 R_Pr (F_Pr 5).2.1 (F_Pr 5).2.2.1 ∈ wd_tbl := wd_of 1531 (by decide +kernel) rfl
set_option maxRecDepth 100000 in
theorem fk_H_297 : Cond.fieldLink R_H 297 R_Pr (F_Pr 6).2.1 (F_Pr 6).2.2.1 ∈ wd_tbl := wd_of 1533 (by decide +kernel) rfl
set_option maxRecDepth 100000 in
theorem fk_H_243 : Cond.fieldLink R_H 243 R_Pr (F_Pr 7).2.1 (F_Pr 7).2.2.1 ∈ wd_tbl := wd_of 1537 (by decide +kernel) rfl
set_option maxRecDepth 100000 in
theorem fk_H_199 : Cond.fieldLink R_H 199 R_Pr (F_Pr 9).2.1 (F_Pr 9).2.2.1 ∈ wd_tbl := wd_of 1545 (by decide +kernel) rfl
set_option maxRecDepth 100000 in
theorem fk_H_253 : Cond.fieldLink R_H 253 R_Pr (F_Pr 11).2.1 (F_Pr 11).2.2.1 ∈ wd_tbl := wd_of 1550 (by decide +kernel) rfl
set_option maxRecDepth 100000 in
theorem fk_H_256 : Cond.fieldLink R_H 256 R_Pr (F_Pr 12).2.1 (F_Pr 12).2.2.1 ∈ wd_tbl := wd_of 1555 (by decide +kernel) rfl
set_option maxRecDepth 100000 in
theorem fk_H_259 : Cond.fieldLink R_H 259 R_Pr (F_Pr 13).2.1 (F_Pr 13).2.2.1 ∈ wd_tbl := wd_of 1558 (by decide +kernel) rfl
set_option maxRecDepth 100000 in
theorem fk_H_275 : Cond.fieldLink R_H 275 R_Pr (F_Pr 14).2.1 (F_Pr 14).2.2.1 ∈ wd_tbl := wd_of 1561 (by decide +kernel) rfl
set_option maxRecDepth 100000 in
theorem fk_H_246 : Cond.fieldLink R_H 246 R_Pr (F_Pr 15).2.1 (F_Pr 15).2.2.1 ∈ wd_tbl := wd_of 1564 (by decide +kernel) rfl
set_option maxRecDepth 100000 in
theorem fk_H_286 : Cond.fieldLink R_H 286 R_Pr (F_Pr 16).2.1 (F_Pr 16).2.2.1 ∈ wd_tbl := wd_of 1568 (by decide +kernel) rfl
set_option maxRecDepth 100000 in
theorem fk_H_278 : Cond.fieldLink R_H 278 R_Pr (F_Pr 17).2.1 (F_Pr 17).2.2.1 ∈ wd_tbl := wd_of 1571 (by decide +kernel) rfl
set_option maxRecDepth 100000 in
theorem hini_H : Cond.initialized R_H ∈ wd_tbl := wd_of 266 (by decide +kernel) rfl
set_option maxRecDepth 100000 in
theorem fk_Co_11 : Cond.fieldLink R_Co 11 R_Co (F_Co 0).2.1 (F_Co 0).2.2.1 ∈ wd_tbl := wd_of 469 (by decide +kernel) rfl
set_option maxRecDepth 100000 in
theorem fk_Co_42 : Cond.fieldLink R_Co 42 R_Co (F_Co 1).2.1 (F_Co 1).2.2.1 ∈ wd_tbl := wd_of 470 (by decide +kernel) rfl
set_option maxRecDepth 100000 in
theorem fk_Co_46 : Cond.fieldLink R_Co 46 R_Co (F_Co 2).2.1 (F_Co 2).2.2.1 ∈ wd_tbl := wd_of 472 (by decide +kernel) rfl
set_option maxRecDepth 100000 in
theorem fk_Co_15 : Cond.fieldLink R_Co 15 R_Co (F_Co 3).2.1 (F_Co 3).2.2.1 ∈ wd_tbl := wd_of 476 (by decide +kernel) rfl
set_option maxRecDepth 100000 in
theorem fk_Co_18 : Cond.fieldLink R_Co 18 R_Co (F_Co 4).2.1 (F_Co 4).2.2.1 ∈ wd_tbl := wd_of 479 (by decide +kernel) rfl
set_option maxRecDepth 100000 in
theorem fk_Co_21 : Cond.fieldLink R_Co 21 R_Co (F_Co 5).2.1 (F_Co 5).2.2.1 ∈ wd_tbl := wd_of 482 (by decide +kernel) rfl
set_option maxRecDepth 100000 in
theorem fk_Co_24 : Cond.fieldLink R_Co 24 R_Co (F_Co 6).2.1 (F_Co 6).2.2.1 ∈ wd_tbl := wd_of 484 (by decide +kernel) rfl
set_option maxRecDepth 100000 in
theorem fk_Co_27 : Cond.fieldLink R_Co 27 R_Co (F_Co 7).2.1 (F_Co 7).2.2.1 ∈ wd_tbl := wd_of 486 (by decide +kernel) rfl
set_option maxRecDepth 100000 in
theorem fk_Co_30 : Cond.fieldLink R_Co 30 R_Co (F_Co 8).2.1 (F_Co 8).2.2.1 ∈ wd_tbl := wd_of 488 (by decide +kernel) rfl
set_option maxRecDepth 100000 in
theorem fk_Co_49 : Cond.fieldLink R_Co 49 R_Co (F_Co 9).2.1 (F_Co 9).2.2.1 ∈ wd_tbl := wd_of 492 (by decide +kernel) rfl
set_option maxRecDepth 100000 in
theorem fk_Co_33 : Cond.fieldLink R_Co 33 R_Co (F_Co 10).2.1 (F_Co 10).2.2.1 ∈ wd_tbl := wd_of 494 (by decide +kernel) rfl
set_option maxRecDepth 100000 in
theorem fk_Co_36 : Cond.fieldLink R_Co 36 R_Co (F_Co 11).2.1 (F_Co 11).2.2.1 ∈ wd_tbl := wd_of 496 (by decide +kernel) rfl
set_option maxRecDepth 100000 in
theorem fk_Co_39 : Cond.fieldLink R_Co 39 R_Co (F_Co 12).2.1 (F_Co 12).2.2.1 ∈ wd_tbl := wd_of 499 (by decide +kernel) rfl
set_option maxRecDepth 100000 in
theorem hini_Co : Cond.initialized R_Co ∈ wd_tbl := wd_of 274 (by decide +kernel) rfl
set_option maxRecDepth 100000 in
theorem fk_Cm_79 : Cond.fieldLink R_Cm 79 R_Wo (F_Wo 2).2.1 (F_Wo 2).2.2.1 ∈ wd_tbl := wd_of 360 (by decide +kernel) rfl
set_option maxRecDepth 100000 in
theorem fk_Cm_259 : Cond.fieldLink R_Cm 259 R_To (F_To 2).2.1 (F_To 2).2.2.1 ∈ wd_tbl := wd_of 387 (by decide +kernel) rfl
set_option maxRecDepth 100000 in
theorem fk_Cm_132 : Cond.fieldLink R_Cm 132 R_To (F_To 3).2.1 (F_To 3).2.2.1 ∈ wd_tbl := wd_of 389 (by decide +kernel) rfl
set_option maxRecDepth 100000 in
theorem fk_Cm_74 : Cond.fieldLink R_Cm 74 R_To (F_To 4).2.1 (F_To 4).2.2.1 ∈ wd_tbl := wd_of 392 (by decide +kernel) rfl
set_option maxRecDepth 100000 in
theorem fk_Cm_82 : Cond.fieldLink R_Cm 82 R_To (F_To 5).2.1 (F_To 5).2.2.1 ∈ wd_tbl := wd_of 394 (by decide +kernel) rfl
set_option maxRecDepth 100000 in
theorem fk_Cm_177 : Cond.fieldLink R_Cm 177 R_Tr (F_Tr 0).2.1 (F_Tr 0).2.2.1 ∈ wd_tbl := wd_of 432 (by decide +kernel) rfl
set_option maxRecDepth 100000 in
theorem fk_Cm_93 : Cond.fieldLink R_Cm 93 R_Tr (F_Tr 1).2.1 (F_Tr 1).2.2.1 ∈ wd_tbl := wd_of 434 (by decide +kernel) rfl
set_option maxRecDepth 100000 in
theorem fk_Cm_125 : Cond.fieldLink R_Cm 125 R_Tr (F_Tr 2).2.1 (F_Tr 2).2.2.1 ∈ wd_tbl := wd_of 437 (by decide +kernel) rfl
set_option maxRecDepth 100000 in
theorem fk_Cm_171 : Cond.fieldLink R_Cm 171 R_Tr (F_Tr 3).2.1 (F_Tr 3).2.2.1 ∈ wd_tbl := wd_of 440 (by decide +kernel) rfl
set_option maxRecDepth 100000 in
theorem fk_Cm_155 : Cond.fieldLink R_Cm 155 R_Tr (F_Tr 4).2.1 (F_Tr 4).2.2.1 ∈ wd_tbl := wd_of 443 (by decide +kernel) rfl
set_option maxRecDepth 100000 in
theorem fk_Cm_139 : Cond.fieldLink R_Cm 139 R_Tr (F_Tr 5).2.1 (F_Tr 5).2.2.1 ∈ wd_tbl := wd_of 445 (by decide +kernel) rfl
set_option maxRecDepth 100000 in
theorem fk_Cm_122 : Cond.fieldLink R_Cm 122 R_Co (F_Co 1).2.1 (F_Co 1).2.2.1 ∈ wd_tbl := wd_of 471 (by decide +kernel) rfl
set_option maxRecDepth 100000 in
theorem fk_Cm_65 : Cond.fieldLink R_Cm 65 R_Co (F_Co 2).2.1 (F_Co 2).2.2.1 ∈ wd_tbl := wd_of 473 (by decide +kernel) rfl
set_option maxRecDepth 100000 in
theorem fk_Cm_101 : Cond.fieldLink R_Cm 101 R_Co (F_Co 3).2.1 (F_Co 3).2.2.1 ∈ wd_tbl := wd_of 477 (by decide +kernel) rfl
set_option maxRecDepth 100000 in
theorem fk_Cm_104 : Cond.fieldLink R_Cm 104 R_Co (F_Co 4).2.1 (F_Co 4).2.2.1 ∈ wd_tbl := wd_of 480 (by decide +kernel) rfl
set_option maxRecDepth 100000 in
theorem fk_Cm_98 : Cond.fieldLink R_Cm 98 R_Co (F_Co 6).2.1 (F_Co 6).2.2.1 ∈ wd_tbl := wd_of 485 (by decide +kernel) rfl
set_option maxRecDepth 100000 in
theorem fk_Cm_119 : Cond.fieldLink R_Cm 119 R_Co (F_Co 8).2.1 (F_Co 8).2.2.1 ∈ wd_tbl := wd_of 489 (by decide +kernel) rfl
set_option maxRecDepth 100000 in
theorem fk_Cm_244 : Cond.fieldLink R_Cm 244 R_Co (F_Co 10).2.1 (F_Co 10).2.2.1 ∈ wd_tbl := wd_of 495 (by decide +kernel) rfl
set_option maxRecDepth 100000 in
theorem fk_Cm_247 : Cond.fieldLink R_Cm 247 R_Co (F_Co 11).2.1 (F_Co 11).2.2.1 ∈ wd_tbl := wd_of 497 (by decide +kernel) rfl
set_option maxRecDepth 100000 in
theorem fk_Cm_250 : Cond.fieldLink R_Cm 250 R_Co (F_Co 12).2.1 (F_Co 12).2.2.1 ∈ wd_tbl := wd_of 500 (by decide +kernel) rfl
set_option maxRecDepth 100000 in
theorem fk_Cm_35 : Cond.fieldLink R_Cm 35 R_Cm (F_Cm 0).2.1 (F_Cm 0).2.2.1 ∈ wd_tbl := wd_of 569 (by decide +kernel) rfl
set_option maxRecDepth 100000 in
theorem fk_Cm_39 : Cond.fieldLink R_Cm 39 R_Cm (F_Cm 1).2.1 (F_Cm 1).2.2.1 ∈ wd_tbl := wd_of 570 (by decide +kernel) rfl
set_option maxRecDepth 100000 in
theorem fk_Cm_43 : Cond.fieldLink R_Cm 43 R_Cm (F_Cm 2).2.1 (F_Cm 2).2.2.1 ∈ wd_tbl := wd_of 571 (by decide +kernel) rfl
set_option maxRecDepth 100000 in
theorem fk_Cm_47 : Cond.fieldLink R_Cm 47 R_Cm (F_Cm 3).2.1 (F_Cm 3).2.2.1 ∈ wd_tbl := wd_of 572 (by decide +kernel) rfl
set_option maxRecDepth 100000 in
theorem fk_Cm_16 : Cond.fieldLink R_Cm 16 R_Cm (F_Cm 4).2.1 (F_Cm 4).2.2.1 ∈ wd_tbl := wd_of 573 (by decide +kernel) rfl
set_option maxRecDepth 100000 in
theorem fk_Cm_22 : Cond.fieldLink R_Cm 22 R_Cm (F_Cm 5).2.1 (F_Cm 5).2.2.1 ∈ wd_tbl := wd_of 574 (by decide +kernel) rfl
set_option maxRecDepth 100000 in
theorem fk_Cm_116 : Cond.fieldLink R_Cm 116 R_Cm (F_Cm 6).2.1 (F_Cm 6).2.2.1 ∈ wd_tbl := wd_of 575 (by decide +kernel) rfl
set_option maxRecDepth 100000 in
theorem fk_Cm_26 : Cond.fieldLink R_Cm 26 R_Cm (F_Cm 7).2.1 (F_Cm 7).2.2.1 ∈ wd_tbl := wd_of 576 (by decide +kernel) rfl
set_option maxRecDepth 100000 in
theorem fk_Cm_29 : Cond.fieldLink R_Cm 29 R_Cm (F_Cm 8).2.1 (F_Cm 8).2.2.1 ∈ wd_tbl := wd_of 577 (by decide +kernel) rfl
set_option maxRecDepth 100000 in
theorem fk_Cm_113 : Cond.fieldLink R_Cm 113 R_Cm (F_Cm 9).2.1 (F_Cm 9).2.2.1 ∈ wd_tbl := wd_of 578 (by decide +kernel) rfl
set_option maxRecDepth 100000 in
theorem fk_Cm_32 : Cond.fieldLink R_Cm 32 R_Cm (F_Cm 10).2.1 (F_Cm 10).2.2.1 ∈ wd_tbl := wd_of 579 (by decide +kernel) rfl
set_option maxRecDepth 100000 in
theorem fk_Cm_55 : Cond.fieldLink R_Cm 55 R_Cm (F_Cm 11).2.1 (F_Cm 11).2.2.1 ∈ wd_tbl := wd_of 580 (by decide +kernel) rfl
set_option maxRecDepth 100000 in
theorem fk_Cm_59 : Cond.fieldLink R_Cm 59 R_Cm (F_Cm 12).2.1 (F_Cm 12).2.2.1 ∈ wd_tbl := wd_of 581 (by decide +kernel) rfl
set_option maxRecDepth 100000 in
theorem fk_Cm_62 : Cond.fieldLink R_Cm 62 R_Cm (F_Cm 13).2.1 (F_Cm 13).2.2.1 ∈ wd_tbl := wd_of 582 (by decide +kernel) rfl
set_option maxRecDepth 100000 in
theorem fk_Cm_51 : Cond.fieldLink R_Cm 51 R_Cm (F_Cm 14).2.1 (F_Cm 14).2.2.1 ∈ wd_tbl := wd_of 583 (by decide +kernel) rfl
set_option maxRecDepth 100000 in
theorem hini_Cm : Cond.initialized R_Cm ∈ wd_tbl := wd_of 276 (by decide +kernel) rfl
set_option maxRecDepth 100000 in
theorem fk_Fr_11 : Cond.fieldLink R_Fr 11 R_Fr (F_Fr 0).2.1 (F_Fr 0).2.2.1 ∈ wd_tbl := wd_of 1470 (by decide +kernel) rfl
set_option maxRecDepth 100000 in
theorem fk_Fr_28 : Cond.fieldLink R_Fr 28 R_Fr (F_Fr 1).2.1 (F_Fr 1).2.2.1 ∈ wd_tbl := wd_of 1471 (by decide +kernel) rfl
set_option maxRecDepth 100000 in
theorem fk_Fr_15 : Cond.fieldLink R_Fr 15 R_Fr (F_Fr 2).2.1 (F_Fr 2).2.2.1 ∈ wd_tbl := wd_of 1474 (by decide +kernel) rfl
set_option maxRecDepth 100000 in
theorem fk_Fr_18 : Cond.fieldLink R_Fr 18 R_Fr (F_Fr 3).2.1 (F_Fr 3).2.2.1 ∈ wd_tbl := wd_of 1475 (by decide +kernel) rfl
set_option maxRecDepth 100000 in
theorem fk_Fr_32 : Cond.fieldLink R_Fr 32 R_Fr (F_Fr 4).2.1 (F_Fr 4).2.2.1 ∈ wd_tbl := wd_of 1478 (by decide +kernel) rfl
set_option maxRecDepth 100000 in
theorem fk_Fr_22 : Cond.fieldLink R_Fr 22 R_Fr (F_Fr 5).2.1 (F_Fr 5).2.2.1 ∈ wd_tbl := wd_of 1481 (by decide +kernel) rfl
set_option maxRecDepth 100000 in
theorem fk_Fr_35 : Cond.fieldLink R_Fr 35 R_Fr (F_Fr 6).2.1 (F_Fr 6).2.2.1 ∈ wd_tbl := wd_of 1484 (by decide +kernel) rfl
set_option maxRecDepth 100000 in
theorem fk_Fr_25 : Cond.fieldLink R_Fr 25 R_Fr (F_Fr 7).2.1 (F_Fr 7).2.2.1 ∈ wd_tbl := wd_of 1487 (by decide +kernel) rfl
set_option maxRecDepth 100000 in
theorem fk_Fr_38 : Cond.fieldLink R_Fr 38 R_Fr (F_Fr 8).2.1 (F_Fr 8).2.2.1 ∈ wd_tbl := wd_of 1488 (by decide +kernel) rfl
set_option maxRecDepth 100000 in
theorem fk_Fr_41 : Cond.fieldLink R_Fr 41 R_Fr (F_Fr 9).2.1 (F_Fr 9).2.2.1 ∈ wd_tbl := wd_of 1490 (by decide +kernel) rfl
set_option maxRecDepth 100000 in
theorem hini_Fr : Cond.initialized R_Fr ∈ wd_tbl := wd_of 291 (by decide +kernel) rfl
set_option maxRecDepth 100000 in
theorem fk_Ma_354 : Cond.fieldLink R_Ma 354 R_Co (F_Co 2).2.1 (F_Co 2).2.2.1 ∈ wd_tbl := wd_of 475 (by decide +kernel) rfl
set_option maxRecDepth 100000 in
theorem fk_Ma_357 : Cond.fieldLink R_Ma 357 R_Co (F_Co 8).2.1 (F_Co 8).2.2.1 ∈ wd_tbl := wd_of 491 (by decide +kernel) rfl
set_option maxRecDepth 100000 in
theorem fk_Ma_388 : Cond.fieldLink R_Ma 388 R_Co (F_Co 9).2.1 (F_Co 9).2.2.1 ∈ wd_tbl := wd_of 493 (by decide +kernel) rfl
set_option maxRecDepth 100000 in
theorem fk_Ma_391 : Cond.fieldLink R_Ma 391 R_Co (F_Co 11).2.1 (F_Co 11).2.2.1 ∈ wd_tbl := wd_of 498 (by decide +kernel) rfl
set_option maxRecDepth 100000 in
theorem fk_Ma_394 : Cond.fieldLink R_Ma 394 R_Co (F_Co 12).2.1 (F_Co 12).2.2.1 ∈ wd_tbl := wd_of 501 (by decide +kernel) rfl
set_option maxRecDepth 100000 in
theorem fk_Ma_267 : Cond.fieldLink R_Ma 267 R_Te (F_Te 0).2.1 (F_Te 0).2.2.1 ∈ wd_tbl := wd_of 622 (by decide +kernel) rfl
set_option maxRecDepth 100000 in
theorem fk_Ma_402 : Cond.fieldLink R_Ma 402 R_Wl (F_Wl 4).2.1 (F_Wl 4).2.2.1 ∈ wd_tbl := wd_of 661 (by decide +kernel) rfl
set_option maxRecDepth 100000 in
theorem fk_Ma_462 : Cond.fieldLink R_Ma 462 R_Wl (F_Wl 5).2.1 (F_Wl 5).2.2.1 ∈ wd_tbl := wd_of 664 (by decide +kernel) rfl
set_option maxRecDepth 100000 in
theorem fk_Ma_349 : Cond.fieldLink R_Ma 349 R_Wl (F_Wl 6).2.1 (F_Wl 6).2.2.1 ∈ wd_tbl := wd_of 667 (by decide +kernel) rfl
set_option maxRecDepth 100000 in
theorem fk_Ma_442 : Cond.fieldLink R_Ma 442 R_Wl (F_Wl 10).2.1 (F_Wl 10).2.2.1 ∈ wd_tbl := wd_of 672 (by decide +kernel) rfl
set_option maxRecDepth 100000 in
theorem fk_Ma_9 : Cond.fieldLink R_Ma 9 R_Ma (F_Ma 0).2.1 (F_Ma 0).2.2.1 ∈ wd_tbl := wd_of 723 (by decide +kernel) rfl
set_option maxRecDepth 100000 in
theorem fk_Ma_15 : Cond.fieldLink R_Ma 15 R_Ma (F_Ma 1).2.1 (F_Ma 1).2.2.1 ∈ wd_tbl := wd_of 724 (by decide +kernel) rfl
set_option maxRecDepth 100000 in
theorem fk_Ma_19 : Cond.fieldLink R_Ma 19 R_Ma (F_Ma 2).2.1 (F_Ma 2).2.2.1 ∈ wd_tbl := wd_of 725 (by decide +kernel) rfl
set_option maxRecDepth 100000 in
theorem fk_Ma_23 : Cond.fieldLink R_Ma 23 R_Ma (F_Ma 3).2.1 (F_Ma 3).2.2.1 ∈ wd_tbl := wd_of 726 (by decide +kernel) rfl
set_option maxRecDepth 100000 in
theorem fk_Ma_33 : Cond.fieldLink R_Ma 33 R_Ma (F_Ma 4).2.1 (F_Ma 4).2.2.1 ∈ wd_tbl := wd_of 727 (by decide +kernel) rfl
set_option maxRecDepth 100000 in
theorem fk_Ma_40 : Cond.fieldLink R_Ma 40 R_Ma (F_Ma 5).2.1 (F_Ma 5).2.2.1 ∈ wd_tbl := wd_of 728 (by decide +kernel) rfl
set_option maxRecDepth 100000 in
theorem fk_Ma_44 : Cond.fieldLink R_Ma 44 R_Ma (F_Ma 6).2.1 (F_Ma 6).2.2.1 ∈ wd_tbl := wd_of 729 (by decide +kernel) rfl
set_option maxRecDepth 100000 in
theorem fk_Ma_47 : Cond.fieldLink R_Ma 47 R_Ma (F_Ma 7).2.1 (F_Ma 7).2.2.1 ∈ wd_tbl := wd_of 730 (by decide +kernel) rfl
set_option maxRecDepth 100000 in
theorem fk_Ma_50 : Cond.fieldLink R_Ma 50 R_Ma (F_Ma 8).2.1 (F_Ma 8).2.2.1 ∈ wd_tbl := wd_of 731 (by decide +kernel) rfl
set_option maxRecDepth 100000 in
theorem fk_Ma_54 : Cond.fieldLink R_Ma 54 R_Ma (F_Ma 9).2.1 (F_Ma 9).2.2.1 ∈ wd_tbl := wd_of 732 (by decide +kernel) rfl
set_option maxRecDepth 100000 in
theorem fk_Ma_119 : Cond.fieldLink R_Ma 119 R_Ma (F_Ma 10).2.1 (F_Ma 10).2.2.1 ∈ wd_tbl := wd_of 733 (by decide +kernel) rfl
set_option maxRecDepth 100000 in
theorem fk_Ma_116 : Cond.fieldLink R_Ma 116 R_Ma (F_Ma 11).2.1 (F_Ma 11).2.2.1 ∈ wd_tbl := wd_of 734 (by decide +kernel) rfl
set_option maxRecDepth 100000 in
theorem fk_Ma_57 : Cond.fieldLink R_Ma 57 R_Ma (F_Ma 12).2.1 (F_Ma 12).2.2.1 ∈ wd_tbl := wd_of 735 (by decide +kernel) rfl
set_option maxRecDepth 100000 in
theorem fk_Ma_171 : Cond.fieldLink R_Ma 171 R_Ma (F_Ma 13).2.1 (F_Ma 13).2.2.1 ∈ wd_tbl := wd_of 736 (by decide +kernel) rfl
set_option maxRecDepth 100000 in
theorem fk_Ma_165 : Cond.fieldLink R_Ma 165 R_Ma (F_Ma 14).2.1 (F_Ma 14).2.2.1 ∈ wd_tbl := wd_of 737 (by decide +kernel) rfl
set_option maxRecDepth 100000 in
theorem fk_Ma_343 : Cond.fieldLink R_Ma 343 R_Fr (F_Fr 1).2.1 (F_Fr 1).2.2.1 ∈ wd_tbl := wd_of 1473 (by decide +kernel) rfl
set_option maxRecDepth 100000 in
theorem fk_Ma_327 : Cond.fieldLink R_Ma 327 R_Fr (F_Fr 4).2.1 (F_Fr 4).2.2.1 ∈ wd_tbl := wd_of 1480 (by decide +kernel) rfl
set_option maxRecDepth 100000 in
theorem fk_Ma_168 : Cond.fieldLink R_Ma 168 R_Fr (F_Fr 6).2.1 (F_Fr 6).2.2.1 ∈ wd_tbl := wd_of 1486 (by decide +kernel) rfl
set_option maxRecDepth 100000 in
theorem fk_Ma_155 : Cond.fieldLink R_Ma 155 R_Fr (F_Fr 8).2.1 (F_Fr 8).2.2.1 ∈ wd_tbl := wd_of 1489 (by decide +kernel) rfl
set_option maxRecDepth 100000 in
theorem fk_Ma_63 : Cond.fieldLink R_Ma 63 R_Fr (F_Fr 9).2.1 (F_Fr 9).2.2.1 ∈ wd_tbl := wd_of 1491 (by decide +kernel) rfl
set_option maxRecDepth 100000 in
theorem fk_Ma_282 : Cond.fieldLink R_Ma 282 R_Pr (F_Pr 0).2.1 (F_Pr 0).2.2.1 ∈ wd_tbl := wd_of 1516 (by decide +kernel) rfl
set_option maxRecDepth 100000 in
theorem fk_Ma_27 : Cond.fieldLink R_Ma 27 R_Pr (F_Pr 1).2.1 (F_Pr 1).2.2.1 ∈ wd_tbl := wd_of 1518 (by decide +kernel) rfl
set_option maxRecDepth 100000 in
theorem fk_Ma_195 : Cond.fieldLink R_Ma 195 R_Pr (F_Pr 2).2.1 (F_Pr 2).2.2.1 ∈ wd_tbl := wd_of 1523 (by decide +kernel) rfl
set_option maxRecDepth 100000 in
theorem fk_Ma_239 : Cond.fieldLink R_Ma 239 R_Pr (F_Pr 4).2.1 (F_Pr 4).2.2.1 ∈ wd_tbl := wd_of 1529 (by decide +kernel) rfl
set_option maxRecDepth 100000 in
theorem fk_Ma_330 : Cond.fieldLink R_Ma 330 R_Pr (F_Pr 6).2.1 (F_Pr 6).2.2.1 ∈ wd_tbl := wd_of 1534 (by decide +kernel) rfl
set_option maxRecDepth 100000 in
theorem fk_Ma_405 : Cond.fieldLink R_Ma 405 R_Pr (F_Pr 7).2.1 (F_Pr 7).2.2.1 ∈ wd_tbl := wd_of 1538 (by decide +kernel) rfl
set_option maxRecDepth 100000 in
theorem fk_Ma_321 : Cond.fieldLink R_Ma 321 R_Pr (F_Pr 8).2.1 (F_Pr 8).2.2.1 ∈ wd_tbl := wd_of 1541 (by decide +kernel) rfl
set_option maxRecDepth 100000 in
theorem fk_Ma_60 : Cond.fieldLink R_Ma 60 R_Pr (F_Pr 9).2.1 (F_Pr 9).2.2.1 ∈ wd_tbl := wd_of 1543 (by decide +kernel) rfl
set_option maxRecDepth 100000 in
theorem fk_Ma_399 : Cond.fieldLink R_Ma 399 R_Pr (F_Pr 10).2.1 (F_Pr 10).2.2.1 ∈ wd_tbl := wd_of 1548 (by decide +kernel) rfl
set_option maxRecDepth 100000 in
theorem fk_Ma_474 : Cond.fieldLink R_Ma 474 R_Pr (F_Pr 11).2.1 (F_Pr 11).2.2.1 ∈ wd_tbl := wd_of 1552 (by decide +kernel) rfl
set_option maxRecDepth 100000 in
theorem fk_Ma_468 : Cond.fieldLink R_Ma 468 R_Pr (F_Pr 12).2.1 (F_Pr 12).2.2.1 ∈ wd_tbl := wd_of 1556 (by decide +kernel) rfl
set_option maxRecDepth 100000 in
theorem fk_Ma_346 : Cond.fieldLink R_Ma 346 R_Pr (F_Pr 13).2.1 (F_Pr 13).2.2.1 ∈ wd_tbl := wd_of 1559 (by decide +kernel) rfl
set_option maxRecDepth 100000 in
theorem hini_Ma : Cond.initialized R_Ma ∈ wd_tbl := wd_of 279 (by decide +kernel) rfl
set_option maxRecDepth 100000 in
theorem fk_Pa_67 : Cond.fieldLink R_Pa 67 R_To (F_To 2).2.1 (F_To 2).2.2.1 ∈ wd_tbl := wd_of 386 (by decide +kernel) rfl
set_option maxRecDepth 100000 in
theorem fk_Pa_85 : Cond.fieldLink R_Pa 85 R_To (F_To 3).2.1 (F_To 3).2.2.1 ∈ wd_tbl := wd_of 390 (by decide +kernel) rfl
set_option maxRecDepth 100000 in
theorem fk_Pa_57 : Cond.fieldLink R_Pa 57 R_To (F_To 4).2.1 (F_To 4).2.2.1 ∈ wd_tbl := wd_of 393 (by decide +kernel) rfl
set_option maxRecDepth 100000 in
theorem fk_Pa_159 : Cond.fieldLink R_Pa 159 R_Tr (F_Tr 1).2.1 (F_Tr 1).2.2.1 ∈ wd_tbl := wd_of 435 (by decide +kernel) rfl
set_option maxRecDepth 100000 in
theorem fk_Pa_88 : Cond.fieldLink R_Pa 88 R_Tr (F_Tr 2).2.1 (F_Tr 2).2.2.1 ∈ wd_tbl := wd_of 438 (by decide +kernel) rfl
set_option maxRecDepth 100000 in
theorem fk_Pa_162 : Cond.fieldLink R_Pa 162 R_Tr (F_Tr 3).2.1 (F_Tr 3).2.2.1 ∈ wd_tbl := wd_of 441 (by decide +kernel) rfl
set_option maxRecDepth 100000 in
theorem fk_Pa_98 : Cond.fieldLink R_Pa 98 R_Tr (F_Tr 5).2.1 (F_Tr 5).2.2.1 ∈ wd_tbl := wd_of 446 (by decide +kernel) rfl
set_option maxRecDepth 100000 in
theorem fk_Pa_15 : Cond.fieldLink R_Pa 15 R_Pa (F_Pa 0).2.1 (F_Pa 0).2.2.1 ∈ wd_tbl := wd_of 535 (by decide +kernel) rfl
set_option maxRecDepth 100000 in
theorem fk_Pa_19 : Cond.fieldLink R_Pa 19 R_Pa (F_Pa 1).2.1 (F_Pa 1).2.2.1 ∈ wd_tbl := wd_of 536 (by decide +kernel) rfl
set_option maxRecDepth 100000 in
theorem fk_Pa_23 : Cond.fieldLink R_Pa 23 R_Pa (F_Pa 2).2.1 (F_Pa 2).2.2.1 ∈ wd_tbl := wd_of 537 (by decide +kernel) rfl
set_option maxRecDepth 100000 in
theorem fk_Pa_9 : Cond.fieldLink R_Pa 9 R_Pa (F_Pa 3).2.1 (F_Pa 3).2.2.1 ∈ wd_tbl := wd_of 538 (by decide +kernel) rfl
set_option maxRecDepth 100000 in
theorem fk_Pa_35 : Cond.fieldLink R_Pa 35 R_Pa (F_Pa 4).2.1 (F_Pa 4).2.2.1 ∈ wd_tbl := wd_of 539 (by decide +kernel) rfl
set_option maxRecDepth 100000 in
theorem fk_Pa_39 : Cond.fieldLink R_Pa 39 R_Pa (F_Pa 5).2.1 (F_Pa 5).2.2.1 ∈ wd_tbl := wd_of 540 (by decide +kernel) rfl
set_option maxRecDepth 100000 in
theorem fk_Pa_42 : Cond.fieldLink R_Pa 42 R_Pa (F_Pa 6).2.1 (F_Pa 6).2.2.1 ∈ wd_tbl := wd_of 541 (by decide +kernel) rfl
set_option maxRecDepth 100000 in
theorem fk_Pa_45 : Cond.fieldLink R_Pa 45 R_Pa (F_Pa 7).2.1 (F_Pa 7).2.2.1 ∈ wd_tbl := wd_of 542 (by decide +kernel) rfl
set_option maxRecDepth 100000 in
theorem hini_Pa : Cond.initialized R_Pa ∈ wd_tbl := wd_of 275 (by decide +kernel) rfl
set_option maxRecDepth 100000 in
theorem fk_Pr_83 : Cond.fieldLink R_Pr 83 R_Fr (F_Fr 3).2.1 (F_Fr 3).2.2.1 ∈ wd_tbl := wd_of 1476 (by decide +kernel) rfl
set_option maxRecDepth 100000 in
theorem fk_Pr_89 : Cond.fieldLink R_Pr 89 R_Fr (F_Fr 4).2.1 (F_Fr 4).2.2.1 ∈ wd_tbl := wd_of 1479 (by decide +kernel) rfl
set_option maxRecDepth 100000 in
theorem fk_Pr_86 : Cond.fieldLink R_Pr 86 R_Fr (F_Fr 5).2.1 (F_Fr 5).2.2.1 ∈ wd_tbl := wd_of 1482 (by decide +kernel) rfl
set_option maxRecDepth 100000 in
theorem fk_Pr_92 : Cond.fieldLink R_Pr 92 R_Fr (F_Fr 6).2.1 (F_Fr 6).2.2.1 ∈ wd_tbl := wd_of 1485 (by decide +kernel) rfl
set_option maxRecDepth 100000 in
theorem fk_Pr_32 : Cond.fieldLink R_Pr 32 R_Pr (F_Pr 0).2.1 (F_Pr 0).2.2.1 ∈ wd_tbl := wd_of 1514 (by decide +kernel) rfl
set_option maxRecDepth 100000 in
theorem fk_Pr_12 : Cond.fieldLink R_Pr 12 R_Pr (F_Pr 1).2.1 (F_Pr 1).2.2.1 ∈ wd_tbl := wd_of 1517 (by decide +kernel) rfl
set_option maxRecDepth 100000 in
theorem fk_Pr_18 : Cond.fieldLink R_Pr 18 R_Pr (F_Pr 2).2.1 (F_Pr 2).2.2.1 ∈ wd_tbl := wd_of 1521 (by decide +kernel) rfl
set_option maxRecDepth 100000 in
theorem fk_Pr_22 : Cond.fieldLink R_Pr 22 R_Pr (F_Pr 3).2.1 (F_Pr 3).2.2.1 ∈ wd_tbl := wd_of 1525 (by decide +kernel) rfl
set_option maxRecDepth 100000 in
theorem fk_Pr_39 : Cond.fieldLink R_Pr 39 R_Pr (F_Pr 4).2.1 (F_Pr 4).2.2.1 ∈ wd_tbl := wd_of 1526 (by decide +kernel) rfl
set_option maxRecDepth 100000 in
theorem fk_Pr_42 : Cond.fieldLink R_Pr 42 R_Pr (F_Pr 5).2.1 (F_Pr 5).2.2.1 ∈ wd_tbl := wd_of 1530 (by decide +kernel) rfl
set_option maxRecDepth 100000 in
theorem fk_Pr_25 : Cond.fieldLink R_Pr 25 R_Pr (F_Pr 6).2.1 (F_Pr 6).2.2.1 ∈ wd_tbl := wd_of 1532 (by decide +kernel) rfl
set_option maxRecDepth 100000 in
theorem fk_Pr_45 : Cond.fieldLink R_Pr 45 R_Pr (F_Pr 7).2.1 (F_Pr 7).2.2.1 ∈ wd_tbl := wd_of 1535 (by decide +kernel) rfl
set_option maxRecDepth 100000 in
theorem fk_Pr_48 : Cond.fieldLink R_Pr 48 R_Pr (F_Pr 8).2.1 (F_Pr 8).2.2.1 ∈ wd_tbl := wd_of 1539 (by decide +kernel) rfl
set_option maxRecDepth 100000 in
theorem fk_Pr_51 : Cond.fieldLink R_Pr 51 R_Pr (F_Pr 9).2.1 (F_Pr 9).2.2.1 ∈ wd_tbl := wd_of 1542 (by decide +kernel) rfl
set_option maxRecDepth 100000 in
theorem fk_Pr_56 : Cond.fieldLink R_Pr 56 R_Pr (F_Pr 10).2.1 (F_Pr 10).2.2.1 ∈ wd_tbl := wd_of 1546 (by decide +kernel) rfl
set_option maxRecDepth 100000 in
theorem fk_Pr_60 : Cond.fieldLink R_Pr 60 R_Pr (F_Pr 11).2.1 (F_Pr 11).2.2.1 ∈ wd_tbl := wd_of 1549 (by decide +kernel) rfl
set_option maxRecDepth 100000 in
theorem fk_Pr_64 : Cond.fieldLink R_Pr 64 R_Pr (F_Pr 12).2.1 (F_Pr 12).2.2.1 ∈ wd_tbl := wd_of 1553 (by decide +kernel) rfl
set_option maxRecDepth 100000 in
theorem fk_Pr_67 : Cond.fieldLink R_Pr 67 R_Pr (F_Pr 13).2.1 (F_Pr 13).2.2.1 ∈ wd_tbl := wd_of 1557 (by decide +kernel) rfl
set_option maxRecDepth 100000 in
theorem fk_Pr_28 : Cond.fieldLink R_Pr 28 R_Pr (F_Pr 14).2.1 (F_Pr 14).2.2.1 ∈ wd_tbl := wd_of 1560 (by decide +kernel) rfl
set_option maxRecDepth 100000 in
theorem fk_Pr_70 : Cond.fieldLink R_Pr 70 R_Pr (F_Pr 15).2.1 (F_Pr 15).2.2.1 ∈ wd_tbl := wd_of 1563 (by decide +kernel) rfl
set_option maxRecDepth 100000 in
theorem fk_Pr_73 : Cond.fieldLink R_Pr 73 R_Pr (F_Pr 16).2.1 (F_Pr 16).2.2.1 ∈ wd_tbl := wd_of 1566 (by decide +kernel) rfl
set_option maxRecDepth 100000 in
theorem fk_Pr_76 : Cond.fieldLink R_Pr 76 R_Pr (F_Pr 17).2.1 (F_Pr 17).2.2.1 ∈ wd_tbl := wd_of 1569 (by decide +kernel) rfl
set_option maxRecDepth 100000 in
theorem hini_Pr : Cond.initialized R_Pr ∈ wd_tbl := wd_of 290 (by decide +kernel) rfl
set_option maxRecDepth 100000 in
theorem fk_Te_11 : Cond.fieldLink R_Te 11 R_Te (F_Te 0).2.1 (F_Te 0).2.2.1 ∈ wd_tbl := wd_of 621 (by decide +kernel) rfl
set_option maxRecDepth 100000 in
theorem fk_Te_15 : Cond.fieldLink R_Te 15 R_Te (F_Te 1).2.1 (F_Te 1).2.2.1 ∈ wd_tbl := wd_of 623 (by decide +kernel) rfl
set_option maxRecDepth 100000 in
theorem fk_Te_18 : Cond.fieldLink R_Te 18 R_Te (F_Te 2).2.1 (F_Te 2).2.2.1 ∈ wd_tbl := wd_of 624 (by decide +kernel) rfl
set_option maxRecDepth 100000 in
theorem fk_Te_21 : Cond.fieldLink R_Te 21 R_Te (F_Te 3).2.1 (F_Te 3).2.2.1 ∈ wd_tbl := wd_of 625 (by decide +kernel) rfl
set_option maxRecDepth 100000 in
theorem fk_Te_55 : Cond.fieldLink R_Te 55 R_Te (F_Te 4).2.1 (F_Te 4).2.2.1 ∈ wd_tbl := wd_of 626 (by decide +kernel) rfl
set_option maxRecDepth 100000 in
theorem fk_Te_59 : Cond.fieldLink R_Te 59 R_Te (F_Te 5).2.1 (F_Te 5).2.2.1 ∈ wd_tbl := wd_of 627 (by decide +kernel) rfl
set_option maxRecDepth 100000 in
theorem fk_Te_63 : Cond.fieldLink R_Te 63 R_Te (F_Te 6).2.1 (F_Te 6).2.2.1 ∈ wd_tbl := wd_of 628 (by decide +kernel) rfl
set_option maxRecDepth 100000 in
theorem hini_Te : Cond.initialized R_Te ∈ wd_tbl := wd_of 277 (by decide +kernel) rfl
set_option maxRecDepth 100000 in
theorem fk_To_48 : Cond.fieldLink R_To 48 R_Wo (F_Wo 2).2.1 (F_Wo 2).2.2.1 ∈ wd_tbl := wd_of 361 (by decide +kernel) rfl
set_option maxRecDepth 100000 in
theorem fk_To_9 : Cond.fieldLink R_To 9 R_To (F_To 0).2.1 (F_To 0).2.2.1 ∈ wd_tbl := wd_of 382 (by decide +kernel) rfl
set_option maxRecDepth 100000 in
theorem fk_To_44 : Cond.fieldLink R_To 44 R_To (F_To 1).2.1 (F_To 1).2.2.1 ∈ wd_tbl := wd_of 384 (by decide +kernel) rfl
set_option maxRecDepth 100000 in
theorem fk_To_15 : Cond.fieldLink R_To 15 R_To (F_To 2).2.1 (F_To 2).2.2.1 ∈ wd_tbl := wd_of 385 (by decide +kernel) rfl
set_option maxRecDepth 100000 in
theorem fk_To_19 : Cond.fieldLink R_To 19 R_To (F_To 3).2.1 (F_To 3).2.2.1 ∈ wd_tbl := wd_of 388 (by decide +kernel) rfl
set_option maxRecDepth 100000 in
theorem fk_To_22 : Cond.fieldLink R_To 22 R_To (F_To 4).2.1 (F_To 4).2.2.1 ∈ wd_tbl := wd_of 391 (by decide +kernel) rfl
set_option maxRecDepth 100000 in
theorem fk_To_57 : Cond.fieldLink R_To 57 R_To (F_To 5).2.1 (F_To 5).2.2.1 ∈ wd_tbl := wd_of 395 (by decide +kernel) rfl
set_option maxRecDepth 100000 in
theorem fk_To_32 : Cond.fieldLink R_To 32 R_To (F_To 6).2.1 (F_To 6).2.2.1 ∈ wd_tbl := wd_of 397 (by decide +kernel) rfl
set_option maxRecDepth 100000 in
theorem fk_To_41 : Cond.fieldLink R_To 41 R_To (F_To 7).2.1 (F_To 7).2.2.1 ∈ wd_tbl := wd_of 398 (by decide +kernel) rfl
set_option maxRecDepth 100000 in
theorem fk_To_38 : Cond.fieldLink R_To 38 R_To (F_To 8).2.1 (F_To 8).2.2.1 ∈ wd_tbl := wd_of 399 (by decide +kernel) rfl
set_option maxRecDepth 100000 in
theorem fk_To_51 : Cond.fieldLink R_To 51 R_To (F_To 9).2.1 (F_To 9).2.2.1 ∈ wd_tbl := wd_of 400 (by decide +kernel) rfl
set_option maxRecDepth 100000 in
theorem fk_To_54 : Cond.fieldLink R_To 54 R_To (F_To 10).2.1 (F_To 10).2.2.1 ∈ wd_tbl := wd_of 401 (by decide +kernel) rfl
set_option maxRecDepth 100000 in
theorem hini_To : Cond.initialized R_To ∈ wd_tbl := wd_of 272 (by decide +kernel) rfl
set_option maxRecDepth 100000 in
theorem fk_Tr_11 : Cond.fieldLink R_Tr 11 R_Tr (F_Tr 0).2.1 (F_Tr 0).2.2.1 ∈ wd_tbl := wd_of 431 (by decide +kernel) rfl
set_option maxRecDepth 100000 in
theorem fk_Tr_15 : Cond.fieldLink R_Tr 15 R_Tr (F_Tr 1).2.1 (F_Tr 1).2.2.1 ∈ wd_tbl := wd_of 433 (by decide +kernel) rfl
set_option maxRecDepth 100000 in
theorem fk_Tr_18 : Cond.fieldLink R_Tr 18 R_Tr (F_Tr 2).2.1 (F_Tr 2).2.2.1 ∈ wd_tbl := wd_of 436 (by decide +kernel) rfl
set_option maxRecDepth 100000 in
theorem fk_Tr_21 : Cond.fieldLink R_Tr 21 R_Tr (F_Tr 3).2.1 (F_Tr 3).2.2.1 ∈ wd_tbl := wd_of 439 (by decide +kernel) rfl
set_option maxRecDepth 100000 in
theorem fk_Tr_24 : Cond.fieldLink R_Tr 24 R_Tr (F_Tr 4).2.1 (F_Tr 4).2.2.1 ∈ wd_tbl := wd_of 442 (by decide +kernel) rfl
set_option maxRecDepth 100000 in
theorem fk_Tr_27 : Cond.fieldLink R_Tr 27 R_Tr (F_Tr 5).2.1 (F_Tr 5).2.2.1 ∈ wd_tbl := wd_of 444 (by decide +kernel) rfl
set_option maxRecDepth 100000 in
theorem fk_Tr_30 : Cond.fieldLink R_Tr 30 R_Tr (F_Tr 6).2.1 (F_Tr 6).2.2.1 ∈ wd_tbl := wd_of 447 (by decide +kernel) rfl
set_option maxRecDepth 100000 in
theorem hini_Tr : Cond.initialized R_Tr ∈ wd_tbl := wd_of 273 (by decide +kernel) rfl
set_option maxRecDepth 100000 in
theorem fk_Wo_9 : Cond.fieldLink R_Wo 9 R_Wo (F_Wo 0).2.1 (F_Wo 0).2.2.1 ∈ wd_tbl := wd_of 357 (by decide +kernel) rfl
set_option maxRecDepth 100000 in
theorem fk_Wo_15 : Cond.fieldLink R_Wo 15 R_Wo (F_Wo 1).2.1 (F_Wo 1).2.2.1 ∈ wd_tbl := wd_of 358 (by decide +kernel) rfl
set_option maxRecDepth 100000 in
theorem fk_Wo_29 : Cond.fieldLink R_Wo 29 R_Wo (F_Wo 2).2.1 (F_Wo 2).2.2.1 ∈ wd_tbl := wd_of 359 (by decide +kernel) rfl
set_option maxRecDepth 100000 in
theorem hini_Wo : Cond.initialized R_Wo ∈ wd_tbl := wd_of 267 (by decide +kernel) rfl
set_option maxRecDepth 100000 in
theorem fk_Wl_37 : Cond.fieldLink R_Wl 37 R_Wl (F_Wl 0).2.1 (F_Wl 0).2.2.1 ∈ wd_tbl := wd_of 653 (by decide +kernel) rfl
set_option maxRecDepth 100000 in
theorem fk_Wl_11 : Cond.fieldLink R_Wl 11 R_Wl (F_Wl 1).2.1 (F_Wl 1).2.2.1 ∈ wd_tbl := wd_of 654 (by decide +kernel) rfl
set_option maxRecDepth 100000 in
theorem fk_Wl_41 : Cond.fieldLink R_Wl 41 R_Wl (F_Wl 2).2.1 (F_Wl 2).2.2.1 ∈ wd_tbl := wd_of 655 (by decide +kernel) rfl
set_option maxRecDepth 100000 in
theorem fk_Wl_45 : Cond.fieldLink R_Wl 45 R_Wl (F_Wl 3).2.1 (F_Wl 3).2.2.1 ∈ wd_tbl := wd_of 657 (by decide +kernel) rfl
set_option maxRecDepth 100000 in
theorem fk_Wl_49 : Cond.fieldLink R_Wl 49 R_Wl (F_Wl 4).2.1 (F_Wl 4).2.2.1 ∈ wd_tbl := wd_of 659 (by decide +kernel) rfl
set_option maxRecDepth 100000 in
theorem fk_Wl_52 : Cond.fieldLink R_Wl 52 R_Wl (F_Wl 5).2.1 (F_Wl 5).2.2.1 ∈ wd_tbl := wd_of 662 (by decide +kernel) rfl
set_option maxRecDepth 100000 in
theorem fk_Wl_55 : Cond.fieldLink R_Wl 55 R_Wl (F_Wl 6).2.1 (F_Wl 6).2.2.1 ∈ wd_tbl := wd_of 665 (by decide +kernel) rfl
set_option maxRecDepth 100000 in
theorem fk_Wl_17 : Cond.fieldLink R_Wl 17 R_Wl (F_Wl 7).2.1 (F_Wl 7).2.2.1 ∈ wd_tbl := wd_of 668 (by decide +kernel) rfl
set_option maxRecDepth 100000 in
theorem fk_Wl_21 : Cond.fieldLink R_Wl 21 R_Wl (F_Wl 8).2.1 (F_Wl 8).2.2.1 ∈ wd_tbl := wd_of 669 (by decide +kernel) rfl
set_option maxRecDepth 100000 in
theorem fk_Wl_24 : Cond.fieldLink R_Wl 24 R_Wl (F_Wl 9).2.1 (F_Wl 9).2.2.1 ∈ wd_tbl := wd_of 670 (by decide +kernel) rfl
set_option maxRecDepth 100000 in
theorem fk_Wl_58 : Cond.fieldLink R_Wl 58 R_Wl (F_Wl 10).2.1 (F_Wl 10).2.2.1 ∈ wd_tbl := wd_of 671 (by decide +kernel) rfl
set_option maxRecDepth 100000 in
theorem fk_Wl_27 : Cond.fieldLink R_Wl 27 R_Wl (F_Wl 11).2.1 (F_Wl 11).2.2.1 ∈ wd_tbl := wd_of 673 (by decide +kernel) rfl
set_option maxRecDepth 100000 in
theorem fk_Wl_31 : Cond.fieldLink R_Wl 31 R_Wl (F_Wl 12).2.1 (F_Wl 12).2.2.1 ∈ wd_tbl := wd_of 675 (by decide +kernel) rfl
set_option maxRecDepth 100000 in
theorem fk_Wl_61 : Cond.fieldLink R_Wl 61 R_Wl (F_Wl 13).2.1 (F_Wl 13).2.2.1 ∈ wd_tbl := wd_of 677 (by decide +kernel) rfl
set_option maxRecDepth 100000 in
theorem fk_Wl_34 : Cond.fieldLink R_Wl 34 R_Wl (F_Wl 14).2.1 (F_Wl 14).2.2.1 ∈ wd_tbl := wd_of 679 (by decide +kernel) rfl
set_option maxRecDepth 100000 in
theorem fk_Wl_64 : Cond.fieldLink R_Wl 64 R_Wl (F_Wl 15).2.1 (F_Wl 15).2.2.1 ∈ wd_tbl := wd_of 680 (by decide +kernel) rfl
set_option maxRecDepth 100000 in
theorem fk_Wl_67 : Cond.fieldLink R_Wl 67 R_Wl (F_Wl 16).2.1 (F_Wl 16).2.2.1 ∈ wd_tbl := wd_of 681 (by decide +kernel) rfl
set_option maxRecDepth 100000 in
theorem fk_Wl_145 : Cond.fieldLink R_Wl 145 R_Pr (F_Pr 0).2.1 (F_Pr 0).2.2.1 ∈ wd_tbl := wd_of 1515 (by decide +kernel) rfl
set_option maxRecDepth 100000 in
theorem fk_Wl_120 : Cond.fieldLink R_Wl 120 R_Pr (F_Pr 1).2.1 (F_Pr 1).2.2.1 ∈ wd_tbl := wd_of 1520 (by decide +kernel) rfl
set_option maxRecDepth 100000 in
theorem fk_Wl_104 : Cond.fieldLink R_Wl 104 R_Pr (F_Pr 2).2.1 (F_Pr 2).2.2.1 ∈ wd_tbl := wd_of 1522 (by decide +kernel) rfl
set_option maxRecDepth 100000 in
theorem fk_Wl_130 : Cond.fieldLink R_Wl 130 R_Pr (F_Pr 4).2.1 (F_Pr 4).2.2.1 ∈ wd_tbl := wd_of 1527 (by decide +kernel) rfl
set_option maxRecDepth 100000 in
theorem fk_Wl_79 : Cond.fieldLink R_Wl 79 R_Pr (F_Pr 7).2.1 (F_Pr 7).2.2.1 ∈ wd_tbl := wd_of 1536 (by decide +kernel) rfl
set_option maxRecDepth 100000 in
theorem fk_Wl_76 : Cond.fieldLink R_Wl 76 R_Pr (F_Pr 8).2.1 (F_Pr 8).2.2.1 ∈ wd_tbl := wd_of 1540 (by decide +kernel) rfl
set_option maxRecDepth 100000 in
theorem fk_Wl_91 : Cond.fieldLink R_Wl 91 R_Pr (F_Pr 9).2.1 (F_Pr 9).2.2.1 ∈ wd_tbl := wd_of 1544 (by decide +kernel) rfl
set_option maxRecDepth 100000 in
theorem fk_Wl_82 : Cond.fieldLink R_Wl 82 R_Pr (F_Pr 10).2.1 (F_Pr 10).2.2.1 ∈ wd_tbl := wd_of 1547 (by decide +kernel) rfl
set_option maxRecDepth 100000 in
theorem fk_Wl_148 : Cond.fieldLink R_Wl 148 R_Pr (F_Pr 11).2.1 (F_Pr 11).2.2.1 ∈ wd_tbl := wd_of 1551 (by decide +kernel) rfl
set_option maxRecDepth 100000 in
theorem fk_Wl_88 : Cond.fieldLink R_Wl 88 R_Pr (F_Pr 12).2.1 (F_Pr 12).2.2.1 ∈ wd_tbl := wd_of 1554 (by decide +kernel) rfl
set_option maxRecDepth 100000 in
theorem fk_Wl_169 : Cond.fieldLink R_Wl 169 R_Pr (F_Pr 14).2.1 (F_Pr 14).2.2.1 ∈ wd_tbl := wd_of 1562 (by decide +kernel) rfl
set_option maxRecDepth 100000 in
theorem fk_Wl_166 : Cond.fieldLink R_Wl 166 R_Pr (F_Pr 15).2.1 (F_Pr 15).2.2.1 ∈ wd_tbl := wd_of 1565 (by decide +kernel) rfl
set_option maxRecDepth 100000 in
theorem fk_Wl_159 : Cond.fieldLink R_Wl 159 R_Pr (F_Pr 16).2.1 (F_Pr 16).2.2.1 ∈ wd_tbl := wd_of 1567 (by decide +kernel) rfl
set_option maxRecDepth 100000 in
theorem fk_Wl_162 : Cond.fieldLink R_Wl 162 R_Pr (F_Pr 17).2.1 (F_Pr 17).2.2.1 ∈ wd_tbl := wd_of 1570 (by decide +kernel) rfl
set_option maxRecDepth 100000 in
theorem hini_Wl : Cond.initialized R_Wl ∈ wd_tbl := wd_of 278 (by decide +kernel) rfl
