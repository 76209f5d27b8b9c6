set_option maxRecDepth 100000
theorem yb_Cm_funOf_48 {N : Nat} {o : Option Nat} {c : Nat → Nat} {m : MS} {u : CS} (R : RP o c m u) {v2 : Int32} : RF 0 o VE c u (fb_Cm_funOf_48 N () u 35 v2) (hb_Cm_funOf_48 N () m v2) := by
  unfold fb_Cm_funOf_48 hb_Cm_funOf_48
  refine rf_bo (rx_35_2 R) ?_
  refine rf_so ?_
  refine rf_ck (ox_22 R) ?_
  refine rf_bx0 (ym_Co_put R) (fun u2' u2 r2 R_u2 => ?_)
  refine rf_bo (rx_35_2 R_u2) ?_
  refine rf_so ?_
  refine rf_ck (ox_22 R_u2) ?_
  refine rf_bx0 (ym_Co_put R_u2) (fun u5' u5 r5 R_u5 => ?_)
  exact rf_ret R_u5 rfl
theorem yb_Cm_funOf_0 {N : Nat} {o : Option Nat} {c : Nat → Nat} {m : MS} {u : CS} (R : RP o c m u) {v1 : Int32} : RF 0 o VE c u (fb_Cm_funOf_0 N () u 35 v1) (hb_Cm_funOf_0 N () m v1) := by
  unfold fb_Cm_funOf_0 hb_Cm_funOf_0
  refine rf_bo (rx_35_2 R) ?_
  refine rf_bo (rx_35_1 R) ?_
  refine rf_so ?_
  refine rf_bo (rx_15_2 R) ?_
  refine rf_so ?_
  refine rf_ai (ax_18 R) ?_
  refine rf_bo (rx_35_1 R) ?_
  refine rf_so ?_
  refine rf_bo (rx_15_3 R) ?_
  refine rf_so ?_
  refine rf_ai (ax_19 R) ?_
  refine rf_so ?_
  refine rf_ck (ox_22 R) ?_
  refine rf_bx0 (ym_Co_seek R) (fun u18' u18 r18 R_u18 => ?_)
  refine rf_br ?_ ?_
  · refine rf_bo (rx_35_1 R_u18) ?_
    refine rf_so ?_
    refine rf_bo (rx_15_1 R_u18) ?_
    refine rf_so ?_
    refine rf_ai (ax_17 R_u18) ?_
    refine rf_ck (ox_35 R_u18) ?_
    refine rf_bx0 (ym_Cm_fault R_u18) (fun u25' u25 r25 R_u25 => ?_)
    exact (yb_Cm_funOf_48 R_u25)
  · exact (yb_Cm_funOf_48 R_u18)
theorem ym_Cm_funOf {N : Nat} {o : Option Nat} {c : Nat → Nat} {m : MS} {u : CS} (R : RP o c m u) {v1 : Int32} : RF 0 o VE c u (fm_Cm_funOf N u 35 v1) (hm_Cm_funOf N m v1) := yb_Cm_funOf_0 (N := N) R
def SC_Cm_fun (o : Option Nat) (S : SG_Cm_fun) (S' : SF_Cm_fun) : Prop := (∀ (c : Nat → Nat) (m : MS) (u : CS) (v1 : Int32), RP o c m u → RF 0 o VE c u (S.1 u 35 v1) (S'.1 m v1)) ∧ (∀ (c : Nat → Nat) (m : MS) (u : CS) (v1 : Int32) (v2 : Int32), RP o c m u → RF 0 o VE c u (S.2.1 u 35 v1 v2) (S'.2.1 m v1 v2)) ∧ (∀ (c : Nat → Nat) (m : MS) (u : CS) (v1 : Int32) (v2 : Int32) (v3 : Int32) (v4 : Int32), RP o c m u → RF 0 o VE c u (S.2.2.1 u 35 v1 v2 v3 v4) (S'.2.2.1 m v1 v2 v3 v4)) ∧ (∀ (c : Nat → Nat) (m : MS) (u : CS) (v1 : Int32) (v2 : Int32), RP o c m u → RF 0 o VE c u (S.2.2.2.1 u 35 v1 v2) (S'.2.2.2.1 m v1 v2)) ∧ (∀ (c : Nat → Nat) (m : MS) (u : CS) (v1 : Int32) (v2 : Int32), RP o c m u → RF 0 o VE c u (S.2.2.2.2.1 u 35 v1 v2) (S'.2.2.2.2.1 m v1 v2)) ∧ (∀ (c : Nat → Nat) (m : MS) (u : CS) (v1 : Int32) (v2 : Int32), RP o c m u → RF 0 o VE c u (S.2.2.2.2.2.1 u 35 v1 v2) (S'.2.2.2.2.2.1 m v1 v2)) ∧ (∀ (c : Nat → Nat) (m : MS) (u : CS) (v1 : Int32) (v2 : Int32), RP o c m u → RF 0 o VE c u (S.2.2.2.2.2.2.1 u 35 v1 v2) (S'.2.2.2.2.2.2.1 m v1 v2)) ∧ (∀ (c : Nat → Nat) (m : MS) (u : CS) (v1 : Int32), RP o c m u → RF 0 o VE c u (S.2.2.2.2.2.2.2.1 u 35 v1) (S'.2.2.2.2.2.2.2.1 m v1)) ∧ (∀ (c : Nat → Nat) (m : MS) (u : CS) (v1 : Int32), RP o c m u → RF 0 o VE c u (S.2.2.2.2.2.2.2.2.1 u 35 v1) (S'.2.2.2.2.2.2.2.2.1 m v1)) ∧ (∀ (c : Nat → Nat) (m : MS) (u : CS) (v1 : Int32), RP o c m u → RF 0 o VE c u (S.2.2.2.2.2.2.2.2.2.1 u 35 v1) (S'.2.2.2.2.2.2.2.2.2.1 m v1)) ∧ (∀ (c : Nat → Nat) (m : MS) (u : CS) (v1 : Int32) (v2 : Int32), RP o c m u → RF 0 o VE c u (S.2.2.2.2.2.2.2.2.2.2.1 u 35 v1 v2) (S'.2.2.2.2.2.2.2.2.2.2.1 m v1 v2)) ∧ (∀ (c : Nat → Nat) (m : MS) (u : CS) (v1 : Int32) (v2 : Int32), RP o c m u → RF 0 o VE c u (S.2.2.2.2.2.2.2.2.2.2.2.1 u 35 v1 v2) (S'.2.2.2.2.2.2.2.2.2.2.2.1 m v1 v2)) ∧ (∀ (c : Nat → Nat) (m : MS) (u : CS) (v1 : Int32) (v2 : Int32) (v3 : Int32), RP o c m u → RF 0 o VE c u (S.2.2.2.2.2.2.2.2.2.2.2.2 u 35 v1 v2 v3) (S'.2.2.2.2.2.2.2.2.2.2.2.2 m v1 v2 v3))
theorem yb_Cm_fun_308 {N : Nat} {o : Option Nat} {c : Nat → Nat} {m : MS} {u : CS} {S : SG_Cm_fun} {S' : SF_Cm_fun} (hS : SC_Cm_fun o S S') (R : RP o c m u) {t1 : Int32} : RF 0 o VE c u (fb_Cm_fun_308 N S () u 35 t1) (hb_Cm_fun_308 N S' () m t1) := by
  unfold fb_Cm_fun_308 hb_Cm_fun_308
  refine rf_ckk ?_
  refine rf_w (px_35_11 R) (fun w1' w1 R_w1 => ?_)
  exact rf_ret R_w1 rfl
theorem yb_Cm_fun_303 {N : Nat} {o : Option Nat} {c : Nat → Nat} {m : MS} {u : CS} {S : SG_Cm_fun} {S' : SF_Cm_fun} (hS : SC_Cm_fun o S S') (R : RP o c m u) : RF 0 o VE c u (fb_Cm_fun_303 N S () u 35) (hb_Cm_fun_303 N S' () m) := by
  unfold fb_Cm_fun_303 hb_Cm_fun_303
  exact (yb_Cm_fun_308 hS R)
theorem yb_Cm_fun_0 {N : Nat} {o : Option Nat} {c : Nat → Nat} {m : MS} {u : CS} {S : SG_Cm_fun} {S' : SF_Cm_fun} (hS : SC_Cm_fun o S S') (R : RP o c m u) {v1 : Int32} : RF 0 o VE c u (fb_Cm_fun_0 N S () u 35 v1) (hb_Cm_fun_0 N S' () m v1) := by
  unfold fb_Cm_fun_0 hb_Cm_fun_0
  refine rf_bo (rx_35_1 R) ?_
  refine rf_so ?_
  refine rf_bo (rx_15_2 R) ?_
  refine rf_so ?_
  refine rf_ai (ax_18 R) ?_
  refine rf_bo (rx_35_1 R) ?_
  refine rf_so ?_
  refine rf_bo (rx_15_3 R) ?_
  refine rf_so ?_
  refine rf_ai (ax_19 R) ?_
  refine rf_bo (rx_35_1 R) ?_
  refine rf_bo (rx_35_1 R) ?_
  refine rf_so ?_
  refine rf_bo (rx_15_2 R) ?_
  refine rf_so ?_
  refine rf_ai (ax_18 R) ?_
  refine rf_so ?_
  refine rf_ck (ox_15 R) ?_
  refine rf_bx0 (ym_Tr_length R) (fun u18' u18 r18 R_u18 => ?_)
  refine rf_bo (gx_35_12 R_u18) ?_
  refine rf_w (px_35_12 R_u18) (fun w21' w21 R_w21 => ?_)
  refine rf_bo (rx_35_2 R_w21) ?_
  refine rf_so ?_
  refine rf_ck (ox_22 R_w21) ?_
  refine rf_bx0 (ym_Co_put R_w21) (fun u23' u23 r23 R_u23 => ?_)
  refine rf_bo (rx_35_2 R_u23) ?_
  refine rf_so ?_
  refine rf_ck (ox_22 R_u23) ?_
  refine rf_bx0 (ym_Co_hook R_u23) (fun u26' u26 r26 R_u26 => ?_)
  refine rf_bo (rx_35_2 R_u26) ?_
  refine rf_so ?_
  refine rf_bo (rx_22_10 R_u26) ?_
  refine rf_so ?_
  refine rf_wk (sx_30 R_u26) (fun w32' w32 R_w32 => ?_)
  refine rf_bo (rx_35_2 R_w32) ?_
  refine rf_so ?_
  refine rf_bo (rx_22_11 R_w32) ?_
  refine rf_bo (rx_35_2 R_w32) ?_
  refine rf_so ?_
  refine rf_bo (gx_22_1 R_w32) ?_
  refine rf_so ?_
  refine rf_wk (sx_31 R_w32) (fun w40' w40 R_w40 => ?_)
  refine rf_bo (gx_35_9 R_w40) ?_
  refine rf_lt ?_
  refine rf_w (px_35_9 R_w40) (fun w43' w43 R_w43 => ?_)
  refine rf_bo (rx_35_7 R_w43) ?_
  refine rf_bo (gx_35_9 R_w43) ?_
  refine rf_bo (gx_35_6 R_w43) ?_
  refine rf_so ?_
  refine rf_wk (sx_40 R_w43) (fun w48' w48 R_w48 => ?_)
  refine rf_bo (rx_35_8 R_w48) ?_
  refine rf_bo (gx_35_9 R_w48) ?_
  refine rf_so ?_
  refine rf_wk (sx_41 R_w48) (fun w52' w52 R_w52 => ?_)
  refine rf_bo (rx_35_0 R_w52) ?_
  refine rf_so ?_
  refine rf_bo (rx_4_4 R_w52) ?_
  refine rf_bo (rx_35_1 R_w52) ?_
  refine rf_so ?_
  refine rf_bo (rx_15_1 R_w52) ?_
  refine rf_so ?_
  refine rf_ai (ax_17 R_w52) ?_
  refine rf_so ?_
  refine rf_ai (ax_8 R_w52) ?_
  refine rf_ck (ox_35 R_w52) ?_
  refine rf_bx0 (hS.2.2.2.2.2.2.2.2.2.2.2.2 _ _ _ _ _ _ R_w52) (fun u63' u63 r63 R_u63 => ?_)
  refine rf_bo (rx_35_2 R_u63) ?_
  refine rf_so ?_
  refine rf_ck (ox_22 R_u63) ?_
  refine rf_bx0 (ym_Co_put R_u63) (fun u65' u65 r65 R_u65 => ?_)
  refine rf_bo (rx_35_8 R_u65) ?_
  refine rf_bo (gx_35_9 R_u65) ?_
  refine rf_so ?_
  refine rf_ai (ax_41 R_u65) ?_
  refine rf_bo (gx_35_9 R_u65) ?_
  refine rf_w (px_35_9 R_u65) (fun w72' w72 R_w72 => ?_)
  refine rf_ckk ?_
  refine rf_w (px_35_12 R_w72) (fun w73' w73 R_w73 => ?_)
  refine rf_bo (rx_35_2 R_w73) ?_
  refine rf_so ?_
  refine rf_ck (ox_22 R_w73) ?_
  refine rf_bx0 (ym_Co_arrive R_w73) (fun u75' u75 r75 R_u75 => ?_)
  refine rf_bo (rx_35_2 R_u75) ?_
  refine rf_so ?_
  refine rf_ck (ox_22 R_u75) ?_
  refine rf_bx0 (ym_Co_put R_u75) (fun u78' u78 r78 R_u78 => ?_)
  refine rf_bo (rx_35_2 R_u78) ?_
  refine rf_so ?_
  refine rf_ck (ox_22 R_u78) ?_
  refine rf_bx0 (ym_Co_put R_u78) (fun u81' u81 r81 R_u81 => ?_)
  refine rf_bo (rx_35_2 R_u81) ?_
  refine rf_so ?_
  refine rf_bo (rx_22_12 R_u81) ?_
  refine rf_bo (rx_35_2 R_u81) ?_
  refine rf_so ?_
  refine rf_bo (gx_22_1 R_u81) ?_
  refine rf_so ?_
  refine rf_wk (sx_32 R_u81) (fun w90' w90 R_w90 => ?_)
  refine rf_bo (rx_35_2 R_w90) ?_
  refine rf_so ?_
  refine rf_ck (ox_22 R_w90) ?_
  refine rf_bx0 (ym_Co_put R_w90) (fun u92' u92 r92 R_u92 => ?_)
  refine rf_bo (rx_35_1 R_u92) ?_
  refine rf_so ?_
  refine rf_bo (rx_15_1 R_u92) ?_
  refine rf_so ?_
  refine rf_ai (ax_17 R_u92) ?_
  refine rf_bo (rx_35_1 R_u92) ?_
  refine rf_so ?_
  refine rf_bo (rx_15_4 R_u92) ?_
  refine rf_so ?_
  refine rf_ai (ax_20 R_u92) ?_
  refine rf_ck (ox_35 R_u92) ?_
  refine rf_bx0 (ym_Cm_hold R_u92) (fun u104' u104 r104 R_u104 => ?_)
  refine rf_bo (rx_35_2 R_u104) ?_
  refine rf_bo (rx_35_2 R_u104) ?_
  refine rf_so ?_
  refine rf_bo (rx_22_12 R_u104) ?_
  refine rf_so ?_
  refine rf_ai (ax_32 R_u104) ?_
  refine rf_so ?_
  refine rf_ck (ox_22 R_u104) ?_
  refine rf_bx0 (ym_Co_set R_u104) (fun u111' u111 r111 R_u111 => ?_)
  refine rf_bo (gx_35_11 R_u111) ?_
  refine rf_br ?_ ?_
  · refine rf_br ?_ ?_
    · exact (yb_Cm_fun_308 hS R_u111)
    · exact (yb_Cm_fun_303 hS R_u111)
  · exact (yb_Cm_fun_303 hS R_u111)
theorem ym_Cm_fun {N : Nat} {o : Option Nat} {c : Nat → Nat} {m : MS} {u : CS} {S : SG_Cm_fun} {S' : SF_Cm_fun} (hS : SC_Cm_fun o S S') (R : RP o c m u) {v1 : Int32} : RF 0 o VE c u (fm_Cm_fun N S u 35 v1) (hm_Cm_fun N S' m v1) := yb_Cm_fun_0 (N := N) hS R
theorem yb_Cm_receive_173 {N : Nat} {o : Option Nat} {c : Nat → Nat} {m : MS} {u : CS} {S : SG_Cm_fun} {S' : SF_Cm_fun} (hS : SC_Cm_fun o S S') (R : RP o c m u) {v7 : Int32} : RF 0 o VE c u (fb_Cm_receive_173 N S () u 35 v7) (hb_Cm_receive_173 N S' () m v7) := by
  unfold fb_Cm_receive_173 hb_Cm_receive_173
  refine rf_bo (rx_35_2 R) ?_
  refine rf_so ?_
  refine rf_ck (ox_22 R) ?_
  refine rf_bx0 (ym_Co_arrive R) (fun u2' u2 r2 R_u2 => ?_)
  exact rf_ret R_u2 rfl
theorem yb_Cm_receive_71 {N : Nat} {o : Option Nat} {c : Nat → Nat} {m : MS} {u : CS} {S : SG_Cm_fun} {S' : SF_Cm_fun} (hS : SC_Cm_fun o S S') (R : RP o c m u) {v1 : Int32} {v2 : Int32} {v3 : Int32} {v4 : Int32} {t1 : Int32} : RF 0 o VE c u (fb_Cm_receive_71 N S () u 35 v1 v2 v3 v4 (some 22) t1) (hb_Cm_receive_71 N S' () m v1 v2 v3 v4 t1) := by
  unfold fb_Cm_receive_71 hb_Cm_receive_71
  refine rf_so ?_
  refine rf_ck (ox_22 R) ?_
  refine rf_bx0 (ym_Co_put R) (fun u4' u4 r4 R_u4 => ?_)
  refine rf_bo (rx_35_2 R_u4) ?_
  refine rf_so ?_
  refine rf_bo (gx_22_1 R_u4) ?_
  refine rf_bo (rx_35_2 R_u4) ?_
  refine rf_so ?_
  refine rf_ck (ox_22 R_u4) ?_
  refine rf_bx0 (ym_Co_put R_u4) (fun u10' u10 r10 R_u10 => ?_)
  refine rf_bo (rx_35_2 R_u10) ?_
  refine rf_so ?_
  refine rf_ck (ox_22 R_u10) ?_
  refine rf_bx0 (ym_Co_hook R_u10) (fun u13' u13 r13 R_u13 => ?_)
  refine rf_bo (rx_35_1 R_u13) ?_
  refine rf_so ?_
  refine rf_bo (rx_15_3 R_u13) ?_
  refine rf_so ?_
  refine rf_ai (ax_19 R_u13) ?_
  refine rf_ck (ox_35 R_u13) ?_
  refine rf_bx0 (hS.2.2.1 _ _ _ _ _ _ _ R_u13) (fun u20' u20 r20 R_u20 => ?_)
  refine rf_bo (rx_35_2 R_u20) ?_
  refine rf_so ?_
  refine rf_ck (ox_22 R_u20) ?_
  refine rf_bx0 (ym_Co_put R_u20) (fun u22' u22 r22 R_u22 => ?_)
  refine rf_bo (rx_35_2 R_u22) ?_
  refine rf_so ?_
  refine rf_ck (ox_22 R_u22) ?_
  refine rf_bx0 (ym_Co_put R_u22) (fun u25' u25 r25 R_u25 => ?_)
  refine rf_bo (rx_35_2 R_u25) ?_
  refine rf_so ?_
  refine rf_ck (ox_22 R_u25) ?_
  refine rf_bx0 (ym_Co_arrive R_u25) (fun u28' u28 r28 R_u28 => ?_)
  refine rf_br ?_ ?_
  · exact (yb_Cm_receive_173 hS R_u28)
  · refine rf_bo (rx_35_1 R_u28) ?_
    refine rf_so ?_
    refine rf_bo (rx_15_4 R_u28) ?_
    refine rf_so ?_
    refine rf_ai (ax_20 R_u28) ?_
    refine rf_ck (ox_35 R_u28) ?_
    refine rf_bx0 (hS.2.2.2.1 _ _ _ _ _ R_u28) (fun u35' u35 r35 R_u35 => ?_)
    refine rf_ck (ox_35 R_u35) ?_
    refine rf_bx0 (ym_Cm_forget R_u35) (fun u36' u36 r36 R_u36 => ?_)
    exact (yb_Cm_receive_173 hS R_u36)
theorem yb_Cm_receive_48 {N : Nat} {o : Option Nat} {c : Nat → Nat} {m : MS} {u : CS} {S : SG_Cm_fun} {S' : SF_Cm_fun} (hS : SC_Cm_fun o S S') (R : RP o c m u) {v1 : Int32} {v2 : Int32} {v3 : Int32} {v4 : Int32} : RF 0 o VE c u (fb_Cm_receive_48 N S () u 35 v1 v2 v3 v4) (hb_Cm_receive_48 N S' () m v1 v2 v3 v4) := by
  unfold fb_Cm_receive_48 hb_Cm_receive_48
  refine rf_bo (rx_35_2 R) ?_
  refine rf_so ?_
  refine rf_ck (ox_22 R) ?_
  refine rf_bx0 (ym_Co_put R) (fun u38' u38 r38 R_u38 => ?_)
  refine rf_bo (rx_35_2 R_u38) ?_
  refine rf_br ?_ ?_
  · exact (yb_Cm_receive_71 hS R_u38)
  · exact (yb_Cm_receive_71 hS R_u38)
theorem yb_Cm_receive_22 {N : Nat} {o : Option Nat} {c : Nat → Nat} {m : MS} {u : CS} {S : SG_Cm_fun} {S' : SF_Cm_fun} (hS : SC_Cm_fun o S S') (R : RP o c m u) {v1 : Int32} {v2 : Int32} {v3 : Int32} {t0 : Int32} : RF 0 o VE c u (fb_Cm_receive_22 N S () u 35 v1 v2 v3 t0) (hb_Cm_receive_22 N S' () m v1 v2 v3 t0) := by
  unfold fb_Cm_receive_22 hb_Cm_receive_22
  refine rf_br ?_ ?_
  · exact (yb_Cm_receive_48 hS R)
  · refine rf_bo (rx_35_1 R) ?_
    refine rf_so ?_
    refine rf_bo (rx_15_2 R) ?_
    refine rf_so ?_
    refine rf_ai (ax_18 R) ?_
    refine rf_ck (ox_35 R) ?_
    refine rf_bx0 (hS.2.2.2.2.2.2.2.2.2.2.1 _ _ _ _ _ R) (fun u46' u46 r46 R_u46 => ?_)
    refine rf_ck (ox_35 R_u46) ?_
    refine rf_bx0 (ym_Cm_forget R_u46) (fun u47' u47 r47 R_u47 => ?_)
    exact (yb_Cm_receive_48 hS R_u47)
theorem yb_Cm_receive_0 {N : Nat} {o : Option Nat} {c : Nat → Nat} {m : MS} {u : CS} {S : SG_Cm_fun} {S' : SF_Cm_fun} (hS : SC_Cm_fun o S S') (R : RP o c m u) {v1 : Int32} {v2 : Int32} : RF 0 o VE c u (fb_Cm_receive_0 N S () u 35 v1 v2) (hb_Cm_receive_0 N S' () m v1 v2) := by
  unfold fb_Cm_receive_0 hb_Cm_receive_0
  refine rf_bo (gx_35_6 R) ?_
  refine rf_bo (rx_35_1 R) ?_
  refine rf_so ?_
  refine rf_bo (rx_15_2 R) ?_
  refine rf_so ?_
  refine rf_ai (ax_18 R) ?_
  refine rf_br ?_ ?_
  · exact (yb_Cm_receive_22 hS R)
  · exact (yb_Cm_receive_22 hS R)
theorem ym_Cm_receive {N : Nat} {o : Option Nat} {c : Nat → Nat} {m : MS} {u : CS} {S : SG_Cm_fun} {S' : SF_Cm_fun} (hS : SC_Cm_fun o S S') (R : RP o c m u) {v1 : Int32} {v2 : Int32} : RF 0 o VE c u (fm_Cm_receive N S u 35 v1 v2) (hm_Cm_receive N S' m v1 v2) := yb_Cm_receive_0 (N := N) hS R
theorem yb_Cm_parts_38 {N : Nat} {o : Option Nat} {c : Nat → Nat} {m : MS} {u : CS} {S : SG_Cm_fun} {S' : SF_Cm_fun} {G : (CS → Nat → Int32 → Int32 → Int32 → Int32 → Int32 → Option (CS × Int32))} {G' : (MS → Int32 → Int32 → Int32 → Int32 → Int32 → Option (MS × Int32))} (hS : SC_Cm_fun o S S') (hG : ∀ (c : Nat → Nat) (m : MS) (u : CS) (v2 : Int32) (v3 : Int32) (v4 : Int32) (v5 : Int32) (v6 : Int32), RP o c m u → RF 0 o VE c u (G u 35 v2 v3 v4 v5 v6) (G' m v2 v3 v4 v5 v6)) (R : RP o c m u) {v2 : Int32} {v3 : Int32} {v4 : Int32} {v5 : Int32} {v6 : Int32} {v7 : Int32} {v8 : Int32} : RF 0 o VE c u (fb_Cm_parts_38 N S G u 35 v2 v3 v4 v5 v6 v7 v8) (hb_Cm_parts_38 N S' G' m v2 v3 v4 v5 v6 v7 v8) := by
  unfold fb_Cm_parts_38 hb_Cm_parts_38
  refine rf_bo (rx_35_1 R) ?_
  refine rf_so ?_
  refine rf_bo (rx_15_4 R) ?_
  refine rf_so ?_
  refine rf_ai (ax_20 R) ?_
  refine rf_ck (ox_35 R) ?_
  refine rf_bx0 (hS.2.2.2.1 _ _ _ _ _ R) (fun u6' u6 r6 R_u6 => ?_)
  refine rf_ck (ox_35 R_u6) ?_
  refine rf_bx0 (ym_Cm_forget R_u6) (fun u7' u7 r7 R_u7 => ?_)
  refine rf_bo (rx_35_2 R_u7) ?_
  refine rf_so ?_
  refine rf_ck (ox_22 R_u7) ?_
  refine rf_bx0 (ym_Co_put R_u7) (fun u9' u9 r9 R_u9 => ?_)
  refine rf_bo (rx_35_2 R_u9) ?_
  refine rf_so ?_
  refine rf_ck (ox_22 R_u9) ?_
  refine rf_bx0 (ym_Co_hook R_u9) (fun u12' u12 r12 R_u12 => ?_)
  refine rf_bo (rx_35_2 R_u12) ?_
  refine rf_so ?_
  refine rf_ck (ox_22 R_u12) ?_
  refine rf_bx0 (ym_Co_arrive R_u12) (fun u15' u15 r15 R_u15 => ?_)
  refine rf_bo (rx_35_1 R_u15) ?_
  refine rf_so ?_
  refine rf_bo (rx_15_5 R_u15) ?_
  refine rf_so ?_
  refine rf_ai (ax_21 R_u15) ?_
  exact (hG _ _ _ _ _ _ _ _ R_u15)
theorem yb_Cm_parts_6 {N : Nat} {o : Option Nat} {c : Nat → Nat} {m : MS} {u : CS} {S : SG_Cm_fun} {S' : SF_Cm_fun} {G : (CS → Nat → Int32 → Int32 → Int32 → Int32 → Int32 → Option (CS × Int32))} {G' : (MS → Int32 → Int32 → Int32 → Int32 → Int32 → Option (MS × Int32))} (hS : SC_Cm_fun o S S') (hG : ∀ (c : Nat → Nat) (m : MS) (u : CS) (v2 : Int32) (v3 : Int32) (v4 : Int32) (v5 : Int32) (v6 : Int32), RP o c m u → RF 0 o VE c u (G u 35 v2 v3 v4 v5 v6) (G' m v2 v3 v4 v5 v6)) (R : RP o c m u) {v2 : Int32} {v3 : Int32} {v4 : Int32} {v5 : Int32} {v6 : Int32} : RF 0 o VE c u (fb_Cm_parts_6 N S G u 35 v2 v3 v4 v5 v6) (hb_Cm_parts_6 N S' G' m v2 v3 v4 v5 v6) := by
  unfold fb_Cm_parts_6 hb_Cm_parts_6
  refine rf_br ?_ ?_
  · exact rf_ret R rfl
  · refine rf_bo (gx_35_6 R) ?_
    refine rf_ck (ox_35 R) ?_
    refine rf_bx0 (hS.2.2.2.2.2.2.2.2.2.2.2.1 _ _ _ _ _ R) (fun u23' u23 r23 R_u23 => ?_)
    refine rf_br ?_ ?_
    · exact (yb_Cm_parts_38 hS hG R_u23)
    · refine rf_bo (rx_35_2 R_u23) ?_
      refine rf_so ?_
      refine rf_ck (ox_22 R_u23) ?_
      refine rf_bx0 (ym_Co_put R_u23) (fun u25' u25 r25 R_u25 => ?_)
      exact (yb_Cm_parts_38 hS hG R_u25)
theorem yb_Cm_parts_0 {N : Nat} {o : Option Nat} {c : Nat → Nat} {m : MS} {u : CS} {S : SG_Cm_fun} {S' : SF_Cm_fun} {G : (CS → Nat → Int32 → Int32 → Int32 → Int32 → Int32 → Option (CS × Int32))} {G' : (MS → Int32 → Int32 → Int32 → Int32 → Int32 → Option (MS × Int32))} (hS : SC_Cm_fun o S S') (hG : ∀ (c : Nat → Nat) (m : MS) (u : CS) (v2 : Int32) (v3 : Int32) (v4 : Int32) (v5 : Int32) (v6 : Int32), RP o c m u → RF 0 o VE c u (G u 35 v2 v3 v4 v5 v6) (G' m v2 v3 v4 v5 v6)) (R : RP o c m u) {v1 : Int32} {v2 : Int32} {v3 : Int32} {v4 : Int32} : RF 0 o VE c u (fb_Cm_parts_0 N S G u 35 v1 v2 v3 v4) (hb_Cm_parts_0 N S' G' m v1 v2 v3 v4) := by
  unfold fb_Cm_parts_0 hb_Cm_parts_0
  exact (hG _ _ _ _ _ _ _ _ R)
theorem yg_Cm_parts {N : Nat} {o : Option Nat} {S : SG_Cm_fun} {S' : SF_Cm_fun} (hS : SC_Cm_fun o S S') : ∀ n, (∀ (c : Nat → Nat) (m : MS) (u : CS) (v2 : Int32) (v3 : Int32) (v4 : Int32) (v5 : Int32) (v6 : Int32), RP o c m u → RF 0 o VE c u ((gg_Cm_parts N S n) u 35 v2 v3 v4 v5 v6) ((hg_Cm_parts N S' n) m v2 v3 v4 v5 v6)) := by
  intro n
  induction n with
  | zero => exact fun c m u v2 v3 v4 v5 v6 R => rf_none
  | succ n ih => exact fun c m u v2 v3 v4 v5 v6 R => yb_Cm_parts_6 (N := N) hS ih R
theorem ym_Cm_parts {N : Nat} {o : Option Nat} {c : Nat → Nat} {m : MS} {u : CS} {S : SG_Cm_fun} {S' : SF_Cm_fun} (hS : SC_Cm_fun o S S') (R : RP o c m u) {v1 : Int32} {v2 : Int32} {v3 : Int32} {v4 : Int32} : RF 0 o VE c u (fm_Cm_parts N S u 35 v1 v2 v3 v4) (hm_Cm_parts N S' m v1 v2 v3 v4) := yb_Cm_parts_0 (N := N) hS (yg_Cm_parts (N := N) hS N) R
theorem yb_Cm_body_58 {N : Nat} {o : Option Nat} {c : Nat → Nat} {m : MS} {u : CS} {S : SG_Cm_fun} {S' : SF_Cm_fun} {G : (CS → Nat → Int32 → Int32 → Option (CS × Unit))} {G' : (MS → Int32 → Int32 → Option (MS × Unit))} (hS : SC_Cm_fun o S S') (hG : ∀ (c : Nat → Nat) (m : MS) (u : CS) (v2 : Int32) (v3 : Int32), RP o c m u → RF 0 o VE c u (G u 35 v2 v3) (G' m v2 v3)) (R : RP o c m u) {v2 : Int32} {v3 : Int32} : RF 0 o VE c u (fb_Cm_body_58 N S G u 35 v2 v3) (hb_Cm_body_58 N S' G' m v2 v3) := by
  unfold fb_Cm_body_58 hb_Cm_body_58
  refine rf_bo (rx_35_1 R) ?_
  refine rf_so ?_
  refine rf_bo (rx_15_5 R) ?_
  refine rf_so ?_
  refine rf_ai (ax_21 R) ?_
  exact (hG _ _ _ _ _ R)
theorem yb_Cm_body_41 {N : Nat} {o : Option Nat} {c : Nat → Nat} {m : MS} {u : CS} {S : SG_Cm_fun} {S' : SF_Cm_fun} {G : (CS → Nat → Int32 → Int32 → Option (CS × Unit))} {G' : (MS → Int32 → Int32 → Option (MS × Unit))} (hS : SC_Cm_fun o S S') (hG : ∀ (c : Nat → Nat) (m : MS) (u : CS) (v2 : Int32) (v3 : Int32), RP o c m u → RF 0 o VE c u (G u 35 v2 v3) (G' m v2 v3)) (R : RP o c m u) {v2 : Int32} {v3 : Int32} {v4 : Int32} {t1 : Int32} {t2 : Int32} : RF 0 o VE c u (fb_Cm_body_41 N S G u 35 v2 v3 v4 35 t1 t2) (hb_Cm_body_41 N S' G' m v2 v3 v4 t1 t2) := by
  unfold fb_Cm_body_41 hb_Cm_body_41
  refine rf_ck (ox_35 R) ?_
  refine rf_bx0 (hS.2.2.2.2.2.2.2.2.2.2.1 _ _ _ _ _ R) (fun u6' u6 r6 R_u6 => ?_)
  refine rf_br ?_ ?_
  · exact (yb_Cm_body_58 hS hG R_u6)
  · refine rf_bo (rx_35_2 R_u6) ?_
    refine rf_so ?_
    refine rf_ck (ox_22 R_u6) ?_
    refine rf_bx0 (ym_Co_put R_u6) (fun u8' u8 r8 R_u8 => ?_)
    exact (yb_Cm_body_58 hS hG R_u8)
theorem yb_Cm_body_40 {N : Nat} {o : Option Nat} {c : Nat → Nat} {m : MS} {u : CS} {S : SG_Cm_fun} {S' : SF_Cm_fun} {G : (CS → Nat → Int32 → Int32 → Option (CS × Unit))} {G' : (MS → Int32 → Int32 → Option (MS × Unit))} (hS : SC_Cm_fun o S S') (hG : ∀ (c : Nat → Nat) (m : MS) (u : CS) (v2 : Int32) (v3 : Int32), RP o c m u → RF 0 o VE c u (G u 35 v2 v3) (G' m v2 v3)) (R : RP o c m u) {v2 : Int32} {v3 : Int32} {v4 : Int32} {t1 : Int32} : RF 0 o VE c u (fb_Cm_body_40 N S G u 35 v2 v3 v4 35 t1) (hb_Cm_body_40 N S' G' m v2 v3 v4 t1) := by
  unfold fb_Cm_body_40 hb_Cm_body_40
  exact (yb_Cm_body_41 hS hG R)
theorem yb_Cm_body_23 {N : Nat} {o : Option Nat} {c : Nat → Nat} {m : MS} {u : CS} {S : SG_Cm_fun} {S' : SF_Cm_fun} {G : (CS → Nat → Int32 → Int32 → Option (CS × Unit))} {G' : (MS → Int32 → Int32 → Option (MS × Unit))} (hS : SC_Cm_fun o S S') (hG : ∀ (c : Nat → Nat) (m : MS) (u : CS) (v2 : Int32) (v3 : Int32), RP o c m u → RF 0 o VE c u (G u 35 v2 v3) (G' m v2 v3)) (R : RP o c m u) {v2 : Int32} {v3 : Int32} {t0 : Int32} : RF 0 o VE c u (fb_Cm_body_23 N S G u 35 v2 v3 t0) (hb_Cm_body_23 N S' G' m v2 v3 t0) := by
  unfold fb_Cm_body_23 hb_Cm_body_23
  refine rf_br ?_ ?_
  · exact (yb_Cm_body_40 hS hG R)
  · refine rf_br ?_ ?_
    · exact (yb_Cm_body_41 hS hG R)
    · exact (yb_Cm_body_40 hS hG R)
theorem yb_Cm_body_2 {N : Nat} {o : Option Nat} {c : Nat → Nat} {m : MS} {u : CS} {S : SG_Cm_fun} {S' : SF_Cm_fun} {G : (CS → Nat → Int32 → Int32 → Option (CS × Unit))} {G' : (MS → Int32 → Int32 → Option (MS × Unit))} (hS : SC_Cm_fun o S S') (hG : ∀ (c : Nat → Nat) (m : MS) (u : CS) (v2 : Int32) (v3 : Int32), RP o c m u → RF 0 o VE c u (G u 35 v2 v3) (G' m v2 v3)) (R : RP o c m u) {v2 : Int32} {v3 : Int32} : RF 0 o VE c u (fb_Cm_body_2 N S G u 35 v2 v3) (hb_Cm_body_2 N S' G' m v2 v3) := by
  unfold fb_Cm_body_2 hb_Cm_body_2
  refine rf_br ?_ ?_
  · exact rf_ret R rfl
  · refine rf_bo (rx_35_1 R) ?_
    refine rf_so ?_
    refine rf_bo (rx_15_5 R) ?_
    refine rf_so ?_
    refine rf_ai (ax_21 R) ?_
    refine rf_br ?_ ?_
    · exact (yb_Cm_body_23 hS hG R)
    · exact (yb_Cm_body_23 hS hG R)
theorem yb_Cm_body_0 {N : Nat} {o : Option Nat} {c : Nat → Nat} {m : MS} {u : CS} {S : SG_Cm_fun} {S' : SF_Cm_fun} {G : (CS → Nat → Int32 → Int32 → Option (CS × Unit))} {G' : (MS → Int32 → Int32 → Option (MS × Unit))} (hS : SC_Cm_fun o S S') (hG : ∀ (c : Nat → Nat) (m : MS) (u : CS) (v2 : Int32) (v3 : Int32), RP o c m u → RF 0 o VE c u (G u 35 v2 v3) (G' m v2 v3)) (R : RP o c m u) {v1 : Int32} {v2 : Int32} : RF 0 o VE c u (fb_Cm_body_0 N S G u 35 v1 v2) (hb_Cm_body_0 N S' G' m v1 v2) := by
  unfold fb_Cm_body_0 hb_Cm_body_0
  exact (hG _ _ _ _ _ R)
theorem yg_Cm_body {N : Nat} {o : Option Nat} {S : SG_Cm_fun} {S' : SF_Cm_fun} (hS : SC_Cm_fun o S S') : ∀ n, (∀ (c : Nat → Nat) (m : MS) (u : CS) (v2 : Int32) (v3 : Int32), RP o c m u → RF 0 o VE c u ((gg_Cm_body N S n) u 35 v2 v3) ((hg_Cm_body N S' n) m v2 v3)) := by
  intro n
  induction n with
  | zero => exact fun c m u v2 v3 R => rf_none
  | succ n ih => exact fun c m u v2 v3 R => yb_Cm_body_2 (N := N) hS ih R
theorem ym_Cm_body {N : Nat} {o : Option Nat} {c : Nat → Nat} {m : MS} {u : CS} {S : SG_Cm_fun} {S' : SF_Cm_fun} (hS : SC_Cm_fun o S S') (R : RP o c m u) {v1 : Int32} {v2 : Int32} : RF 0 o VE c u (fm_Cm_body N S u 35 v1 v2) (hm_Cm_body N S' m v1 v2) := yb_Cm_body_0 (N := N) hS (yg_Cm_body (N := N) hS N) R
theorem yb_Cm_compound_455 {N : Nat} {o : Option Nat} {c : Nat → Nat} {m : MS} {u : CS} {S : SG_Cm_fun} {S' : SF_Cm_fun} (hS : SC_Cm_fun o S S') (R : RP o c m u) : RF 0 o VE c u (fb_Cm_compound_455 N S () u) (hb_Cm_compound_455 N S' () m) := by
  unfold fb_Cm_compound_455 hb_Cm_compound_455
  exact rf_ret R rfl
theorem yb_Cm_compound_72 {N : Nat} {o : Option Nat} {c : Nat → Nat} {m : MS} {u : CS} {S : SG_Cm_fun} {S' : SF_Cm_fun} (hS : SC_Cm_fun o S S') (R : RP o c m u) {t1 : Int32} : RF 0 o VE c u (fb_Cm_compound_72 N S () u (some 22) t1) (hb_Cm_compound_72 N S' () m t1) := by
  unfold fb_Cm_compound_72 hb_Cm_compound_72
  refine rf_so ?_
  refine rf_ck (ox_22 R) ?_
  refine rf_bx0 (ym_Co_put R) (fun u1' u1 r1 R_u1 => ?_)
  exact rf_ret R_u1 rfl
theorem yb_Cm_compound_33 {N : Nat} {o : Option Nat} {c : Nat → Nat} {m : MS} {u : CS} {S : SG_Cm_fun} {S' : SF_Cm_fun} (hS : SC_Cm_fun o S S') (R : RP o c m u) {v1 : Int32} : RF 0 o VE c u (fb_Cm_compound_33 N S () u 35 v1) (hb_Cm_compound_33 N S' () m v1) := by
  unfold fb_Cm_compound_33 hb_Cm_compound_33
  refine rf_bo (rx_35_1 R) ?_
  refine rf_so ?_
  refine rf_bo (rx_15_2 R) ?_
  refine rf_so ?_
  refine rf_ai (ax_18 R) ?_
  refine rf_ck (ox_35 R) ?_
  refine rf_bx0 (hS.2.2.2.2.2.2.2.2.2.2.1 _ _ _ _ _ R) (fun u8' u8 r8 R_u8 => ?_)
  refine rf_bo (rx_35_2 R_u8) ?_
  refine rf_bo (rx_35_1 R_u8) ?_
  refine rf_so ?_
  refine rf_bo (rx_15_0 R_u8) ?_
  refine rf_so ?_
  refine rf_ai (ax_16 R_u8) ?_
  refine rf_br ?_ ?_
  · exact (yb_Cm_compound_72 hS R_u8)
  · exact (yb_Cm_compound_72 hS R_u8)
theorem yb_Cm_compound_0 {N : Nat} {o : Option Nat} {c : Nat → Nat} {m : MS} {u : CS} {S : SG_Cm_fun} {S' : SF_Cm_fun} (hS : SC_Cm_fun o S S') (R : RP o c m u) {v1 : Int32} {v2 : Int32} : RF 0 o VE c u (fb_Cm_compound_0 N S () u 35 v1 v2) (hb_Cm_compound_0 N S' () m v1 v2) := by
  unfold fb_Cm_compound_0 hb_Cm_compound_0
  refine rf_bo (gx_35_6 R) ?_
  refine rf_bo (rx_35_1 R) ?_
  refine rf_so ?_
  refine rf_bo (rx_15_0 R) ?_
  refine rf_so ?_
  refine rf_ai (ax_16 R) ?_
  refine rf_br ?_ ?_
  · exact (yb_Cm_compound_33 hS R)
  · refine rf_bo (rx_35_1 R) ?_
    refine rf_so ?_
    refine rf_bo (rx_15_0 R) ?_
    refine rf_so ?_
    refine rf_ai (ax_16 R) ?_
    refine rf_br ?_ ?_
    · exact (yb_Cm_compound_33 hS R)
    · refine rf_bo (rx_35_1 R) ?_
      refine rf_so ?_
      refine rf_bo (rx_15_1 R) ?_
      refine rf_so ?_
      refine rf_ai (ax_17 R) ?_
      refine rf_ck (ox_35 R) ?_
      refine rf_bx0 (ym_Cm_notInGuard R) (fun u31' u31 r31 R_u31 => ?_)
      refine rf_bo (rx_35_1 R_u31) ?_
      refine rf_so ?_
      refine rf_bo (rx_15_0 R_u31) ?_
      refine rf_so ?_
      refine rf_ai (ax_16 R_u31) ?_
      refine rf_br ?_ ?_
      · refine rf_bo (rx_35_1 R_u31) ?_
        refine rf_so ?_
        refine rf_bo (rx_15_2 R_u31) ?_
        refine rf_so ?_
        refine rf_ai (ax_18 R_u31) ?_
        refine rf_ck (ox_35 R_u31) ?_
        refine rf_bx0 (hS.2.2.2.1 _ _ _ _ _ R_u31) (fun u42' u42 r42 R_u42 => ?_)
        refine rf_ck (ox_35 R_u42) ?_
        refine rf_bx0 (ym_Cm_forget R_u42) (fun u43' u43 r43 R_u43 => ?_)
        exact (yb_Cm_compound_455 hS R_u43)
      · refine rf_br ?_ ?_
        · refine rf_bo (rx_35_1 R_u31) ?_
          refine rf_so ?_
          refine rf_bo (rx_15_2 R_u31) ?_
          refine rf_so ?_
          refine rf_ai (ax_18 R_u31) ?_
          refine rf_ck (ox_35 R_u31) ?_
          refine rf_bx0 (hS.2.2.2.2.2.2.2.2.2.2.1 _ _ _ _ _ R_u31) (fun u49' u49 r49 R_u49 => ?_)
          refine rf_bo (rx_35_1 R_u49) ?_
          refine rf_so ?_
          refine rf_bo (rx_15_3 R_u49) ?_
          refine rf_so ?_
          refine rf_ai (ax_19 R_u49) ?_
          refine rf_ck (ox_35 R_u49) ?_
          refine rf_bx0 (hS.2.2.1 _ _ _ _ _ _ _ R_u49) (fun u55' u55 r55 R_u55 => ?_)
          refine rf_bo (rx_35_2 R_u55) ?_
          refine rf_so ?_
          refine rf_ck (ox_22 R_u55) ?_
          refine rf_bx0 (ym_Co_put R_u55) (fun u57' u57 r57 R_u57 => ?_)
          refine rf_bo (rx_35_2 R_u57) ?_
          refine rf_so ?_
          refine rf_ck (ox_22 R_u57) ?_
          refine rf_bx0 (ym_Co_arrive R_u57) (fun u60' u60 r60 R_u60 => ?_)
          exact (yb_Cm_compound_455 hS R_u60)
        · refine rf_br ?_ ?_
          · refine rf_bo (rx_35_1 R_u31) ?_
            refine rf_so ?_
            refine rf_bo (rx_15_3 R_u31) ?_
            refine rf_so ?_
            refine rf_ai (ax_19 R_u31) ?_
            refine rf_ck (ox_35 R_u31) ?_
            refine rf_bx0 (hS.2.2.1 _ _ _ _ _ _ _ R_u31) (fun u67' u67 r67 R_u67 => ?_)
            refine rf_bo (rx_35_2 R_u67) ?_
            refine rf_so ?_
            refine rf_ck (ox_22 R_u67) ?_
            refine rf_bx0 (ym_Co_put R_u67) (fun u69' u69 r69 R_u69 => ?_)
            refine rf_bo (rx_35_2 R_u69) ?_
            refine rf_so ?_
            refine rf_ck (ox_22 R_u69) ?_
            refine rf_bx0 (ym_Co_arrive R_u69) (fun u72' u72 r72 R_u72 => ?_)
            exact (yb_Cm_compound_455 hS R_u72)
          · refine rf_br ?_ ?_
            · refine rf_ck (ox_35 R_u31) ?_
              refine rf_bx0 (hS.2.1 _ _ _ _ _ R_u31) (fun u74' u74 r74 R_u74 => ?_)
              exact (yb_Cm_compound_455 hS R_u74)
            · refine rf_br ?_ ?_
              · refine rf_ck (ox_35 R_u31) ?_
                refine rf_bx0 (hS.1 _ _ _ _ R_u31) (fun u75' u75 r75 R_u75 => ?_)
                exact (yb_Cm_compound_455 hS R_u75)
              · refine rf_br ?_ ?_
                · refine rf_ck (ox_35 R_u31) ?_
                  refine rf_bx0 (ym_Cm_funOf R_u31) (fun u76' u76 r76 R_u76 => ?_)
                  exact (yb_Cm_compound_455 hS R_u76)
                · refine rf_br ?_ ?_
                  · exact (yb_Cm_compound_455 hS R_u31)
                  · refine rf_br ?_ ?_
                    · exact (yb_Cm_compound_455 hS R_u31)
                    · refine rf_br ?_ ?_
                      · exact (yb_Cm_compound_455 hS R_u31)
                      · refine rf_br ?_ ?_
                        · exact (yb_Cm_compound_455 hS R_u31)
                        · refine rf_br ?_ ?_
                          · exact (yb_Cm_compound_455 hS R_u31)
                          · refine rf_br ?_ ?_
                            · refine rf_bo (rx_35_2 R_u31) ?_
                              refine rf_so ?_
                              refine rf_ck (ox_22 R_u31) ?_
                              refine rf_bx0 (ym_Co_put R_u31) (fun u78' u78 r78 R_u78 => ?_)
                              refine rf_bo (rx_35_2 R_u78) ?_
                              refine rf_so ?_
                              refine rf_ck (ox_22 R_u78) ?_
                              refine rf_bx0 (ym_Co_hook R_u78) (fun u81' u81 r81 R_u81 => ?_)
                              refine rf_bo (rx_35_1 R_u81) ?_
                              refine rf_so ?_
                              refine rf_bo (rx_15_2 R_u81) ?_
                              refine rf_so ?_
                              refine rf_ai (ax_18 R_u81) ?_
                              refine rf_ck (ox_35 R_u81) ?_
                              refine rf_bx0 (hS.2.2.2.2.2.2.2.2.2.2.1 _ _ _ _ _ R_u81) (fun u88' u88 r88 R_u88 => ?_)
                              refine rf_bo (rx_35_2 R_u88) ?_
                              refine rf_so ?_
                              refine rf_ck (ox_22 R_u88) ?_
                              refine rf_bx0 (ym_Co_put R_u88) (fun u90' u90 r90 R_u90 => ?_)
                              refine rf_ck (ox_35 R_u90) ?_
                              refine rf_bx0 (ym_Cm_forget R_u90) (fun u92' u92 r92 R_u92 => ?_)
                              refine rf_bo (rx_35_2 R_u92) ?_
                              refine rf_so ?_
                              refine rf_ck (ox_22 R_u92) ?_
                              refine rf_bx0 (ym_Co_arrive R_u92) (fun u94' u94 r94 R_u94 => ?_)
                              exact (yb_Cm_compound_455 hS R_u94)
                            · refine rf_br ?_ ?_
                              · refine rf_bo (rx_35_1 R_u31) ?_
                                refine rf_so ?_
                                refine rf_bo (rx_15_3 R_u31) ?_
                                refine rf_so ?_
                                refine rf_ai (ax_19 R_u31) ?_
                                refine rf_ck (ox_35 R_u31) ?_
                                refine rf_bx0 (hS.2.2.2.2.2.2.2.2.2.2.1 _ _ _ _ _ R_u31) (fun u101' u101 r101 R_u101 => ?_)
                                refine rf_bo (rx_35_2 R_u101) ?_
                                refine rf_so ?_
                                refine rf_ck (ox_22 R_u101) ?_
                                refine rf_bx0 (ym_Co_put R_u101) (fun u103' u103 r103 R_u103 => ?_)
                                refine rf_bo (rx_35_1 R_u103) ?_
                                refine rf_so ?_
                                refine rf_bo (rx_15_2 R_u103) ?_
                                refine rf_so ?_
                                refine rf_ai (ax_18 R_u103) ?_
                                refine rf_ck (ox_35 R_u103) ?_
                                refine rf_bx0 (yr_Cm_pattern R_u103) (fun u110' u110 r110 R_u110 => ?_)
                                refine rf_bo (rx_35_2 R_u110) ?_
                                refine rf_so ?_
                                refine rf_ck (ox_22 R_u110) ?_
                                refine rf_bx0 (ym_Co_put R_u110) (fun u112' u112 r112 R_u112 => ?_)
                                exact (yb_Cm_compound_455 hS R_u112)
                              · refine rf_br ?_ ?_
                                · refine rf_bo (rx_35_1 R_u31) ?_
                                  refine rf_so ?_
                                  refine rf_bo (rx_15_2 R_u31) ?_
                                  refine rf_so ?_
                                  refine rf_ai (ax_18 R_u31) ?_
                                  refine rf_ck (ox_35 R_u31) ?_
                                  refine rf_bx0 (hS.2.2.2.2.2.2.2.2.2.2.1 _ _ _ _ _ R_u31) (fun u119' u119 r119 R_u119 => ?_)
                                  refine rf_bo (rx_35_1 R_u119) ?_
                                  refine rf_so ?_
                                  refine rf_bo (rx_15_3 R_u119) ?_
                                  refine rf_so ?_
                                  refine rf_ai (ax_19 R_u119) ?_
                                  refine rf_ck (ox_35 R_u119) ?_
                                  refine rf_bx0 (hS.2.2.2.2.2.2.2.2.2.2.1 _ _ _ _ _ R_u119) (fun u125' u125 r125 R_u125 => ?_)
                                  refine rf_bo (rx_35_2 R_u125) ?_
                                  refine rf_so ?_
                                  refine rf_ck (ox_22 R_u125) ?_
                                  refine rf_bx0 (ym_Co_put R_u125) (fun u127' u127 r127 R_u127 => ?_)
                                  exact (yb_Cm_compound_455 hS R_u127)
                                · exact (yb_Cm_compound_455 hS R_u31)
theorem ym_Cm_compound {N : Nat} {o : Option Nat} {c : Nat → Nat} {m : MS} {u : CS} {S : SG_Cm_fun} {S' : SF_Cm_fun} (hS : SC_Cm_fun o S S') (R : RP o c m u) {v1 : Int32} {v2 : Int32} : RF 0 o VE c u (fm_Cm_compound N S u 35 v1 v2) (hm_Cm_compound N S' m v1 v2) := yb_Cm_compound_0 (N := N) hS R
theorem yb_Cm_apply_87 {N : Nat} {o : Option Nat} {c : Nat → Nat} {m : MS} {u : CS} {S : SG_Cm_fun} {S' : SF_Cm_fun} {G : (CS → Nat → Int32 → Int32 → Int32 → Option (CS × Unit))} {G' : (MS → Int32 → Int32 → Int32 → Option (MS × Unit))} (hS : SC_Cm_fun o S S') (hG : ∀ (c : Nat → Nat) (m : MS) (u : CS) (v2 : Int32) (v3 : Int32) (v4 : Int32), RP o c m u → RF 0 o VE c u (G u 35 v2 v3 v4) (G' m v2 v3 v4)) (R : RP o c m u) {v2 : Int32} {v3 : Int32} {v4 : Int32} {t1 : Int32} : RF 0 o VE c u (fb_Cm_apply_87 N S G u 35 v2 v3 v4 (some 22) t1) (hb_Cm_apply_87 N S' G' m v2 v3 v4 t1) := by
  unfold fb_Cm_apply_87 hb_Cm_apply_87
  refine rf_so ?_
  refine rf_ck (ox_22 R) ?_
  refine rf_bx0 (ym_Co_put R) (fun u1' u1 r1 R_u1 => ?_)
  refine rf_bo (rx_35_2 R_u1) ?_
  refine rf_bo (rx_35_1 R_u1) ?_
  refine rf_so ?_
  refine rf_bo (rx_15_3 R_u1) ?_
  refine rf_so ?_
  refine rf_ai (ax_19 R_u1) ?_
  refine rf_so ?_
  refine rf_ck (ox_22 R_u1) ?_
  refine rf_bx0 (ym_Co_put R_u1) (fun u9' u9 r9 R_u9 => ?_)
  refine rf_bo (rx_35_2 R_u9) ?_
  refine rf_bo (rx_35_0 R_u9) ?_
  refine rf_so ?_
  refine rf_bo (rx_4_4 R_u9) ?_
  refine rf_so ?_
  refine rf_ai (ax_8 R_u9) ?_
  refine rf_so ?_
  refine rf_ck (ox_22 R_u9) ?_
  refine rf_bx0 (ym_Co_put R_u9) (fun u17' u17 r17 R_u17 => ?_)
  refine rf_bo (rx_35_1 R_u17) ?_
  refine rf_so ?_
  refine rf_bo (rx_15_5 R_u17) ?_
  refine rf_so ?_
  refine rf_ai (ax_21 R_u17) ?_
  exact (hG _ _ _ _ _ _ R_u17)
theorem yb_Cm_apply_85 {N : Nat} {o : Option Nat} {c : Nat → Nat} {m : MS} {u : CS} {S : SG_Cm_fun} {S' : SF_Cm_fun} {G : (CS → Nat → Int32 → Int32 → Int32 → Option (CS × Unit))} {G' : (MS → Int32 → Int32 → Int32 → Option (MS × Unit))} (hS : SC_Cm_fun o S S') (hG : ∀ (c : Nat → Nat) (m : MS) (u : CS) (v2 : Int32) (v3 : Int32) (v4 : Int32), RP o c m u → RF 0 o VE c u (G u 35 v2 v3 v4) (G' m v2 v3 v4)) (R : RP o c m u) {v2 : Int32} {v3 : Int32} {v4 : Int32} : RF 0 o VE c u (fb_Cm_apply_85 N S G u 35 v2 v3 v4 (some 22)) (hb_Cm_apply_85 N S' G' m v2 v3 v4) := by
  unfold fb_Cm_apply_85 hb_Cm_apply_85
  exact (yb_Cm_apply_87 hS hG R)
theorem yb_Cm_apply_40 {N : Nat} {o : Option Nat} {c : Nat → Nat} {m : MS} {u : CS} {S : SG_Cm_fun} {S' : SF_Cm_fun} {G : (CS → Nat → Int32 → Int32 → Int32 → Option (CS × Unit))} {G' : (MS → Int32 → Int32 → Int32 → Option (MS × Unit))} (hS : SC_Cm_fun o S S') (hG : ∀ (c : Nat → Nat) (m : MS) (u : CS) (v2 : Int32) (v3 : Int32) (v4 : Int32), RP o c m u → RF 0 o VE c u (G u 35 v2 v3 v4) (G' m v2 v3 v4)) (R : RP o c m u) {v2 : Int32} {v3 : Int32} {v4 : Int32} : RF 0 o VE c u (fb_Cm_apply_40 N S G u 35 v2 v3 v4) (hb_Cm_apply_40 N S' G' m v2 v3 v4) := by
  unfold fb_Cm_apply_40 hb_Cm_apply_40
  refine rf_br ?_ ?_
  · exact rf_ret R rfl
  · refine rf_bo (rx_35_1 R) ?_
    refine rf_so ?_
    refine rf_bo (rx_15_2 R) ?_
    refine rf_so ?_
    refine rf_ai (ax_18 R) ?_
    refine rf_ck (ox_35 R) ?_
    refine rf_bx0 (hS.2.2.2.2.2.2.2.2.2.1 _ _ _ _ R) (fun u29' u29 r29 R_u29 => ?_)
    refine rf_bo (rx_35_2 R_u29) ?_
    refine rf_br ?_ ?_
    · exact (yb_Cm_apply_85 hS hG R_u29)
    · refine rf_bo (rx_35_1 R_u29) ?_
      refine rf_so ?_
      refine rf_bo (rx_15_5 R_u29) ?_
      refine rf_so ?_
      refine rf_ai (ax_21 R_u29) ?_
      refine rf_br ?_ ?_
      · exact (yb_Cm_apply_87 hS hG R_u29)
      · exact (yb_Cm_apply_85 hS hG R_u29)
theorem yb_Cm_apply_0 {N : Nat} {o : Option Nat} {c : Nat → Nat} {m : MS} {u : CS} {S : SG_Cm_fun} {S' : SF_Cm_fun} {G : (CS → Nat → Int32 → Int32 → Int32 → Option (CS × Unit))} {G' : (MS → Int32 → Int32 → Int32 → Option (MS × Unit))} (hS : SC_Cm_fun o S S') (hG : ∀ (c : Nat → Nat) (m : MS) (u : CS) (v2 : Int32) (v3 : Int32) (v4 : Int32), RP o c m u → RF 0 o VE c u (G u 35 v2 v3 v4) (G' m v2 v3 v4)) (R : RP o c m u) {v1 : Int32} {v2 : Int32} : RF 0 o VE c u (fb_Cm_apply_0 N S G u 35 v1 v2) (hb_Cm_apply_0 N S' G' m v1 v2) := by
  unfold fb_Cm_apply_0 hb_Cm_apply_0
  refine rf_bo (rx_35_1 R) ?_
  refine rf_so ?_
  refine rf_bo (rx_15_1 R) ?_
  refine rf_so ?_
  refine rf_ai (ax_17 R) ?_
  refine rf_ck (ox_35 R) ?_
  refine rf_bx0 (ym_Cm_notInGuard R) (fun u41' u41 r41 R_u41 => ?_)
  refine rf_bo (rx_35_1 R_u41) ?_
  refine rf_so ?_
  refine rf_bo (rx_15_2 R_u41) ?_
  refine rf_so ?_
  refine rf_ai (ax_18 R_u41) ?_
  refine rf_ck (ox_35 R_u41) ?_
  refine rf_bx0 (hS.2.2.2.2.2.2.2.2.2.2.1 _ _ _ _ _ R_u41) (fun u47' u47 r47 R_u47 => ?_)
  refine rf_bo (rx_35_1 R_u47) ?_
  refine rf_so ?_
  refine rf_bo (rx_15_3 R_u47) ?_
  refine rf_so ?_
  refine rf_ai (ax_19 R_u47) ?_
  exact (hG _ _ _ _ _ _ R_u47)
theorem yg_Cm_apply {N : Nat} {o : Option Nat} {S : SG_Cm_fun} {S' : SF_Cm_fun} (hS : SC_Cm_fun o S S') : ∀ n, (∀ (c : Nat → Nat) (m : MS) (u : CS) (v2 : Int32) (v3 : Int32) (v4 : Int32), RP o c m u → RF 0 o VE c u ((gg_Cm_apply N S n) u 35 v2 v3 v4) ((hg_Cm_apply N S' n) m v2 v3 v4)) := by
  intro n
  induction n with
  | zero => exact fun c m u v2 v3 v4 R => rf_none
  | succ n ih => exact fun c m u v2 v3 v4 R => yb_Cm_apply_40 (N := N) hS ih R
theorem ym_Cm_apply {N : Nat} {o : Option Nat} {c : Nat → Nat} {m : MS} {u : CS} {S : SG_Cm_fun} {S' : SF_Cm_fun} (hS : SC_Cm_fun o S S') (R : RP o c m u) {v1 : Int32} {v2 : Int32} : RF 0 o VE c u (fm_Cm_apply N S u 35 v1 v2) (hm_Cm_apply N S' m v1 v2) := yb_Cm_apply_0 (N := N) hS (yg_Cm_apply (N := N) hS N) R
theorem yb_Cm_call_198 {N : Nat} {o : Option Nat} {c : Nat → Nat} {m : MS} {u : CS} {S : SG_Cm_fun} {S' : SF_Cm_fun} (hS : SC_Cm_fun o S S') (R : RP o c m u) {v3 : Int32} {v4 : Int32} {v6 : Int32} {t1 : Int32} : RF 0 o VE c u (fb_Cm_call_198 N S () u 35 v3 v4 v6 (some 22) t1) (hb_Cm_call_198 N S' () m v3 v4 v6 t1) := by
  unfold fb_Cm_call_198 hb_Cm_call_198
  refine rf_so ?_
  refine rf_ck (ox_22 R) ?_
  refine rf_bx0 (ym_Co_put R) (fun u1' u1 r1 R_u1 => ?_)
  refine rf_bo (rx_35_2 R_u1) ?_
  refine rf_so ?_
  refine rf_ck (ox_22 R_u1) ?_
  refine rf_bx0 (ym_Co_put R_u1) (fun u4' u4 r4 R_u4 => ?_)
  refine rf_bo (rx_35_2 R_u4) ?_
  refine rf_so ?_
  refine rf_ck (ox_22 R_u4) ?_
  refine rf_bx0 (ym_Co_put R_u4) (fun u7' u7 r7 R_u7 => ?_)
  refine rf_bo (rx_35_2 R_u7) ?_
  refine rf_bo (rx_35_0 R_u7) ?_
  refine rf_so ?_
  refine rf_bo (rx_4_4 R_u7) ?_
  refine rf_so ?_
  refine rf_ai (ax_8 R_u7) ?_
  refine rf_so ?_
  refine rf_ck (ox_22 R_u7) ?_
  refine rf_bx0 (ym_Co_put R_u7) (fun u15' u15 r15 R_u15 => ?_)
  exact rf_ret R_u15 rfl
theorem yb_Cm_call_170 {N : Nat} {o : Option Nat} {c : Nat → Nat} {m : MS} {u : CS} {S : SG_Cm_fun} {S' : SF_Cm_fun} (hS : SC_Cm_fun o S S') (R : RP o c m u) {v5 : Int32} {t1 : Int32} : RF 0 o VE c u (fb_Cm_call_170 N S () u 35 v5 (some 22) t1) (hb_Cm_call_170 N S' () m v5 t1) := by
  unfold fb_Cm_call_170 hb_Cm_call_170
  refine rf_so ?_
  refine rf_ck (ox_22 R) ?_
  refine rf_bx0 (ym_Co_put R) (fun u17' u17 r17 R_u17 => ?_)
  refine rf_bo (rx_35_2 R_u17) ?_
  refine rf_so ?_
  refine rf_ck (ox_22 R_u17) ?_
  refine rf_bx0 (ym_Co_put R_u17) (fun u20' u20 r20 R_u20 => ?_)
  exact rf_ret R_u20 rfl
theorem yb_Cm_call_152 {N : Nat} {o : Option Nat} {c : Nat → Nat} {m : MS} {u : CS} {S : SG_Cm_fun} {S' : SF_Cm_fun} (hS : SC_Cm_fun o S S') (R : RP o c m u) {v5 : Int32} {t0 : Int32} : RF 0 o VE c u (fb_Cm_call_152 N S () u 35 v5 t0) (hb_Cm_call_152 N S' () m v5 t0) := by
  unfold fb_Cm_call_152 hb_Cm_call_152
  refine rf_bo (rx_35_2 R) ?_
  refine rf_br ?_ ?_
  · exact (yb_Cm_call_170 hS R)
  · exact (yb_Cm_call_170 hS R)
theorem yb_Cm_call_147 {N : Nat} {o : Option Nat} {c : Nat → Nat} {m : MS} {u : CS} {S : SG_Cm_fun} {S' : SF_Cm_fun} (hS : SC_Cm_fun o S S') (R : RP o c m u) {v5 : Int32} : RF 0 o VE c u (fb_Cm_call_147 N S () u 35 v5) (hb_Cm_call_147 N S' () m v5) := by
  unfold fb_Cm_call_147 hb_Cm_call_147
  exact (yb_Cm_call_152 hS R)
theorem yb_Cm_call_96 {N : Nat} {o : Option Nat} {c : Nat → Nat} {m : MS} {u : CS} {S : SG_Cm_fun} {S' : SF_Cm_fun} (hS : SC_Cm_fun o S S') (R : RP o c m u) {v1 : Int32} {v2 : Int32} {v3 : Int32} {v4 : Int32} {v5 : Int32} {v6 : Int32} : RF 0 o VE c u (fb_Cm_call_96 N S () u 35 v1 v2 v3 v4 v5 v6) (hb_Cm_call_96 N S' () m v1 v2 v3 v4 v5 v6) := by
  unfold fb_Cm_call_96 hb_Cm_call_96
  refine rf_bo (rx_35_1 R) ?_
  refine rf_so ?_
  refine rf_bo (rx_15_3 R) ?_
  refine rf_so ?_
  refine rf_ai (ax_19 R) ?_
  refine rf_ck (ox_35 R) ?_
  refine rf_bx0 (hS.2.2.2.2.2.2.2.2.2.1 _ _ _ _ R) (fun u28' u28 r28 R_u28 => ?_)
  refine rf_br ?_ ?_
  · refine rf_bo (rx_35_2 R_u28) ?_
    refine rf_br ?_ ?_
    · exact (yb_Cm_call_198 hS R_u28)
    · exact (yb_Cm_call_198 hS R_u28)
  · refine rf_br ?_ ?_
    · exact (yb_Cm_call_147 hS R_u28)
    · refine rf_br ?_ ?_
      · exact (yb_Cm_call_147 hS R_u28)
      · refine rf_br ?_ ?_
        · exact (yb_Cm_call_147 hS R_u28)
        · refine rf_br ?_ ?_
          · exact (yb_Cm_call_147 hS R_u28)
          · refine rf_br ?_ ?_
            · exact (yb_Cm_call_147 hS R_u28)
            · exact (yb_Cm_call_152 hS R_u28)
theorem yb_Cm_call_91 {N : Nat} {o : Option Nat} {c : Nat → Nat} {m : MS} {u : CS} {S : SG_Cm_fun} {S' : SF_Cm_fun} (hS : SC_Cm_fun o S S') (R : RP o c m u) {v1 : Int32} {v2 : Int32} {v3 : Int32} {v4 : Int32} {v5 : Int32} {v6 : Int32} : RF 0 o VE c u (fb_Cm_call_91 N S () u 35 v1 v2 v3 v4 v5 v6) (hb_Cm_call_91 N S' () m v1 v2 v3 v4 v5 v6) := by
  unfold fb_Cm_call_91 hb_Cm_call_91
  refine rf_ck (ox_35 R) ?_
  refine rf_bx0 (ym_Cm_notInGuard R) (fun u30' u30 r30 R_u30 => ?_)
  exact (yb_Cm_call_96 hS R_u30)
theorem yb_Cm_call_77 {N : Nat} {o : Option Nat} {c : Nat → Nat} {m : MS} {u : CS} {S : SG_Cm_fun} {S' : SF_Cm_fun} (hS : SC_Cm_fun o S S') (R : RP o c m u) {v1 : Int32} {v2 : Int32} {v3 : Int32} {v4 : Int32} {v5 : Int32} {v6 : Int32} : RF 0 o VE c u (fb_Cm_call_77 N S () u 35 v1 v2 v3 v4 v5 v6) (hb_Cm_call_77 N S' () m v1 v2 v3 v4 v5 v6) := by
  unfold fb_Cm_call_77 hb_Cm_call_77
  refine rf_br ?_ ?_
  · exact (yb_Cm_call_91 hS R)
  · refine rf_br ?_ ?_
    · exact (yb_Cm_call_96 hS R)
    · exact (yb_Cm_call_91 hS R)
theorem yb_Cm_call_0 {N : Nat} {o : Option Nat} {c : Nat → Nat} {m : MS} {u : CS} {S : SG_Cm_fun} {S' : SF_Cm_fun} (hS : SC_Cm_fun o S S') (R : RP o c m u) {v1 : Int32} {v2 : Int32} : RF 0 o VE c u (fb_Cm_call_0 N S () u 35 v1 v2) (hb_Cm_call_0 N S' () m v1 v2) := by
  unfold fb_Cm_call_0 hb_Cm_call_0
  refine rf_bo (rx_35_1 R) ?_
  refine rf_so ?_
  refine rf_bo (rx_15_1 R) ?_
  refine rf_so ?_
  refine rf_ai (ax_17 R) ?_
  refine rf_bo (rx_35_1 R) ?_
  refine rf_so ?_
  refine rf_bo (rx_15_4 R) ?_
  refine rf_so ?_
  refine rf_ai (ax_20 R) ?_
  refine rf_bo (rx_35_1 R) ?_
  refine rf_so ?_
  refine rf_bo (rx_15_2 R) ?_
  refine rf_so ?_
  refine rf_ai (ax_18 R) ?_
  refine rf_ck (ox_35 R) ?_
  refine rf_bx0 (ym_Cm_predefinedOf R) (fun u46' u46 r46 R_u46 => ?_)
  refine rf_bo (rx_35_2 R_u46) ?_
  refine rf_bo (rx_35_1 R_u46) ?_
  refine rf_so ?_
  refine rf_bo (rx_15_2 R_u46) ?_
  refine rf_so ?_
  refine rf_ai (ax_18 R_u46) ?_
  refine rf_so ?_
  refine rf_ck (ox_22 R_u46) ?_
  refine rf_bx0 (ym_Co_seek R_u46) (fun u53' u53 r53 R_u53 => ?_)
  refine rf_br ?_ ?_
  · refine rf_br ?_ ?_
    · refine rf_ck (ox_35 R_u53) ?_
      refine rf_bx0 (ym_Cm_fault R_u53) (fun u55' u55 r55 R_u55 => ?_)
      exact (yb_Cm_call_77 hS R_u55)
    · exact (yb_Cm_call_77 hS R_u53)
  · exact (yb_Cm_call_77 hS R_u53)
theorem ym_Cm_call {N : Nat} {o : Option Nat} {c : Nat → Nat} {m : MS} {u : CS} {S : SG_Cm_fun} {S' : SF_Cm_fun} (hS : SC_Cm_fun o S S') (R : RP o c m u) {v1 : Int32} {v2 : Int32} : RF 0 o VE c u (fm_Cm_call N S u 35 v1 v2) (hm_Cm_call N S' m v1 v2) := yb_Cm_call_0 (N := N) hS R
theorem yb_Cm_signs_198 {N : Nat} {o : Option Nat} {c : Nat → Nat} {m : MS} {u : CS} {S : SG_Cm_fun} {S' : SF_Cm_fun} {G : (CS → Nat → Int32 → Int32 → Int32 → Int32 → Int32 → Option (CS × Unit))} {G' : (MS → Int32 → Int32 → Int32 → Int32 → Int32 → Option (MS × Unit))} (hS : SC_Cm_fun o S S') (hG : ∀ (c : Nat → Nat) (m : MS) (u : CS) (v2 : Int32) (v3 : Int32) (v4 : Int32) (v5 : Int32) (v6 : Int32), RP o c m u → RF 0 o VE c u (G u 35 v2 v3 v4 v5 v6) (G' m v2 v3 v4 v5 v6)) (R : RP o c m u) {v2 : Int32} {v3 : Int32} {v4 : Int32} {v5 : Int32} {v6 : Int32} : RF 0 o VE c u (fb_Cm_signs_198 N S G u 35 v2 v3 v4 v5 v6) (hb_Cm_signs_198 N S' G' m v2 v3 v4 v5 v6) := by
  unfold fb_Cm_signs_198 hb_Cm_signs_198
  refine rf_bo (rx_35_1 R) ?_
  refine rf_so ?_
  refine rf_bo (rx_15_5 R) ?_
  refine rf_so ?_
  refine rf_ai (ax_21 R) ?_
  exact (hG _ _ _ _ _ _ _ _ R)
theorem yb_Cm_signs_82 {N : Nat} {o : Option Nat} {c : Nat → Nat} {m : MS} {u : CS} {S : SG_Cm_fun} {S' : SF_Cm_fun} {G : (CS → Nat → Int32 → Int32 → Int32 → Int32 → Int32 → Option (CS × Unit))} {G' : (MS → Int32 → Int32 → Int32 → Int32 → Int32 → Option (MS × Unit))} (hS : SC_Cm_fun o S S') (hG : ∀ (c : Nat → Nat) (m : MS) (u : CS) (v2 : Int32) (v3 : Int32) (v4 : Int32) (v5 : Int32) (v6 : Int32), RP o c m u → RF 0 o VE c u (G u 35 v2 v3 v4 v5 v6) (G' m v2 v3 v4 v5 v6)) (R : RP o c m u) {v2 : Int32} {v3 : Int32} {v4 : Int32} {v5 : Int32} {v6 : Int32} {v7 : Int32} {v8 : Int32} : RF 0 o VE c u (fb_Cm_signs_82 N S G u 35 v2 v3 v4 v5 v6 v7 v8) (hb_Cm_signs_82 N S' G' m v2 v3 v4 v5 v6 v7 v8) := by
  unfold fb_Cm_signs_82 hb_Cm_signs_82
  refine rf_br ?_ ?_
  · refine rf_bo (rx_35_2 R) ?_
    refine rf_so ?_
    refine rf_ck (ox_22 R) ?_
    refine rf_bx0 (ym_Co_put R) (fun u22' u22 r22 R_u22 => ?_)
    refine rf_bo (rx_35_2 R_u22) ?_
    refine rf_so ?_
    refine rf_ck (ox_22 R_u22) ?_
    refine rf_bx0 (ym_Co_hook R_u22) (fun u25' u25 r25 R_u25 => ?_)
    refine rf_bo (gx_35_6 R_u25) ?_
    exact (yb_Cm_signs_198 hS hG R_u25)
  · refine rf_br ?_ ?_
    · refine rf_br ?_ ?_
      · refine rf_ck (ox_35 R) ?_
        refine rf_bx0 (ym_Cm_forget R) (fun u16' u16 r16 R_u16 => ?_)
        refine rf_bo (rx_35_2 R_u16) ?_
        refine rf_so ?_
        refine rf_ck (ox_22 R_u16) ?_
        refine rf_bx0 (ym_Co_arrive R_u16) (fun u18' u18 r18 R_u18 => ?_)
        exact (yb_Cm_signs_198 hS hG R_u18)
      · refine rf_br ?_ ?_
        · refine rf_ck (ox_35 R) ?_
          refine rf_bx0 (ym_Cm_forget R) (fun u12' u12 r12 R_u12 => ?_)
          refine rf_bo (rx_35_2 R_u12) ?_
          refine rf_so ?_
          refine rf_ck (ox_22 R_u12) ?_
          refine rf_bx0 (ym_Co_arrive R_u12) (fun u14' u14 r14 R_u14 => ?_)
          exact (yb_Cm_signs_198 hS hG R_u14)
        · refine rf_bo (rx_35_1 R) ?_
          refine rf_so ?_
          refine rf_bo (rx_15_1 R) ?_
          refine rf_so ?_
          refine rf_ai (ax_17 R) ?_
          refine rf_ck (ox_35 R) ?_
          refine rf_bx0 (ym_Cm_joining R) (fun u11' u11 r11 R_u11 => ?_)
          exact (yb_Cm_signs_198 hS hG R_u11)
    · refine rf_ck (ox_35 R) ?_
      refine rf_bx0 (hS.2.2.2.2.2.2.2.2.2.2.1 _ _ _ _ _ R) (fun u20' u20 r20 R_u20 => ?_)
      exact (yb_Cm_signs_198 hS hG R_u20)
theorem yb_Cm_signs_13 {N : Nat} {o : Option Nat} {c : Nat → Nat} {m : MS} {u : CS} {S : SG_Cm_fun} {S' : SF_Cm_fun} {G : (CS → Nat → Int32 → Int32 → Int32 → Int32 → Int32 → Option (CS × Unit))} {G' : (MS → Int32 → Int32 → Int32 → Int32 → Int32 → Option (MS × Unit))} (hS : SC_Cm_fun o S S') (hG : ∀ (c : Nat → Nat) (m : MS) (u : CS) (v2 : Int32) (v3 : Int32) (v4 : Int32) (v5 : Int32) (v6 : Int32), RP o c m u → RF 0 o VE c u (G u 35 v2 v3 v4 v5 v6) (G' m v2 v3 v4 v5 v6)) (R : RP o c m u) {v2 : Int32} {v3 : Int32} {v4 : Int32} {v5 : Int32} {v6 : Int32} : RF 0 o VE c u (fb_Cm_signs_13 N S G u 35 v2 v3 v4 v5 v6) (hb_Cm_signs_13 N S' G' m v2 v3 v4 v5 v6) := by
  unfold fb_Cm_signs_13 hb_Cm_signs_13
  refine rf_br ?_ ?_
  · exact rf_ret R rfl
  · refine rf_bo (rx_35_1 R) ?_
    refine rf_so ?_
    refine rf_bo (rx_15_0 R) ?_
    refine rf_so ?_
    refine rf_ai (ax_16 R) ?_
    refine rf_bo (rx_35_1 R) ?_
    refine rf_so ?_
    refine rf_bo (rx_15_2 R) ?_
    refine rf_so ?_
    refine rf_ai (ax_18 R) ?_
    refine rf_br ?_ ?_
    · refine rf_br ?_ ?_
      · refine rf_bo (rx_35_2 R) ?_
        refine rf_so ?_
        refine rf_ck (ox_22 R) ?_
        refine rf_bx0 (ym_Co_put R) (fun u39' u39 r39 R_u39 => ?_)
        refine rf_bo (rx_35_2 R_u39) ?_
        refine rf_so ?_
        refine rf_ck (ox_22 R_u39) ?_
        refine rf_bx0 (ym_Co_hook R_u39) (fun u42' u42 r42 R_u42 => ?_)
        refine rf_bo (gx_35_6 R_u42) ?_
        exact (yb_Cm_signs_198 hS hG R_u42)
      · exact (yb_Cm_signs_82 hS hG R)
    · exact (yb_Cm_signs_82 hS hG R)
theorem yb_Cm_signs_0 {N : Nat} {o : Option Nat} {c : Nat → Nat} {m : MS} {u : CS} {S : SG_Cm_fun} {S' : SF_Cm_fun} {G : (CS → Nat → Int32 → Int32 → Int32 → Int32 → Int32 → Option (CS × Unit))} {G' : (MS → Int32 → Int32 → Int32 → Int32 → Int32 → Option (MS × Unit))} (hS : SC_Cm_fun o S S') (hG : ∀ (c : Nat → Nat) (m : MS) (u : CS) (v2 : Int32) (v3 : Int32) (v4 : Int32) (v5 : Int32) (v6 : Int32), RP o c m u → RF 0 o VE c u (G u 35 v2 v3 v4 v5 v6) (G' m v2 v3 v4 v5 v6)) (R : RP o c m u) {v1 : Int32} : RF 0 o VE c u (fb_Cm_signs_0 N S G u 35 v1) (hb_Cm_signs_0 N S' G' m v1) := by
  unfold fb_Cm_signs_0 hb_Cm_signs_0
  exact (hG _ _ _ _ _ _ _ _ R)
theorem yg_Cm_signs {N : Nat} {o : Option Nat} {S : SG_Cm_fun} {S' : SF_Cm_fun} (hS : SC_Cm_fun o S S') : ∀ n, (∀ (c : Nat → Nat) (m : MS) (u : CS) (v2 : Int32) (v3 : Int32) (v4 : Int32) (v5 : Int32) (v6 : Int32), RP o c m u → RF 0 o VE c u ((gg_Cm_signs N S n) u 35 v2 v3 v4 v5 v6) ((hg_Cm_signs N S' n) m v2 v3 v4 v5 v6)) := by
  intro n
  induction n with
  | zero => exact fun c m u v2 v3 v4 v5 v6 R => rf_none
  | succ n ih => exact fun c m u v2 v3 v4 v5 v6 R => yb_Cm_signs_13 (N := N) hS ih R
theorem ym_Cm_signs {N : Nat} {o : Option Nat} {c : Nat → Nat} {m : MS} {u : CS} {S : SG_Cm_fun} {S' : SF_Cm_fun} (hS : SC_Cm_fun o S S') (R : RP o c m u) {v1 : Int32} : RF 0 o VE c u (fm_Cm_signs N S u 35 v1) (hm_Cm_signs N S' m v1) := yb_Cm_signs_0 (N := N) hS (yg_Cm_signs (N := N) hS N) R
theorem yb_Cm_list_93 {N : Nat} {o : Option Nat} {c : Nat → Nat} {m : MS} {u : CS} {S : SG_Cm_fun} {S' : SF_Cm_fun} (hS : SC_Cm_fun o S S') (R : RP o c m u) : RF 0 o VE c u (fb_Cm_list_93 N S () u) (hb_Cm_list_93 N S' () m) := by
  unfold fb_Cm_list_93 hb_Cm_list_93
  exact rf_ret R rfl
theorem yb_Cm_list_57 {N : Nat} {o : Option Nat} {c : Nat → Nat} {m : MS} {u : CS} {S : SG_Cm_fun} {S' : SF_Cm_fun} (hS : SC_Cm_fun o S S') (R : RP o c m u) {v1 : Int32} : RF 0 o VE c u (fb_Cm_list_57 N S () u 35 v1) (hb_Cm_list_57 N S' () m v1) := by
  unfold fb_Cm_list_57 hb_Cm_list_57
  refine rf_bo (rx_35_1 R) ?_
  refine rf_so ?_
  refine rf_bo (rx_15_3 R) ?_
  refine rf_so ?_
  refine rf_ai (ax_19 R) ?_
  refine rf_br ?_ ?_
  · exact (yb_Cm_list_93 hS R)
  · refine rf_bo (rx_35_2 R) ?_
    refine rf_so ?_
    refine rf_ck (ox_22 R) ?_
    refine rf_bx0 (ym_Co_put R) (fun u7' u7 r7 R_u7 => ?_)
    refine rf_bo (rx_35_2 R_u7) ?_
    refine rf_bo (rx_35_1 R_u7) ?_
    refine rf_so ?_
    refine rf_bo (rx_15_3 R_u7) ?_
    refine rf_so ?_
    refine rf_ai (ax_19 R_u7) ?_
    refine rf_so ?_
    refine rf_ck (ox_22 R_u7) ?_
    refine rf_bx0 (ym_Co_put R_u7) (fun u15' u15 r15 R_u15 => ?_)
    exact (yb_Cm_list_93 hS R_u15)
theorem yb_Cm_list_0 {N : Nat} {o : Option Nat} {c : Nat → Nat} {m : MS} {u : CS} {S : SG_Cm_fun} {S' : SF_Cm_fun} (hS : SC_Cm_fun o S S') (R : RP o c m u) {v1 : Int32} : RF 0 o VE c u (fb_Cm_list_0 N S () u 35 v1) (hb_Cm_list_0 N S' () m v1) := by
  unfold fb_Cm_list_0 hb_Cm_list_0
  refine rf_bo (rx_35_1 R) ?_
  refine rf_so ?_
  refine rf_bo (rx_15_2 R) ?_
  refine rf_so ?_
  refine rf_ai (ax_18 R) ?_
  refine rf_ck (ox_35 R) ?_
  refine rf_bx0 (hS.2.2.2.2.2.2.2.2.2.1 _ _ _ _ R) (fun u22' u22 r22 R_u22 => ?_)
  refine rf_bo (rx_35_1 R_u22) ?_
  refine rf_so ?_
  refine rf_bo (rx_15_4 R_u22) ?_
  refine rf_so ?_
  refine rf_ai (ax_20 R_u22) ?_
  refine rf_br ?_ ?_
  · refine rf_bo (rx_35_2 R_u22) ?_
    refine rf_so ?_
    refine rf_ck (ox_22 R_u22) ?_
    refine rf_bx0 (ym_Co_put R_u22) (fun u29' u29 r29 R_u29 => ?_)
    refine rf_ck (ox_35 R_u29) ?_
    refine rf_bx0 (ym_Cm_term R_u29) (fun u31' u31 r31 R_u31 => ?_)
    exact (yb_Cm_list_57 hS R_u31)
  · refine rf_bo (rx_35_1 R_u22) ?_
    refine rf_so ?_
    refine rf_bo (rx_15_4 R_u22) ?_
    refine rf_so ?_
    refine rf_ai (ax_20 R_u22) ?_
    refine rf_ck (ox_35 R_u22) ?_
    refine rf_bx0 (hS.2.2.2.2.2.2.2.2.2.2.1 _ _ _ _ _ R_u22) (fun u37' u37 r37 R_u37 => ?_)
    exact (yb_Cm_list_57 hS R_u37)
theorem ym_Cm_list {N : Nat} {o : Option Nat} {c : Nat → Nat} {m : MS} {u : CS} {S : SG_Cm_fun} {S' : SF_Cm_fun} (hS : SC_Cm_fun o S S') (R : RP o c m u) {v1 : Int32} : RF 0 o VE c u (fm_Cm_list N S u 35 v1) (hm_Cm_list N S' m v1) := yb_Cm_list_0 (N := N) hS R
theorem yb_Cm_row_2 {N : Nat} {o : Option Nat} {c : Nat → Nat} {m : MS} {u : CS} {S : SG_Cm_fun} {S' : SF_Cm_fun} {G : (CS → Nat → Int32 → Option (CS × Unit))} {G' : (MS → Int32 → Option (MS × Unit))} (hS : SC_Cm_fun o S S') (hG : ∀ (c : Nat → Nat) (m : MS) (u : CS) (v2 : Int32), RP o c m u → RF 0 o VE c u (G u 35 v2) (G' m v2)) (R : RP o c m u) {v2 : Int32} : RF 0 o VE c u (fb_Cm_row_2 N S G u 35 v2) (hb_Cm_row_2 N S' G' m v2) := by
  unfold fb_Cm_row_2 hb_Cm_row_2
  refine rf_br ?_ ?_
  · exact rf_ret R rfl
  · refine rf_ck (ox_35 R) ?_
    refine rf_bx0 (hS.2.2.2.2.2.2.2.2.2.2.1 _ _ _ _ _ R) (fun u1' u1 r1 R_u1 => ?_)
    refine rf_bo (rx_35_1 R_u1) ?_
    refine rf_so ?_
    refine rf_bo (rx_15_5 R_u1) ?_
    refine rf_so ?_
    refine rf_ai (ax_21 R_u1) ?_
    exact (hG _ _ _ _ R_u1)
theorem yb_Cm_row_0 {N : Nat} {o : Option Nat} {c : Nat → Nat} {m : MS} {u : CS} {S : SG_Cm_fun} {S' : SF_Cm_fun} {G : (CS → Nat → Int32 → Option (CS × Unit))} {G' : (MS → Int32 → Option (MS × Unit))} (hS : SC_Cm_fun o S S') (hG : ∀ (c : Nat → Nat) (m : MS) (u : CS) (v2 : Int32), RP o c m u → RF 0 o VE c u (G u 35 v2) (G' m v2)) (R : RP o c m u) {v1 : Int32} : RF 0 o VE c u (fb_Cm_row_0 N S G u 35 v1) (hb_Cm_row_0 N S' G' m v1) := by
  unfold fb_Cm_row_0 hb_Cm_row_0
  exact (hG _ _ _ _ R)
theorem yg_Cm_row {N : Nat} {o : Option Nat} {S : SG_Cm_fun} {S' : SF_Cm_fun} (hS : SC_Cm_fun o S S') : ∀ n, (∀ (c : Nat → Nat) (m : MS) (u : CS) (v2 : Int32), RP o c m u → RF 0 o VE c u ((gg_Cm_row N S n) u 35 v2) ((hg_Cm_row N S' n) m v2)) := by
  intro n
  induction n with
  | zero => exact fun c m u v2 R => rf_none
  | succ n ih => exact fun c m u v2 R => yb_Cm_row_2 (N := N) hS ih R
theorem ym_Cm_row {N : Nat} {o : Option Nat} {c : Nat → Nat} {m : MS} {u : CS} {S : SG_Cm_fun} {S' : SF_Cm_fun} (hS : SC_Cm_fun o S S') (R : RP o c m u) {v1 : Int32} : RF 0 o VE c u (fm_Cm_row N S u 35 v1) (hm_Cm_row N S' m v1) := yb_Cm_row_0 (N := N) hS (yg_Cm_row (N := N) hS N) R
theorem yb_Cm_expression_359 {N : Nat} {o : Option Nat} {c : Nat → Nat} {m : MS} {u : CS} {S : SG_Cm_fun} {S' : SF_Cm_fun} (hS : SC_Cm_fun o S S') (R : RP o c m u) : RF 0 o VE c u (fb_Cm_expression_359 N S () u) (hb_Cm_expression_359 N S' () m) := by
  unfold fb_Cm_expression_359 hb_Cm_expression_359
  exact rf_ret R rfl
theorem yb_Cm_expression_227 {N : Nat} {o : Option Nat} {c : Nat → Nat} {m : MS} {u : CS} {S : SG_Cm_fun} {S' : SF_Cm_fun} (hS : SC_Cm_fun o S S') (R : RP o c m u) {v1 : Int32} : RF 0 o VE c u (fb_Cm_expression_227 N S () u 35 v1) (hb_Cm_expression_227 N S' () m v1) := by
  unfold fb_Cm_expression_227 hb_Cm_expression_227
  refine rf_bo (rx_35_2 R) ?_
  refine rf_so ?_
  refine rf_ck (ox_22 R) ?_
  refine rf_bx0 (ym_Co_put R) (fun u2' u2 r2 R_u2 => ?_)
  refine rf_bo (rx_35_2 R_u2) ?_
  refine rf_bo (rx_35_1 R_u2) ?_
  refine rf_so ?_
  refine rf_bo (rx_15_2 R_u2) ?_
  refine rf_so ?_
  refine rf_ai (ax_18 R_u2) ?_
  refine rf_so ?_
  refine rf_ck (ox_22 R_u2) ?_
  refine rf_bx0 (ym_Co_put R_u2) (fun u10' u10 r10 R_u10 => ?_)
  exact (yb_Cm_expression_359 hS R_u10)
theorem yb_Cm_expression_221 {N : Nat} {o : Option Nat} {c : Nat → Nat} {m : MS} {u : CS} {S : SG_Cm_fun} {S' : SF_Cm_fun} (hS : SC_Cm_fun o S S') (R : RP o c m u) {v1 : Int32} {v3 : Int32} : RF 0 o VE c u (fb_Cm_expression_221 N S () u 35 v1 v3) (hb_Cm_expression_221 N S' () m v1 v3) := by
  unfold fb_Cm_expression_221 hb_Cm_expression_221
  refine rf_ck (ox_35 R) ?_
  refine rf_bx0 (ym_Cm_fault R) (fun u12' u12 r12 R_u12 => ?_)
  exact (yb_Cm_expression_227 hS R_u12)
theorem yb_Cm_expression_0 {N : Nat} {o : Option Nat} {c : Nat → Nat} {m : MS} {u : CS} {S : SG_Cm_fun} {S' : SF_Cm_fun} (hS : SC_Cm_fun o S S') (R : RP o c m u) {v1 : Int32} {v2 : Int32} : RF 0 o VE c u (fb_Cm_expression_0 N S () u 35 v1 v2) (hb_Cm_expression_0 N S' () m v1 v2) := by
  unfold fb_Cm_expression_0 hb_Cm_expression_0
  refine rf_bo (rx_35_1 R) ?_
  refine rf_so ?_
  refine rf_bo (rx_15_1 R) ?_
  refine rf_so ?_
  refine rf_ai (ax_17 R) ?_
  refine rf_bo (rx_35_1 R) ?_
  refine rf_so ?_
  refine rf_bo (rx_15_0 R) ?_
  refine rf_so ?_
  refine rf_ai (ax_16 R) ?_
  refine rf_br ?_ ?_
  · refine rf_bo (rx_35_2 R) ?_
    refine rf_so ?_
    refine rf_ck (ox_22 R) ?_
    refine rf_bx0 (ym_Co_put R) (fun u24' u24 r24 R_u24 => ?_)
    refine rf_bo (rx_35_1 R_u24) ?_
    refine rf_so ?_
    refine rf_bo (rx_15_2 R_u24) ?_
    refine rf_so ?_
    refine rf_ai (ax_18 R_u24) ?_
    refine rf_ck (ox_35 R_u24) ?_
    refine rf_bx0 (ym_Cm_term R_u24) (fun u31' u31 r31 R_u31 => ?_)
    exact (yb_Cm_expression_359 hS R_u31)
  · refine rf_br ?_ ?_
    · refine rf_bo (rx_35_2 R) ?_
      refine rf_so ?_
      refine rf_ck (ox_22 R) ?_
      refine rf_bx0 (ym_Co_put R) (fun u33' u33 r33 R_u33 => ?_)
      refine rf_bo (rx_35_1 R_u33) ?_
      refine rf_so ?_
      refine rf_bo (rx_15_2 R_u33) ?_
      refine rf_so ?_
      refine rf_ai (ax_18 R_u33) ?_
      refine rf_ck (ox_35 R_u33) ?_
      refine rf_bx0 (ym_Cm_term R_u33) (fun u40' u40 r40 R_u40 => ?_)
      exact (yb_Cm_expression_359 hS R_u40)
    · refine rf_br ?_ ?_
      · refine rf_bo (rx_35_1 R) ?_
        refine rf_so ?_
        refine rf_bo (rx_15_2 R) ?_
        refine rf_so ?_
        refine rf_ai (ax_18 R) ?_
        refine rf_br ?_ ?_
        · exact (yb_Cm_expression_221 hS R)
        · refine rf_bo (rx_35_1 R) ?_
          refine rf_so ?_
          refine rf_bo (rx_15_2 R) ?_
          refine rf_so ?_
          refine rf_ai (ax_18 R) ?_
          refine rf_ck (ox_35 R) ?_
          refine rf_bx0 (ym_Cm_isBound R) (fun u51' u51 r51 R_u51 => ?_)
          refine rf_br ?_ ?_
          · exact (yb_Cm_expression_221 hS R_u51)
          · exact (yb_Cm_expression_227 hS R_u51)
      · refine rf_br ?_ ?_
        · refine rf_ck (ox_35 R) ?_
          refine rf_bx0 (ym_Cm_notInGuard R) (fun u52' u52 r52 R_u52 => ?_)
          refine rf_bo (rx_35_2 R_u52) ?_
          refine rf_so ?_
          refine rf_ck (ox_22 R_u52) ?_
          refine rf_bx0 (ym_Co_put R_u52) (fun u54' u54 r54 R_u54 => ?_)
          refine rf_ck (ox_35 R_u54) ?_
          refine rf_bx0 (ym_Cm_string R_u54) (fun u56' u56 r56 R_u56 => ?_)
          exact (yb_Cm_expression_359 hS R_u56)
        · refine rf_br ?_ ?_
          · refine rf_bo (rx_35_1 R) ?_
            refine rf_so ?_
            refine rf_bo (rx_15_2 R) ?_
            refine rf_so ?_
            refine rf_ai (ax_18 R) ?_
            refine rf_ck (ox_35 R) ?_
            refine rf_bx0 (hS.2.2.2.2.2.2.2.2.2.2.1 _ _ _ _ _ R) (fun u62' u62 r62 R_u62 => ?_)
            exact (yb_Cm_expression_359 hS R_u62)
          · refine rf_br ?_ ?_
            · refine rf_bo (rx_35_1 R) ?_
              refine rf_so ?_
              refine rf_bo (rx_15_2 R) ?_
              refine rf_so ?_
              refine rf_ai (ax_18 R) ?_
              refine rf_ck (ox_35 R) ?_
              refine rf_bx0 (hS.2.2.2.2.2.2.2.2.2.1 _ _ _ _ R) (fun u68' u68 r68 R_u68 => ?_)
              refine rf_bo (rx_35_2 R_u68) ?_
              refine rf_so ?_
              refine rf_ck (ox_22 R_u68) ?_
              refine rf_bx0 (ym_Co_put R_u68) (fun u70' u70 r70 R_u70 => ?_)
              refine rf_bo (rx_35_2 R_u70) ?_
              refine rf_bo (rx_35_1 R_u70) ?_
              refine rf_so ?_
              refine rf_bo (rx_15_3 R_u70) ?_
              refine rf_so ?_
              refine rf_ai (ax_19 R_u70) ?_
              refine rf_so ?_
              refine rf_ck (ox_22 R_u70) ?_
              refine rf_bx0 (ym_Co_put R_u70) (fun u78' u78 r78 R_u78 => ?_)
              exact (yb_Cm_expression_359 hS R_u78)
            · refine rf_br ?_ ?_
              · refine rf_ck (ox_35 R) ?_
                refine rf_bx0 (hS.2.2.2.2.2.2.2.2.1 _ _ _ _ R) (fun u80' u80 r80 R_u80 => ?_)
                exact (yb_Cm_expression_359 hS R_u80)
              · refine rf_br ?_ ?_
                · refine rf_ck (ox_35 R) ?_
                  refine rf_bx0 (hS.2.2.2.2.1 _ _ _ _ _ R) (fun u81' u81 r81 R_u81 => ?_)
                  exact (yb_Cm_expression_359 hS R_u81)
                · refine rf_br ?_ ?_
                  · refine rf_ck (ox_35 R) ?_
                    refine rf_bx0 (hS.2.2.2.2.1 _ _ _ _ _ R) (fun u82' u82 r82 R_u82 => ?_)
                    exact (yb_Cm_expression_359 hS R_u82)
                  · refine rf_br ?_ ?_
                    · refine rf_ck (ox_35 R) ?_
                      refine rf_bx0 (hS.2.2.2.2.1 _ _ _ _ _ R) (fun u83' u83 r83 R_u83 => ?_)
                      exact (yb_Cm_expression_359 hS R_u83)
                    · refine rf_br ?_ ?_
                      · refine rf_ck (ox_35 R) ?_
                        refine rf_bx0 (hS.2.2.2.2.1 _ _ _ _ _ R) (fun u84' u84 r84 R_u84 => ?_)
                        exact (yb_Cm_expression_359 hS R_u84)
                      · refine rf_br ?_ ?_
                        · refine rf_ck (ox_35 R) ?_
                          refine rf_bx0 (hS.2.2.2.2.1 _ _ _ _ _ R) (fun u85' u85 r85 R_u85 => ?_)
                          exact (yb_Cm_expression_359 hS R_u85)
                        · refine rf_br ?_ ?_
                          · refine rf_ck (ox_35 R) ?_
                            refine rf_bx0 (hS.2.2.2.2.1 _ _ _ _ _ R) (fun u86' u86 r86 R_u86 => ?_)
                            exact (yb_Cm_expression_359 hS R_u86)
                          · refine rf_br ?_ ?_
                            · refine rf_ck (ox_35 R) ?_
                              refine rf_bx0 (hS.2.2.2.2.2.2.1 _ _ _ _ _ R) (fun u87' u87 r87 R_u87 => ?_)
                              exact (yb_Cm_expression_359 hS R_u87)
                            · refine rf_br ?_ ?_
                              · refine rf_ck (ox_35 R) ?_
                                refine rf_bx0 (hS.2.2.2.2.2.1 _ _ _ _ _ R) (fun u88' u88 r88 R_u88 => ?_)
                                exact (yb_Cm_expression_359 hS R_u88)
                              · refine rf_br ?_ ?_
                                · refine rf_ck (ox_35 R) ?_
                                  refine rf_bx0 (hS.2.2.2.2.1 _ _ _ _ _ R) (fun u89' u89 r89 R_u89 => ?_)
                                  exact (yb_Cm_expression_359 hS R_u89)
                                · refine rf_br ?_ ?_
                                  · refine rf_ck (ox_35 R) ?_
                                    refine rf_bx0 (hS.2.2.2.2.1 _ _ _ _ _ R) (fun u90' u90 r90 R_u90 => ?_)
                                    exact (yb_Cm_expression_359 hS R_u90)
                                  · refine rf_br ?_ ?_
                                    · refine rf_ck (ox_35 R) ?_
                                      refine rf_bx0 (hS.2.2.2.2.1 _ _ _ _ _ R) (fun u91' u91 r91 R_u91 => ?_)
                                      exact (yb_Cm_expression_359 hS R_u91)
                                    · refine rf_br ?_ ?_
                                      · refine rf_ck (ox_35 R) ?_
                                        refine rf_bx0 (hS.2.2.2.2.1 _ _ _ _ _ R) (fun u92' u92 r92 R_u92 => ?_)
                                        exact (yb_Cm_expression_359 hS R_u92)
                                      · refine rf_br ?_ ?_
                                        · refine rf_ck (ox_35 R) ?_
                                          refine rf_bx0 (hS.2.2.2.2.1 _ _ _ _ _ R) (fun u93' u93 r93 R_u93 => ?_)
                                          exact (yb_Cm_expression_359 hS R_u93)
                                        · refine rf_br ?_ ?_
                                          · refine rf_ck (ox_35 R) ?_
                                            refine rf_bx0 (hS.2.2.2.2.1 _ _ _ _ _ R) (fun u94' u94 r94 R_u94 => ?_)
                                            exact (yb_Cm_expression_359 hS R_u94)
                                          · refine rf_br ?_ ?_
                                            · refine rf_bo (rx_35_1 R) ?_
                                              refine rf_so ?_
                                              refine rf_bo (rx_15_2 R) ?_
                                              refine rf_so ?_
                                              refine rf_ai (ax_18 R) ?_
                                              refine rf_ck (ox_35 R) ?_
                                              refine rf_bx0 (hS.2.2.2.2.2.2.2.1 _ _ _ _ R) (fun u100' u100 r100 R_u100 => ?_)
                                              exact (yb_Cm_expression_359 hS R_u100)
                                            · refine rf_ck (ox_35 R) ?_
                                              refine rf_bx0 (hS.2.2.2.2.1 _ _ _ _ _ R) (fun u101' u101 r101 R_u101 => ?_)
                                              exact (yb_Cm_expression_359 hS R_u101)
theorem ym_Cm_expression {N : Nat} {o : Option Nat} {c : Nat → Nat} {m : MS} {u : CS} {S : SG_Cm_fun} {S' : SF_Cm_fun} (hS : SC_Cm_fun o S S') (R : RP o c m u) {v1 : Int32} {v2 : Int32} : RF 0 o VE c u (fm_Cm_expression N S u 35 v1 v2) (hm_Cm_expression N S' m v1 v2) := yb_Cm_expression_0 (N := N) hS R
