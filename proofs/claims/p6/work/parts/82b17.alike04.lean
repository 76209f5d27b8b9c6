set_option maxRecDepth 100000
theorem yb_Pa_unit_69 {N : Nat} {o : Option Nat} {c : Nat → Nat} {m : MS} {u : CS} {S : SG_Pa_matched} {S' : SF_Pa_matched} (hS : SC_Pa_matched o S S') (R : RP o c m u) {v2 : Int32} {t1 : Int32} : RF 0 o VE c u (fb_Pa_unit_69 N S () u 33 v2 (some 15) t1) (hb_Pa_unit_69 N S' () m v2 t1) := by
  unfold fb_Pa_unit_69 hb_Pa_unit_69
  refine rf_ck (ox_33 R) ?_
  refine rf_bT (hS.2.2.2.2.2.2.2.2.2.2.2.2.1 _ _ _ R) (fun u1' u1 r1 R_u1 => ?_)
  refine rf_so ?_
  refine rf_ck (ox_15 R_u1) ?_
  refine rf_bx0 (ym_Tr_add R_u1) (fun u2' u2 r2 R_u2 => ?_)
  refine rf_bo (gx_33_6 R_u2) ?_
  refine rf_w (px_33_6 R_u2) (fun w5' w5 R_w5 => ?_)
  exact rf_ret R_w5 rfl
theorem yb_Pa_unit_26 {N : Nat} {o : Option Nat} {c : Nat → Nat} {m : MS} {u : CS} {S : SG_Pa_matched} {S' : SF_Pa_matched} (hS : SC_Pa_matched o S S') (R : RP o c m u) {v1 : Int32} : RF 0 o VE c u (fb_Pa_unit_26 N S () u 33 v1) (hb_Pa_unit_26 N S' () m v1) := by
  unfold fb_Pa_unit_26 hb_Pa_unit_26
  refine rf_bo (gx_33_5 R) ?_
  refine rf_bo (gx_33_5 R) ?_
  refine rf_w (px_33_5 R) (fun w8' w8 R_w8 => ?_)
  refine rf_ck (ox_33 R_w8) ?_
  refine rf_bT (ym_Pa_look R_w8) (fun u9' u9 r9 R_u9 => ?_)
  refine rf_bx0 (ym_Pa_beginsUnit R_u9) (fun u10' u10 r10 R_u10 => ?_)
  refine rf_ck (ox_33 R_u10) ?_
  refine rf_bT (ym_Pa_opens R_u10) (fun u11' u11 r11 R_u11 => ?_)
  refine rf_bo (rx_33_1 R_u11) ?_
  refine rf_br ?_ ?_
  · exact (yb_Pa_unit_69 hS R_u11)
  · exact (yb_Pa_unit_69 hS R_u11)
theorem yb_Pa_unit_0 {N : Nat} {o : Option Nat} {c : Nat → Nat} {m : MS} {u : CS} {S : SG_Pa_matched} {S' : SF_Pa_matched} (hS : SC_Pa_matched o S S') (R : RP o c m u) : RF 0 o VE c u (fb_Pa_unit_0 N S () u 33) (hb_Pa_unit_0 N S' () m) := by
  unfold fb_Pa_unit_0 hb_Pa_unit_0
  refine rf_ck (ox_33 R) ?_
  refine rf_bT (ym_Pa_look R) (fun u13' u13 r13 R_u13 => ?_)
  refine rf_br ?_ ?_
  · exact (yb_Pa_unit_26 hS R_u13)
  · refine rf_br ?_ ?_
    · exact (yb_Pa_unit_26 hS R_u13)
    · refine rf_ck (ox_33 R_u13) ?_
      refine rf_bT (hS.2.2.2.2.2.2.2.2.2.2.2.1 _ _ _ R_u13) (fun u14' u14 r14 R_u14 => ?_)
      refine rf_ck (ox_33 R_u14) ?_
      refine rf_bT (hS.2.1 _ _ _ _ R_u14) (fun u15' u15 r15 R_u15 => ?_)
      exact rf_ret R_u15 rfl
theorem ym_Pa_unit {N : Nat} {o : Option Nat} {c : Nat → Nat} {m : MS} {u : CS} {S : SG_Pa_matched} {S' : SF_Pa_matched} (hS : SC_Pa_matched o S S') (R : RP o c m u) : RF 0 o VE c u (fm_Pa_unit N S u 33) (hm_Pa_unit N S' m) := yb_Pa_unit_0 (N := N) hS R
theorem yb_Pa_signed_155 {N : Nat} {o : Option Nat} {c : Nat → Nat} {m : MS} {u : CS} {S : SG_Pa_matched} {S' : SF_Pa_matched} {G : (CS → Nat → Int32 → Int32 → Int32 → Int32 → Int32 → Int32 → Option (CS × (Int32 ⊕ Nat)))} {G' : (MS → Int32 → Int32 → Int32 → Int32 → Int32 → Int32 → Option (MS × (Int32 ⊕ Nat)))} (hS : SC_Pa_matched o S S') (hG : ∀ (c : Nat → Nat) (m : MS) (u : CS) (v1 : Int32) (v2 : Int32) (v3 : Int32) (v4 : Int32) (v5 : Int32) (v6 : Int32), RP o c m u → RF 0 o VE c u (G u 33 v1 v2 v3 v4 v5 v6) (G' m v1 v2 v3 v4 v5 v6)) (R : RP o c m u) {v1 : Int32} {v2 : Int32} {v3 : Int32} {v4 : Int32} {v5 : Int32} : RF 0 o VE c u (fb_Pa_signed_155 N S G u 33 v1 v2 v3 v4 v5) (hb_Pa_signed_155 N S' G' m v1 v2 v3 v4 v5) := by
  unfold fb_Pa_signed_155 hb_Pa_signed_155
  refine rf_br ?_ ?_
  · refine rf_ck (ox_33 R) ?_
    refine rf_bT (ym_Pa_closeSigns R) (fun u1' u1 r1 R_u1 => ?_)
    refine rf_bo (rx_33_1 R_u1) ?_
    refine rf_so ?_
    refine rf_ck (ox_15 R_u1) ?_
    refine rf_bx0 (ym_Tr_add R_u1) (fun u3' u3 r3 R_u3 => ?_)
    exact rf_ret R_u3 rfl
  · exact rf_ret R rfl
theorem yb_Pa_signed_127 {N : Nat} {o : Option Nat} {c : Nat → Nat} {m : MS} {u : CS} {S : SG_Pa_matched} {S' : SF_Pa_matched} {G : (CS → Nat → Int32 → Int32 → Int32 → Int32 → Int32 → Int32 → Option (CS × (Int32 ⊕ Nat)))} {G' : (MS → Int32 → Int32 → Int32 → Int32 → Int32 → Int32 → Option (MS × (Int32 ⊕ Nat)))} (hS : SC_Pa_matched o S S') (hG : ∀ (c : Nat → Nat) (m : MS) (u : CS) (v1 : Int32) (v2 : Int32) (v3 : Int32) (v4 : Int32) (v5 : Int32) (v6 : Int32), RP o c m u → RF 0 o VE c u (G u 33 v1 v2 v3 v4 v5 v6) (G' m v1 v2 v3 v4 v5 v6)) (R : RP o c m u) {v1 : Int32} {v2 : Int32} {v3 : Int32} {v4 : Int32} {v5 : Int32} {v6 : Int32} : RF 0 o VE c u (fb_Pa_signed_127 N S G u 33 v1 v2 v3 v4 v5 v6) (hb_Pa_signed_127 N S' G' m v1 v2 v3 v4 v5 v6) := by
  unfold fb_Pa_signed_127 hb_Pa_signed_127
  refine rf_bo (gx_33_5 R) ?_
  refine rf_w (px_33_5 R) (fun w6' w6 R_w6 => ?_)
  refine rf_ck (ox_33 R_w6) ?_
  refine rf_bT (hS.2.2.2.2.2.2.2.2.2.2.2.2.1 _ _ _ R_w6) (fun u7' u7 r7 R_u7 => ?_)
  refine rf_ck (ox_33 R_u7) ?_
  refine rf_bx0 (ym_Pa_chain R_u7) (fun u8' u8 r8 R_u8 => ?_)
  exact (hG _ _ _ _ _ _ _ _ _ R_u8)
theorem yb_Pa_signed_102 {N : Nat} {o : Option Nat} {c : Nat → Nat} {m : MS} {u : CS} {S : SG_Pa_matched} {S' : SF_Pa_matched} {G : (CS → Nat → Int32 → Int32 → Int32 → Int32 → Int32 → Int32 → Option (CS × (Int32 ⊕ Nat)))} {G' : (MS → Int32 → Int32 → Int32 → Int32 → Int32 → Int32 → Option (MS × (Int32 ⊕ Nat)))} (hS : SC_Pa_matched o S S') (hG : ∀ (c : Nat → Nat) (m : MS) (u : CS) (v1 : Int32) (v2 : Int32) (v3 : Int32) (v4 : Int32) (v5 : Int32) (v6 : Int32), RP o c m u → RF 0 o VE c u (G u 33 v1 v2 v3 v4 v5 v6) (G' m v1 v2 v3 v4 v5 v6)) (R : RP o c m u) {v1 : Int32} {v2 : Int32} {v3 : Int32} {v4 : Int32} {v5 : Int32} {v6 : Int32} {v7 : Int32} : RF 0 o VE c u (fb_Pa_signed_102 N S G u 33 v1 v2 v3 v4 v5 v6 v7) (hb_Pa_signed_102 N S' G' m v1 v2 v3 v4 v5 v6 v7) := by
  unfold fb_Pa_signed_102 hb_Pa_signed_102
  refine rf_bo (rx_33_1 R) ?_
  refine rf_bo (gx_33_5 R) ?_
  refine rf_so ?_
  refine rf_ck (ox_15 R) ?_
  refine rf_bx0 (ym_Tr_add R) (fun u11' u11 r11 R_u11 => ?_)
  refine rf_ck (ox_33 R_u11) ?_
  refine rf_bx0 (ym_Pa_chain R_u11) (fun u13' u13 r13 R_u13 => ?_)
  exact (yb_Pa_signed_127 hS hG R_u13)
theorem yb_Pa_signed_24 {N : Nat} {o : Option Nat} {c : Nat → Nat} {m : MS} {u : CS} {S : SG_Pa_matched} {S' : SF_Pa_matched} {G : (CS → Nat → Int32 → Int32 → Int32 → Int32 → Int32 → Int32 → Option (CS × (Int32 ⊕ Nat)))} {G' : (MS → Int32 → Int32 → Int32 → Int32 → Int32 → Int32 → Option (MS × (Int32 ⊕ Nat)))} (hS : SC_Pa_matched o S S') (hG : ∀ (c : Nat → Nat) (m : MS) (u : CS) (v1 : Int32) (v2 : Int32) (v3 : Int32) (v4 : Int32) (v5 : Int32) (v6 : Int32), RP o c m u → RF 0 o VE c u (G u 33 v1 v2 v3 v4 v5 v6) (G' m v1 v2 v3 v4 v5 v6)) (R : RP o c m u) {v1 : Int32} {v2 : Int32} {v3 : Int32} {v4 : Int32} {v5 : Int32} {v6 : Int32} : RF 0 o VE c u (fb_Pa_signed_24 N S G u 33 v1 v2 v3 v4 v5 v6) (hb_Pa_signed_24 N S' G' m v1 v2 v3 v4 v5 v6) := by
  unfold fb_Pa_signed_24 hb_Pa_signed_24
  refine rf_br ?_ ?_
  · exact (yb_Pa_signed_155 hS hG R)
  · refine rf_ck (ox_33 R) ?_
    refine rf_bT (ym_Pa_look R) (fun u14' u14 r14 R_u14 => ?_)
    refine rf_bx0 (ym_Pa_rank R_u14) (fun u15' u15 r15 R_u15 => ?_)
    refine rf_br ?_ ?_
    · exact (yb_Pa_signed_155 hS hG R_u15)
    · refine rf_ck (ox_33 R_u15) ?_
      refine rf_bT (ym_Pa_look R_u15) (fun u16' u16 r16 R_u16 => ?_)
      refine rf_bx0 (ym_Pa_rank R_u16) (fun u17' u17 r17 R_u17 => ?_)
      refine rf_ck (ox_33 R_u17) ?_
      refine rf_bT (ym_Pa_closeSigns R_u17) (fun u18' u18 r18 R_u18 => ?_)
      refine rf_bo (rx_33_3 R_u18) ?_
      refine rf_bo (gx_33_4 R_u18) ?_
      refine rf_bo (gx_33_5 R_u18) ?_
      refine rf_so ?_
      refine rf_wk (sx_34 R_u18) (fun w23' w23 R_w23 => ?_)
      refine rf_bo (gx_33_4 R_w23) ?_
      refine rf_w (px_33_4 R_w23) (fun w25' w25 R_w25 => ?_)
      refine rf_br ?_ ?_
      · exact (yb_Pa_signed_102 hS hG R_w25)
      · refine rf_br ?_ ?_
        · exact (yb_Pa_signed_102 hS hG R_w25)
        · exact (yb_Pa_signed_127 hS hG R_w25)
theorem yb_Pa_signed_0 {N : Nat} {o : Option Nat} {c : Nat → Nat} {m : MS} {u : CS} {S : SG_Pa_matched} {S' : SF_Pa_matched} {G : (CS → Nat → Int32 → Int32 → Int32 → Int32 → Int32 → Int32 → Option (CS × (Int32 ⊕ Nat)))} {G' : (MS → Int32 → Int32 → Int32 → Int32 → Int32 → Int32 → Option (MS × (Int32 ⊕ Nat)))} (hS : SC_Pa_matched o S S') (hG : ∀ (c : Nat → Nat) (m : MS) (u : CS) (v1 : Int32) (v2 : Int32) (v3 : Int32) (v4 : Int32) (v5 : Int32) (v6 : Int32), RP o c m u → RF 0 o VE c u (G u 33 v1 v2 v3 v4 v5 v6) (G' m v1 v2 v3 v4 v5 v6)) (R : RP o c m u) : RF 0 o VE c u (fb_Pa_signed_0 N S G u 33) (hb_Pa_signed_0 N S' G' m) := by
  unfold fb_Pa_signed_0 hb_Pa_signed_0
  refine rf_bo (gx_33_5 R) ?_
  refine rf_bo (gx_33_4 R) ?_
  refine rf_ck (ox_33 R) ?_
  refine rf_bT (hS.2.2.2.2.2.2.2.2.2.2.2.2.1 _ _ _ R) (fun u28' u28 r28 R_u28 => ?_)
  exact (hG _ _ _ _ _ _ _ _ _ R_u28)
theorem yg_Pa_signed {N : Nat} {o : Option Nat} {S : SG_Pa_matched} {S' : SF_Pa_matched} (hS : SC_Pa_matched o S S') : ∀ n, (∀ (c : Nat → Nat) (m : MS) (u : CS) (v1 : Int32) (v2 : Int32) (v3 : Int32) (v4 : Int32) (v5 : Int32) (v6 : Int32), RP o c m u → RF 0 o VE c u ((gg_Pa_signed N S n) u 33 v1 v2 v3 v4 v5 v6) ((hg_Pa_signed N S' n) m v1 v2 v3 v4 v5 v6)) := by
  intro n
  induction n with
  | zero => exact fun c m u v1 v2 v3 v4 v5 v6 R => rf_none
  | succ n ih => exact fun c m u v1 v2 v3 v4 v5 v6 R => yb_Pa_signed_24 (N := N) hS ih R
theorem ym_Pa_signed {N : Nat} {o : Option Nat} {c : Nat → Nat} {m : MS} {u : CS} {S : SG_Pa_matched} {S' : SF_Pa_matched} (hS : SC_Pa_matched o S S') (R : RP o c m u) : RF 0 o VE c u (fm_Pa_signed N S u 33) (hm_Pa_signed N S' m) := yb_Pa_signed_0 (N := N) hS (yg_Pa_signed (N := N) hS N) R
theorem yb_Pa_expression_84 {N : Nat} {o : Option Nat} {c : Nat → Nat} {m : MS} {u : CS} {S : SG_Pa_matched} {S' : SF_Pa_matched} (hS : SC_Pa_matched o S S') (R : RP o c m u) {v4 : Int32} : RF 0 o VE c u (fb_Pa_expression_84 N S () u 33 v4) (hb_Pa_expression_84 N S' () m v4) := by
  unfold fb_Pa_expression_84 hb_Pa_expression_84
  refine rf_bo (gx_33_6 R) ?_
  refine rf_w (px_33_6 R) (fun w2' w2 R_w2 => ?_)
  exact rf_ret R_w2 rfl
theorem yb_Pa_expression_28 {N : Nat} {o : Option Nat} {c : Nat → Nat} {m : MS} {u : CS} {S : SG_Pa_matched} {S' : SF_Pa_matched} (hS : SC_Pa_matched o S S') (R : RP o c m u) {v2 : Int32} {t1 : Int32} : RF 0 o VE c u (fb_Pa_expression_28 N S () u 33 v2 33 t1) (hb_Pa_expression_28 N S' () m v2 t1) := by
  unfold fb_Pa_expression_28 hb_Pa_expression_28
  refine rf_ck (ox_33 R) ?_
  refine rf_bT (ym_Pa_opens R) (fun u3' u3 r3 R_u3 => ?_)
  refine rf_bo (gx_33_5 R_u3) ?_
  refine rf_br ?_ ?_
  · refine rf_bo (gx_33_5 R_u3) ?_
    refine rf_w (px_33_5 R_u3) (fun w8' w8 R_w8 => ?_)
    refine rf_bo (rx_33_1 R_w8) ?_
    refine rf_ck (ox_33 R_w8) ?_
    refine rf_bT (hS.2.2.2.2.2.2.2.2.2.2.2.2.2.2.1 _ _ _ _ R_w8) (fun u10' u10 r10 R_u10 => ?_)
    refine rf_so ?_
    refine rf_ck (ox_15 R_u10) ?_
    refine rf_bx0 (ym_Tr_add R_u10) (fun u11' u11 r11 R_u11 => ?_)
    exact (yb_Pa_expression_84 hS R_u11)
  · refine rf_ck (ox_33 R_u3) ?_
    refine rf_bT (hS.2.2.2.2.2.2.2.2.2.2.2.2.2.1 _ _ _ R_u3) (fun u5' u5 r5 R_u5 => ?_)
    refine rf_ck (ox_33 R_u5) ?_
    refine rf_bT (hS.1 _ _ _ _ R_u5) (fun u6' u6 r6 R_u6 => ?_)
    exact (yb_Pa_expression_84 hS R_u6)
theorem yb_Pa_expression_27 {N : Nat} {o : Option Nat} {c : Nat → Nat} {m : MS} {u : CS} {S : SG_Pa_matched} {S' : SF_Pa_matched} (hS : SC_Pa_matched o S S') (R : RP o c m u) {v2 : Int32} : RF 0 o VE c u (fb_Pa_expression_27 N S () u 33 v2 33) (hb_Pa_expression_27 N S' () m v2) := by
  unfold fb_Pa_expression_27 hb_Pa_expression_27
  exact (yb_Pa_expression_28 hS R)
theorem yb_Pa_expression_23 {N : Nat} {o : Option Nat} {c : Nat → Nat} {m : MS} {u : CS} {S : SG_Pa_matched} {S' : SF_Pa_matched} (hS : SC_Pa_matched o S S') (R : RP o c m u) {v2 : Int32} : RF 0 o VE c u (fb_Pa_expression_23 N S () u 33 v2 33) (hb_Pa_expression_23 N S' () m v2) := by
  unfold fb_Pa_expression_23 hb_Pa_expression_23
  exact (yb_Pa_expression_28 hS R)
theorem yb_Pa_expression_0 {N : Nat} {o : Option Nat} {c : Nat → Nat} {m : MS} {u : CS} {S : SG_Pa_matched} {S' : SF_Pa_matched} (hS : SC_Pa_matched o S S') (R : RP o c m u) {v1 : Int32} : RF 0 o VE c u (fb_Pa_expression_0 N S () u 33 v1) (hb_Pa_expression_0 N S' () m v1) := by
  unfold fb_Pa_expression_0 hb_Pa_expression_0
  refine rf_ck (ox_33 R) ?_
  refine rf_bT (ym_Pa_look R) (fun u13' u13 r13 R_u13 => ?_)
  refine rf_bx0 (ym_Pa_beginsUnit R_u13) (fun u14' u14 r14 R_u14 => ?_)
  refine rf_br ?_ ?_
  · refine rf_br ?_ ?_
    · exact (yb_Pa_expression_27 hS R_u14)
    · refine rf_br ?_ ?_
      · exact (yb_Pa_expression_23 hS R_u14)
      · exact (yb_Pa_expression_27 hS R_u14)
  · exact (yb_Pa_expression_23 hS R_u14)
theorem ym_Pa_expression {N : Nat} {o : Option Nat} {c : Nat → Nat} {m : MS} {u : CS} {S : SG_Pa_matched} {S' : SF_Pa_matched} (hS : SC_Pa_matched o S S') (R : RP o c m u) {v1 : Int32} : RF 0 o VE c u (fm_Pa_expression N S u 33 v1) (hm_Pa_expression N S' m v1) := yb_Pa_expression_0 (N := N) hS R
theorem yb_Pa_list_80 {N : Nat} {o : Option Nat} {c : Nat → Nat} {m : MS} {u : CS} {S : SG_Pa_matched} {S' : SF_Pa_matched} (hS : SC_Pa_matched o S S') (R : RP o c m u) {v2 : Int32} {v3 : Int32} {v4 : Int32} : RF 0 o VE c u (fb_Pa_list_80 N S () u 33 v2 v3 v4) (hb_Pa_list_80 N S' () m v2 v3 v4) := by
  unfold fb_Pa_list_80 hb_Pa_list_80
  refine rf_ck (ox_33 R) ?_
  refine rf_bT (ym_Pa_need R) (fun u1' u1 r1 R_u1 => ?_)
  refine rf_bo (rx_33_1 R_u1) ?_
  refine rf_bo (rx_33_1 R_u1) ?_
  refine rf_so ?_
  refine rf_ck (ox_15 R_u1) ?_
  refine rf_bx0 (ym_Tr_length R_u1) (fun u4' u4 r4 R_u4 => ?_)
  refine rf_so ?_
  refine rf_ck (ox_15 R_u4) ?_
  refine rf_bx0 (ym_Tr_add R_u4) (fun u6' u6 r6 R_u6 => ?_)
  exact rf_ret R_u6 rfl
theorem yb_Pa_list_78 {N : Nat} {o : Option Nat} {c : Nat → Nat} {m : MS} {u : CS} {S : SG_Pa_matched} {S' : SF_Pa_matched} (hS : SC_Pa_matched o S S') (R : RP o c m u) {v2 : Int32} {v3 : Int32} {t0 : Int32} : RF 0 o VE c u (fb_Pa_list_78 N S () u 33 v2 v3 t0) (hb_Pa_list_78 N S' () m v2 v3 t0) := by
  unfold fb_Pa_list_78 hb_Pa_list_78
  exact (yb_Pa_list_80 hS R)
theorem yb_Pa_list_35 {N : Nat} {o : Option Nat} {c : Nat → Nat} {m : MS} {u : CS} {S : SG_Pa_matched} {S' : SF_Pa_matched} (hS : SC_Pa_matched o S S') (R : RP o c m u) {v1 : Int32} {v2 : Int32} {t0 : Int32} : RF 0 o VE c u (fb_Pa_list_35 N S () u 33 v1 v2 t0) (hb_Pa_list_35 N S' () m v1 v2 t0) := by
  unfold fb_Pa_list_35 hb_Pa_list_35
  refine rf_br ?_ ?_
  · exact (yb_Pa_list_80 hS R)
  · refine rf_ck (ox_33 R) ?_
    refine rf_bT (ym_Pa_look R) (fun u8' u8 r8 R_u8 => ?_)
    refine rf_br ?_ ?_
    · refine rf_bo (gx_33_5 R_u8) ?_
      refine rf_w (px_33_5 R_u8) (fun w10' w10 R_w10 => ?_)
      refine rf_br ?_ ?_
      · refine rf_ck (ox_33 R_w10) ?_
        refine rf_bT (hS.2.2.2.2.2.2.2.2.2.2.2.2.2.2.1 _ _ _ _ R_w10) (fun u11' u11 r11 R_u11 => ?_)
        exact (yb_Pa_list_78 hS R_u11)
      · refine rf_ck (ox_33 R_w10) ?_
        refine rf_bT (hS.2.2.2.2.2.2.2.2.2.2.2.2.2.2.2.2.2.1 _ _ _ R_w10) (fun u12' u12 r12 R_u12 => ?_)
        exact (yb_Pa_list_78 hS R_u12)
    · exact (yb_Pa_list_80 hS R_u8)
theorem yb_Pa_list_0 {N : Nat} {o : Option Nat} {c : Nat → Nat} {m : MS} {u : CS} {S : SG_Pa_matched} {S' : SF_Pa_matched} (hS : SC_Pa_matched o S S') (R : RP o c m u) {v1 : Int32} : RF 0 o VE c u (fb_Pa_list_0 N S () u 33 v1) (hb_Pa_list_0 N S' () m v1) := by
  unfold fb_Pa_list_0 hb_Pa_list_0
  refine rf_bo (gx_33_5 R) ?_
  refine rf_bo (gx_33_5 R) ?_
  refine rf_w (px_33_5 R) (fun w15' w15 R_w15 => ?_)
  refine rf_ck (ox_33 R_w15) ?_
  refine rf_bT (ym_Pa_look R_w15) (fun u16' u16 r16 R_u16 => ?_)
  refine rf_br ?_ ?_
  · exact (yb_Pa_list_35 hS R_u16)
  · refine rf_ck (ox_33 R_u16) ?_
    refine rf_bT (hS.2.2.2.2.2.2.2.2.2.2.2.2.2.2.2.2.2.2.1 _ _ _ _ _ R_u16) (fun u17' u17 r17 R_u17 => ?_)
    exact (yb_Pa_list_35 hS R_u17)
theorem ym_Pa_list {N : Nat} {o : Option Nat} {c : Nat → Nat} {m : MS} {u : CS} {S : SG_Pa_matched} {S' : SF_Pa_matched} (hS : SC_Pa_matched o S S') (R : RP o c m u) {v1 : Int32} : RF 0 o VE c u (fm_Pa_list N S u 33 v1) (hm_Pa_list N S' m v1) := yb_Pa_list_0 (N := N) hS R
theorem yb_Pa_tuple_0 {N : Nat} {o : Option Nat} {c : Nat → Nat} {m : MS} {u : CS} {S : SG_Pa_matched} {S' : SF_Pa_matched} (hS : SC_Pa_matched o S S') (R : RP o c m u) {v1 : Int32} : RF 0 o VE c u (fb_Pa_tuple_0 N S () u 33 v1) (hb_Pa_tuple_0 N S' () m v1) := by
  unfold fb_Pa_tuple_0 hb_Pa_tuple_0
  refine rf_bo (gx_33_5 R) ?_
  refine rf_bo (gx_33_5 R) ?_
  refine rf_w (px_33_5 R) (fun w3' w3 R_w3 => ?_)
  refine rf_ck (ox_33 R_w3) ?_
  refine rf_bT (hS.2.2.2.2.2.2.2.2.2.2.2.2.2.2.2.2.2.2.2 _ _ _ _ _ _ R_w3) (fun u4' u4 r4 R_u4 => ?_)
  refine rf_bo (rx_33_1 R_u4) ?_
  refine rf_bo (rx_33_1 R_u4) ?_
  refine rf_so ?_
  refine rf_ck (ox_15 R_u4) ?_
  refine rf_bx0 (ym_Tr_length R_u4) (fun u7' u7 r7 R_u7 => ?_)
  refine rf_so ?_
  refine rf_ck (ox_15 R_u7) ?_
  refine rf_bx0 (ym_Tr_add R_u7) (fun u9' u9 r9 R_u9 => ?_)
  exact rf_ret R_u9 rfl
theorem ym_Pa_tuple {N : Nat} {o : Option Nat} {c : Nat → Nat} {m : MS} {u : CS} {S : SG_Pa_matched} {S' : SF_Pa_matched} (hS : SC_Pa_matched o S S') (R : RP o c m u) {v1 : Int32} : RF 0 o VE c u (fm_Pa_tuple N S u 33 v1) (hm_Pa_tuple N S' m v1) := yb_Pa_tuple_0 (N := N) hS R
theorem yb_Pa_pattern_162 {N : Nat} {o : Option Nat} {c : Nat → Nat} {m : MS} {u : CS} {S : SG_Pa_matched} {S' : SF_Pa_matched} (hS : SC_Pa_matched o S S') (R : RP o c m u) {v3 : Int32} : RF 0 o VE c u (fb_Pa_pattern_162 N S () u 33 v3) (hb_Pa_pattern_162 N S' () m v3) := by
  unfold fb_Pa_pattern_162 hb_Pa_pattern_162
  refine rf_bo (gx_33_6 R) ?_
  refine rf_w (px_33_6 R) (fun w2' w2 R_w2 => ?_)
  exact rf_ret R_w2 rfl
theorem yb_Pa_pattern_137 {N : Nat} {o : Option Nat} {c : Nat → Nat} {m : MS} {u : CS} {S : SG_Pa_matched} {S' : SF_Pa_matched} (hS : SC_Pa_matched o S S') (R : RP o c m u) {v1 : Int32} : RF 0 o VE c u (fb_Pa_pattern_137 N S () u 33 v1) (hb_Pa_pattern_137 N S' () m v1) := by
  unfold fb_Pa_pattern_137 hb_Pa_pattern_137
  refine rf_bo (rx_33_1 R) ?_
  refine rf_ck (ox_33 R) ?_
  refine rf_bx0 (ym_Pa_leaf R) (fun u4' u4 r4 R_u4 => ?_)
  refine rf_so ?_
  refine rf_ck (ox_15 R_u4) ?_
  refine rf_bx0 (ym_Tr_add R_u4) (fun u5' u5 r5 R_u5 => ?_)
  exact (yb_Pa_pattern_162 hS R_u5)
theorem yb_Pa_pattern_0 {N : Nat} {o : Option Nat} {c : Nat → Nat} {m : MS} {u : CS} {S : SG_Pa_matched} {S' : SF_Pa_matched} (hS : SC_Pa_matched o S S') (R : RP o c m u) : RF 0 o VE c u (fb_Pa_pattern_0 N S () u 33) (hb_Pa_pattern_0 N S' () m) := by
  unfold fb_Pa_pattern_0 hb_Pa_pattern_0
  refine rf_bo (gx_33_5 R) ?_
  refine rf_ck (ox_33 R) ?_
  refine rf_bT (ym_Pa_look R) (fun u8' u8 r8 R_u8 => ?_)
  refine rf_bx0 (ym_Pa_beginsPattern R_u8) (fun u9' u9 r9 R_u9 => ?_)
  refine rf_ck (ox_33 R_u9) ?_
  refine rf_bT (ym_Pa_opens R_u9) (fun u10' u10 r10 R_u10 => ?_)
  refine rf_br ?_ ?_
  · refine rf_bo (gx_33_5 R_u10) ?_
    refine rf_w (px_33_5 R_u10) (fun w12' w12 R_w12 => ?_)
    refine rf_bo (rx_33_1 R_w12) ?_
    refine rf_ck (ox_33 R_w12) ?_
    refine rf_bT (hS.2.2.2.2.2.2.2.2.2.2.2.2.2.2.2.2.2.1 _ _ _ R_w12) (fun u14' u14 r14 R_u14 => ?_)
    refine rf_so ?_
    refine rf_ck (ox_15 R_u14) ?_
    refine rf_bx0 (ym_Tr_add R_u14) (fun u15' u15 r15 R_u15 => ?_)
    refine rf_ck (ox_33 R_u15) ?_
    refine rf_bT (ym_Pa_need R_u15) (fun u17' u17 r17 R_u17 => ?_)
    exact (yb_Pa_pattern_162 hS R_u17)
  · refine rf_br ?_ ?_
    · refine rf_ck (ox_33 R_u10) ?_
      refine rf_bT (hS.2.2.2.2.2.2.2.2.2.2.2.2.2.2.2.2.1 _ _ _ _ R_u10) (fun u18' u18 r18 R_u18 => ?_)
      exact (yb_Pa_pattern_162 hS R_u18)
    · refine rf_br ?_ ?_
      · refine rf_ck (ox_33 R_u10) ?_
        refine rf_bT (hS.2.2.2.2.2.2.2.2.2.2.2.2.2.2.2.1 _ _ _ _ R_u10) (fun u19' u19 r19 R_u19 => ?_)
        exact (yb_Pa_pattern_162 hS R_u19)
      · refine rf_br ?_ ?_
        · refine rf_bo (gx_33_5 R_u10) ?_
          refine rf_w (px_33_5 R_u10) (fun w21' w21 R_w21 => ?_)
          refine rf_ck (ox_33 R_w21) ?_
          refine rf_bT (ym_Pa_look R_w21) (fun u22' u22 r22 R_u22 => ?_)
          refine rf_br ?_ ?_
          · exact (yb_Pa_pattern_137 hS R_u22)
          · refine rf_ck (ox_33 R_u22) ?_
            refine rf_bT (ym_Pa_refuse R_u22) (fun u23' u23 r23 R_u23 => ?_)
            exact (yb_Pa_pattern_137 hS R_u23)
        · refine rf_ck (ox_33 R_u10) ?_
          refine rf_bx0 (ym_Pa_leaf R_u10) (fun u24' u24 r24 R_u24 => ?_)
          exact (yb_Pa_pattern_162 hS R_u24)
theorem ym_Pa_pattern {N : Nat} {o : Option Nat} {c : Nat → Nat} {m : MS} {u : CS} {S : SG_Pa_matched} {S' : SF_Pa_matched} (hS : SC_Pa_matched o S S') (R : RP o c m u) : RF 0 o VE c u (fm_Pa_pattern N S u 33) (hm_Pa_pattern N S' m) := yb_Pa_pattern_0 (N := N) hS R
theorem yb_Pa_row_78 {N : Nat} {o : Option Nat} {c : Nat → Nat} {m : MS} {u : CS} {S : SG_Pa_matched} {S' : SF_Pa_matched} {G : (CS → Nat → Int32 → Int32 → Int32 → Int32 → Int32 → Option (CS × (Int32 ⊕ Nat)))} {G' : (MS → Int32 → Int32 → Int32 → Int32 → Int32 → Option (MS × (Int32 ⊕ Nat)))} (hS : SC_Pa_matched o S S') (hG : ∀ (c : Nat → Nat) (m : MS) (u : CS) (v1 : Int32) (v2 : Int32) (v3 : Int32) (v4 : Int32) (v5 : Int32), RP o c m u → RF 0 o VE c u (G u 33 v1 v2 v3 v4 v5) (G' m v1 v2 v3 v4 v5)) (R : RP o c m u) {v3 : Int32} : RF 0 o VE c u (fb_Pa_row_78 N S G u v3) (hb_Pa_row_78 N S' G' m v3) := by
  unfold fb_Pa_row_78 hb_Pa_row_78
  exact rf_ret R rfl
theorem yb_Pa_row_67 {N : Nat} {o : Option Nat} {c : Nat → Nat} {m : MS} {u : CS} {S : SG_Pa_matched} {S' : SF_Pa_matched} {G : (CS → Nat → Int32 → Int32 → Int32 → Int32 → Int32 → Option (CS × (Int32 ⊕ Nat)))} {G' : (MS → Int32 → Int32 → Int32 → Int32 → Int32 → Option (MS × (Int32 ⊕ Nat)))} (hS : SC_Pa_matched o S S') (hG : ∀ (c : Nat → Nat) (m : MS) (u : CS) (v1 : Int32) (v2 : Int32) (v3 : Int32) (v4 : Int32) (v5 : Int32), RP o c m u → RF 0 o VE c u (G u 33 v1 v2 v3 v4 v5) (G' m v1 v2 v3 v4 v5)) (R : RP o c m u) {v1 : Int32} {v2 : Int32} {v3 : Int32} {v5 : Int32} {t1 : Int32} {t2 : Int32} : RF 0 o VE c u (fb_Pa_row_67 N S G u 33 v1 v2 v3 v5 33 t1 t2) (hb_Pa_row_67 N S' G' m v1 v2 v3 v5 t1 t2) := by
  unfold fb_Pa_row_67 hb_Pa_row_67
  refine rf_ck (ox_33 R) ?_
  refine rf_bx0 (ym_Pa_chain R) (fun u1' u1 r1 R_u1 => ?_)
  exact (hG _ _ _ _ _ _ _ _ R_u1)
theorem yb_Pa_row_23 {N : Nat} {o : Option Nat} {c : Nat → Nat} {m : MS} {u : CS} {S : SG_Pa_matched} {S' : SF_Pa_matched} {G : (CS → Nat → Int32 → Int32 → Int32 → Int32 → Int32 → Option (CS × (Int32 ⊕ Nat)))} {G' : (MS → Int32 → Int32 → Int32 → Int32 → Int32 → Option (MS × (Int32 ⊕ Nat)))} (hS : SC_Pa_matched o S S') (hG : ∀ (c : Nat → Nat) (m : MS) (u : CS) (v1 : Int32) (v2 : Int32) (v3 : Int32) (v4 : Int32) (v5 : Int32), RP o c m u → RF 0 o VE c u (G u 33 v1 v2 v3 v4 v5) (G' m v1 v2 v3 v4 v5)) (R : RP o c m u) {v1 : Int32} {v2 : Int32} {v3 : Int32} {v4 : Int32} {v5 : Int32} : RF 0 o VE c u (fb_Pa_row_23 N S G u 33 v1 v2 v3 v4 v5) (hb_Pa_row_23 N S' G' m v1 v2 v3 v4 v5) := by
  unfold fb_Pa_row_23 hb_Pa_row_23
  refine rf_br ?_ ?_
  · exact (yb_Pa_row_78 hS hG R)
  · refine rf_ck (ox_33 R) ?_
    refine rf_bT (ym_Pa_look R) (fun u2' u2 r2 R_u2 => ?_)
    refine rf_br ?_ ?_
    · refine rf_bo (gx_33_5 R_u2) ?_
      refine rf_w (px_33_5 R_u2) (fun w4' w4 R_w4 => ?_)
      refine rf_br ?_ ?_
      · refine rf_ck (ox_33 R_w4) ?_
        refine rf_bT (hS.2.2.2.2.2.2.2.2.2.2.2.2.2.2.1 _ _ _ _ R_w4) (fun u5' u5 r5 R_u5 => ?_)
        exact (yb_Pa_row_67 hS hG R_u5)
      · refine rf_ck (ox_33 R_w4) ?_
        refine rf_bT (hS.2.2.2.2.2.2.2.2.2.2.2.2.2.2.2.2.2.1 _ _ _ R_w4) (fun u6' u6 r6 R_u6 => ?_)
        exact (yb_Pa_row_67 hS hG R_u6)
    · exact (yb_Pa_row_78 hS hG R_u2)
theorem yb_Pa_row_16 {N : Nat} {o : Option Nat} {c : Nat → Nat} {m : MS} {u : CS} {S : SG_Pa_matched} {S' : SF_Pa_matched} {G : (CS → Nat → Int32 → Int32 → Int32 → Int32 → Int32 → Option (CS × (Int32 ⊕ Nat)))} {G' : (MS → Int32 → Int32 → Int32 → Int32 → Int32 → Option (MS × (Int32 ⊕ Nat)))} (hS : SC_Pa_matched o S S') (hG : ∀ (c : Nat → Nat) (m : MS) (u : CS) (v1 : Int32) (v2 : Int32) (v3 : Int32) (v4 : Int32) (v5 : Int32), RP o c m u → RF 0 o VE c u (G u 33 v1 v2 v3 v4 v5) (G' m v1 v2 v3 v4 v5)) (R : RP o c m u) {v1 : Int32} {v2 : Int32} {t0 : Int32} : RF 0 o VE c u (fb_Pa_row_16 N S G u 33 v1 v2 t0) (hb_Pa_row_16 N S' G' m v1 v2 t0) := by
  unfold fb_Pa_row_16 hb_Pa_row_16
  exact (hG _ _ _ _ _ _ _ _ R)
theorem yb_Pa_row_0 {N : Nat} {o : Option Nat} {c : Nat → Nat} {m : MS} {u : CS} {S : SG_Pa_matched} {S' : SF_Pa_matched} {G : (CS → Nat → Int32 → Int32 → Int32 → Int32 → Int32 → Option (CS × (Int32 ⊕ Nat)))} {G' : (MS → Int32 → Int32 → Int32 → Int32 → Int32 → Option (MS × (Int32 ⊕ Nat)))} (hS : SC_Pa_matched o S S') (hG : ∀ (c : Nat → Nat) (m : MS) (u : CS) (v1 : Int32) (v2 : Int32) (v3 : Int32) (v4 : Int32) (v5 : Int32), RP o c m u → RF 0 o VE c u (G u 33 v1 v2 v3 v4 v5) (G' m v1 v2 v3 v4 v5)) (R : RP o c m u) {v1 : Int32} {v2 : Int32} : RF 0 o VE c u (fb_Pa_row_0 N S G u 33 v1 v2) (hb_Pa_row_0 N S' G' m v1 v2) := by
  unfold fb_Pa_row_0 hb_Pa_row_0
  refine rf_br ?_ ?_
  · refine rf_ck (ox_33 R) ?_
    refine rf_bT (hS.2.2.2.2.2.2.2.2.2.2.2.2.2.2.1 _ _ _ _ R) (fun u7' u7 r7 R_u7 => ?_)
    exact (yb_Pa_row_16 hS hG R_u7)
  · refine rf_ck (ox_33 R) ?_
    refine rf_bT (hS.2.2.2.2.2.2.2.2.2.2.2.2.2.2.2.2.2.1 _ _ _ R) (fun u8' u8 r8 R_u8 => ?_)
    exact (yb_Pa_row_16 hS hG R_u8)
theorem yg_Pa_row {N : Nat} {o : Option Nat} {S : SG_Pa_matched} {S' : SF_Pa_matched} (hS : SC_Pa_matched o S S') : ∀ n, (∀ (c : Nat → Nat) (m : MS) (u : CS) (v1 : Int32) (v2 : Int32) (v3 : Int32) (v4 : Int32) (v5 : Int32), RP o c m u → RF 0 o VE c u ((gg_Pa_row N S n) u 33 v1 v2 v3 v4 v5) ((hg_Pa_row N S' n) m v1 v2 v3 v4 v5)) := by
  intro n
  induction n with
  | zero => exact fun c m u v1 v2 v3 v4 v5 R => rf_none
  | succ n ih => exact fun c m u v1 v2 v3 v4 v5 R => yb_Pa_row_23 (N := N) hS ih R
theorem ym_Pa_row {N : Nat} {o : Option Nat} {c : Nat → Nat} {m : MS} {u : CS} {S : SG_Pa_matched} {S' : SF_Pa_matched} (hS : SC_Pa_matched o S S') (R : RP o c m u) {v1 : Int32} {v2 : Int32} : RF 0 o VE c u (fm_Pa_row N S u 33 v1 v2) (hm_Pa_row N S' m v1 v2) := yb_Pa_row_0 (N := N) hS (yg_Pa_row (N := N) hS N) R
theorem yb_Pa_rowUpTo_18 {N : Nat} {o : Option Nat} {c : Nat → Nat} {m : MS} {u : CS} {S : SG_Pa_matched} {S' : SF_Pa_matched} (hS : SC_Pa_matched o S S') (R : RP o c m u) {v3 : Int32} {t0 : Int32} : RF 0 o VE c u (fb_Pa_rowUpTo_18 N S () u 33 v3 t0) (hb_Pa_rowUpTo_18 N S' () m v3 t0) := by
  unfold fb_Pa_rowUpTo_18 hb_Pa_rowUpTo_18
  refine rf_ck (ox_33 R) ?_
  refine rf_bT (ym_Pa_need R) (fun u1' u1 r1 R_u1 => ?_)
  exact rf_ret R_u1 rfl
theorem yb_Pa_rowUpTo_0 {N : Nat} {o : Option Nat} {c : Nat → Nat} {m : MS} {u : CS} {S : SG_Pa_matched} {S' : SF_Pa_matched} (hS : SC_Pa_matched o S S') (R : RP o c m u) {v1 : Int32} {v2 : Int32} {v3 : Int32} : RF 0 o VE c u (fb_Pa_rowUpTo_0 N S () u 33 v1 v2 v3) (hb_Pa_rowUpTo_0 N S' () m v1 v2 v3) := by
  unfold fb_Pa_rowUpTo_0 hb_Pa_rowUpTo_0
  refine rf_ck (ox_33 R) ?_
  refine rf_bT (ym_Pa_look R) (fun u2' u2 r2 R_u2 => ?_)
  refine rf_br ?_ ?_
  · exact (yb_Pa_rowUpTo_18 hS R_u2)
  · refine rf_ck (ox_33 R_u2) ?_
    refine rf_bT (hS.2.2.2.2.2.2.2.2.2.2.2.2.2.2.2.2.2.2.1 _ _ _ _ _ R_u2) (fun u3' u3 r3 R_u3 => ?_)
    exact (yb_Pa_rowUpTo_18 hS R_u3)
theorem ym_Pa_rowUpTo {N : Nat} {o : Option Nat} {c : Nat → Nat} {m : MS} {u : CS} {S : SG_Pa_matched} {S' : SF_Pa_matched} (hS : SC_Pa_matched o S S') (R : RP o c m u) {v1 : Int32} {v2 : Int32} {v3 : Int32} : RF 0 o VE c u (fm_Pa_rowUpTo N S u 33 v1 v2 v3) (hm_Pa_rowUpTo N S' m v1 v2 v3) := yb_Pa_rowUpTo_0 (N := N) hS R
theorem yrc_Pa_matched {N : Nat} {o : Option Nat} : ∀ d, SC_Pa_matched o (rc_Pa_matched N d) (hrc_Pa_matched N d) := by
  intro d
  induction d with
  | zero => exact ⟨fun c m u v1 R => rf_none, fun c m u v1 R => rf_none, fun c m u R => rf_none, fun c m u R => rf_none, fun c m u R => rf_none, fun c m u v1 v2 R => rf_none, fun c m u R => rf_none, fun c m u v1 R => rf_none, fun c m u R => rf_none, fun c m u R => rf_none, fun c m u R => rf_none, fun c m u R => rf_none, fun c m u R => rf_none, fun c m u R => rf_none, fun c m u v1 R => rf_none, fun c m u v1 R => rf_none, fun c m u v1 R => rf_none, fun c m u R => rf_none, fun c m u v1 v2 R => rf_none, fun c m u v1 v2 v3 R => rf_none⟩
  | succ d ih => exact ⟨fun c m u v1 R => ym_Pa_matched (N := N) ih R, fun c m u v1 R => ym_Pa_applied (N := N) ih R, fun c m u R => ym_Pa_fun (N := N) ih R, fun c m u R => ym_Pa_receive (N := N) ih R, fun c m u R => ym_Pa_choice (N := N) ih R, fun c m u v1 v2 R => ym_Pa_part (N := N) ih R, fun c m u R => ym_Pa_oneCase (N := N) ih R, fun c m u v1 R => ym_Pa_parts (N := N) ih R, fun c m u R => ym_Pa_caseOf (N := N) ih R, fun c m u R => ym_Pa_body (N := N) ih R, fun c m u R => ym_Pa_atomOrCall (N := N) ih R, fun c m u R => ym_Pa_primary (N := N) ih R, fun c m u R => ym_Pa_unit (N := N) ih R, fun c m u R => ym_Pa_signed (N := N) ih R, fun c m u v1 R => ym_Pa_expression (N := N) ih R, fun c m u v1 R => ym_Pa_list (N := N) ih R, fun c m u v1 R => ym_Pa_tuple (N := N) ih R, fun c m u R => ym_Pa_pattern (N := N) ih R, fun c m u v1 v2 R => ym_Pa_row (N := N) ih R, fun c m u v1 v2 v3 R => ym_Pa_rowUpTo (N := N) ih R⟩
theorem yr_Pa_part {N : Nat} {o : Option Nat} {c : Nat → Nat} {m : MS} {u : CS} (R : RP o c m u) {v1 : Int32} {v2 : Int32} : RF 0 o VE c u (fr_Pa_part N u 33 v1 v2) (hr_Pa_part N m v1 v2) := (yrc_Pa_matched (N := N) 300).2.2.2.2.2.1 _ _ _ _ _ R
theorem yr_Pa_rowUpTo {N : Nat} {o : Option Nat} {c : Nat → Nat} {m : MS} {u : CS} (R : RP o c m u) {v1 : Int32} {v2 : Int32} {v3 : Int32} : RF 0 o VE c u (fr_Pa_rowUpTo N u 33 v1 v2 v3) (hr_Pa_rowUpTo N m v1 v2 v3) := (yrc_Pa_matched (N := N) 300).2.2.2.2.2.2.2.2.2.2.2.2.2.2.2.2.2.2.2 _ _ _ _ _ _ R
theorem yb_Pa_clause_0 {N : Nat} {o : Option Nat} {c : Nat → Nat} {m : MS} {u : CS} (R : RP o c m u) : RF 0 o VE c u (fb_Pa_clause_0 N () u 33) (hb_Pa_clause_0 N () m) := by
  unfold fb_Pa_clause_0 hb_Pa_clause_0
  refine rf_ck (ox_33 R) ?_
  refine rf_bT (ym_Pa_need R) (fun u1' u1 r1 R_u1 => ?_)
  refine rf_ck (ox_33 R_u1) ?_
  refine rf_bT (ym_Pa_need R_u1) (fun u2' u2 r2 R_u2 => ?_)
  refine rf_ck (ox_33 R_u2) ?_
  refine rf_bT (yr_Pa_rowUpTo R_u2) (fun u3' u3 r3 R_u3 => ?_)
  refine rf_ck (ox_33 R_u3) ?_
  refine rf_bT (yr_Pa_part R_u3) (fun u4' u4 r4 R_u4 => ?_)
  exact rf_ret R_u4 rfl
theorem ym_Pa_clause {N : Nat} {o : Option Nat} {c : Nat → Nat} {m : MS} {u : CS} (R : RP o c m u) : RF 0 o VE c u (fm_Pa_clause N u 33) (hm_Pa_clause N m) := yb_Pa_clause_0 (N := N) R
theorem yb_Pa_oneFunction_58 {N : Nat} {o : Option Nat} {c : Nat → Nat} {m : MS} {u : CS} {G : (CS → Nat → Int32 → Int32 → Int32 → Int32 → Option (CS × (Unit ⊕ Nat)))} {G' : (MS → Int32 → Int32 → Int32 → Int32 → Option (MS × (Unit ⊕ Nat)))} (hG : ∀ (c : Nat → Nat) (m : MS) (u : CS) (v1 : Int32) (v2 : Int32) (v3 : Int32) (v4 : Int32), RP o c m u → RF 0 o VE c u (G u 33 v1 v2 v3 v4) (G' m v1 v2 v3 v4)) (R : RP o c m u) {v1 : Int32} {v2 : Int32} : RF 0 o VE c u (fb_Pa_oneFunction_58 N G u 33 v1 v2) (hb_Pa_oneFunction_58 N G' m v1 v2) := by
  unfold fb_Pa_oneFunction_58 hb_Pa_oneFunction_58
  refine rf_ck (ox_33 R) ?_
  refine rf_bT (ym_Pa_need R) (fun u1' u1 r1 R_u1 => ?_)
  refine rf_bo (rx_33_2 R_u1) ?_
  refine rf_bo (rx_33_0 R_u1) ?_
  refine rf_so ?_
  refine rf_bo (rx_4_3 R_u1) ?_
  refine rf_so ?_
  refine rf_ai (ax_7 R_u1) ?_
  refine rf_bo (rx_33_1 R_u1) ?_
  refine rf_bo (rx_33_1 R_u1) ?_
  refine rf_so ?_
  refine rf_bo (rx_15_2 R_u1) ?_
  refine rf_so ?_
  refine rf_ai (ax_18 R_u1) ?_
  refine rf_so ?_
  refine rf_ck (ox_15 R_u1) ?_
  refine rf_bx0 (ym_Tr_length R_u1) (fun u14' u14 r14 R_u14 => ?_)
  refine rf_bo (rx_33_0 R_u14) ?_
  refine rf_so ?_
  refine rf_bo (rx_4_4 R_u14) ?_
  refine rf_so ?_
  refine rf_ai (ax_8 R_u14) ?_
  refine rf_bo (rx_33_1 R_u14) ?_
  refine rf_so ?_
  refine rf_ck (ox_15 R_u14) ?_
  refine rf_bx0 (ym_Tr_length R_u14) (fun u22' u22 r22 R_u22 => ?_)
  refine rf_so ?_
  refine rf_ck (ox_22 R_u22) ?_
  refine rf_bx0 (ym_Co_addFunction R_u22) (fun u24' u24 r24 R_u24 => ?_)
  exact rf_ret R_u24 rfl
theorem yb_Pa_oneFunction_15 {N : Nat} {o : Option Nat} {c : Nat → Nat} {m : MS} {u : CS} {G : (CS → Nat → Int32 → Int32 → Int32 → Int32 → Option (CS × (Unit ⊕ Nat)))} {G' : (MS → Int32 → Int32 → Int32 → Int32 → Option (MS × (Unit ⊕ Nat)))} (hG : ∀ (c : Nat → Nat) (m : MS) (u : CS) (v1 : Int32) (v2 : Int32) (v3 : Int32) (v4 : Int32), RP o c m u → RF 0 o VE c u (G u 33 v1 v2 v3 v4) (G' m v1 v2 v3 v4)) (R : RP o c m u) {v1 : Int32} {v2 : Int32} {v3 : Int32} {v4 : Int32} : RF 0 o VE c u (fb_Pa_oneFunction_15 N G u 33 v1 v2 v3 v4) (hb_Pa_oneFunction_15 N G' m v1 v2 v3 v4) := by
  unfold fb_Pa_oneFunction_15 hb_Pa_oneFunction_15
  refine rf_br ?_ ?_
  · exact (yb_Pa_oneFunction_58 hG R)
  · refine rf_ck (ox_33 R) ?_
    refine rf_bT (ym_Pa_look R) (fun u26' u26 r26 R_u26 => ?_)
    refine rf_br ?_ ?_
    · refine rf_bo (gx_33_5 R_u26) ?_
      refine rf_w (px_33_5 R_u26) (fun w28' w28 R_w28 => ?_)
      refine rf_ck (ox_33 R_w28) ?_
      refine rf_bT (ym_Pa_clause R_w28) (fun u29' u29 r29 R_u29 => ?_)
      refine rf_ck (ox_33 R_u29) ?_
      refine rf_bx0 (ym_Pa_chain R_u29) (fun u30' u30 r30 R_u30 => ?_)
      exact (hG _ _ _ _ _ _ _ R_u30)
    · exact (yb_Pa_oneFunction_58 hG R_u26)
theorem yb_Pa_oneFunction_0 {N : Nat} {o : Option Nat} {c : Nat → Nat} {m : MS} {u : CS} {G : (CS → Nat → Int32 → Int32 → Int32 → Int32 → Option (CS × (Unit ⊕ Nat)))} {G' : (MS → Int32 → Int32 → Int32 → Int32 → Option (MS × (Unit ⊕ Nat)))} (hG : ∀ (c : Nat → Nat) (m : MS) (u : CS) (v1 : Int32) (v2 : Int32) (v3 : Int32) (v4 : Int32), RP o c m u → RF 0 o VE c u (G u 33 v1 v2 v3 v4) (G' m v1 v2 v3 v4)) (R : RP o c m u) : RF 0 o VE c u (fb_Pa_oneFunction_0 N G u 33) (hb_Pa_oneFunction_0 N G' m) := by
  unfold fb_Pa_oneFunction_0 hb_Pa_oneFunction_0
  refine rf_bo (gx_33_5 R) ?_
  refine rf_ck (ox_33 R) ?_
  refine rf_bT (ym_Pa_clause R) (fun u32' u32 r32 R_u32 => ?_)
  exact (hG _ _ _ _ _ _ _ R_u32)
theorem yg_Pa_oneFunction {N : Nat} {o : Option Nat} : ∀ n, (∀ (c : Nat → Nat) (m : MS) (u : CS) (v1 : Int32) (v2 : Int32) (v3 : Int32) (v4 : Int32), RP o c m u → RF 0 o VE c u ((gg_Pa_oneFunction N n) u 33 v1 v2 v3 v4) ((hg_Pa_oneFunction N n) m v1 v2 v3 v4)) := by
  intro n
  induction n with
  | zero => exact fun c m u v1 v2 v3 v4 R => rf_none
  | succ n ih => exact fun c m u v1 v2 v3 v4 R => yb_Pa_oneFunction_15 (N := N) ih R
theorem ym_Pa_oneFunction {N : Nat} {o : Option Nat} {c : Nat → Nat} {m : MS} {u : CS} (R : RP o c m u) : RF 0 o VE c u (fm_Pa_oneFunction N u 33) (hm_Pa_oneFunction N m) := yb_Pa_oneFunction_0 (N := N) (yg_Pa_oneFunction (N := N) N) R
theorem yb_Pa_parse_68 {N : Nat} {o : Option Nat} {c : Nat → Nat} {m : MS} {u : CS} {G : (CS → Nat → Int32 → Option (CS × Int32))} {G' : (MS → Int32 → Option (MS × Int32))} (hG : ∀ (c : Nat → Nat) (m : MS) (u : CS) (v1 : Int32), RP o c m u → RF 0 o VE c u (G u 33 v1) (G' m v1)) (R : RP o c m u) : RF 0 o VE c u (fb_Pa_parse_68 N G u 33) (hb_Pa_parse_68 N G' m) := by
  unfold fb_Pa_parse_68 hb_Pa_parse_68
  refine rf_bo (gx_33_7 R) ?_
  exact rf_ret R rfl
theorem yb_Pa_parse_64 {N : Nat} {o : Option Nat} {c : Nat → Nat} {m : MS} {u : CS} {G : (CS → Nat → Int32 → Option (CS × Int32))} {G' : (MS → Int32 → Option (MS × Int32))} (hG : ∀ (c : Nat → Nat) (m : MS) (u : CS) (v1 : Int32), RP o c m u → RF 0 o VE c u (G u 33 v1) (G' m v1)) (R : RP o c m u) : RF 0 o VE c u (fb_Pa_parse_64 N G u) (hb_Pa_parse_64 N G' m) := by
  unfold fb_Pa_parse_64 hb_Pa_parse_64
  exact rf_ret R rfl
theorem yb_Pa_parse_54 {N : Nat} {o : Option Nat} {c : Nat → Nat} {m : MS} {u : CS} {G : (CS → Nat → Int32 → Option (CS × Int32))} {G' : (MS → Int32 → Option (MS × Int32))} (hG : ∀ (c : Nat → Nat) (m : MS) (u : CS) (v1 : Int32), RP o c m u → RF 0 o VE c u (G u 33 v1) (G' m v1)) (R : RP o c m u) {v1 : Int32} : RF 0 o VE c u (fb_Pa_parse_54 N G u 33 v1) (hb_Pa_parse_54 N G' m v1) := by
  unfold fb_Pa_parse_54 hb_Pa_parse_54
  refine rf_ck (ox_33 R) ?_
  refine rf_bH (ym_Pa_oneFunction R) (fun u2' u2 r2 R_u2 => ?_) (fun u2' u2 R_u2 => ?_)
  · exact (hG _ _ _ _ R_u2)
  · exact (yb_Pa_parse_68 hG R_u2)
theorem yb_Pa_parse_36 {N : Nat} {o : Option Nat} {c : Nat → Nat} {m : MS} {u : CS} {G : (CS → Nat → Int32 → Option (CS × Int32))} {G' : (MS → Int32 → Option (MS × Int32))} (hG : ∀ (c : Nat → Nat) (m : MS) (u : CS) (v1 : Int32), RP o c m u → RF 0 o VE c u (G u 33 v1) (G' m v1)) (R : RP o c m u) {v1 : Int32} : RF 0 o VE c u (fb_Pa_parse_36 N G u 33 v1) (hb_Pa_parse_36 N G' m v1) := by
  unfold fb_Pa_parse_36 hb_Pa_parse_36
  refine rf_br ?_ ?_
  · exact (yb_Pa_parse_64 hG R)
  · refine rf_br ?_ ?_
    · exact (yb_Pa_parse_54 hG R)
    · refine rf_ck (ox_33 R) ?_
      refine rf_bH (ym_Pa_look R) (fun u3' u3 r3 R_u3 => ?_) (fun u3' u3 R_u3 => ?_)
      · refine rf_br ?_ ?_
        · exact (yb_Pa_parse_64 hG R_u3)
        · exact (yb_Pa_parse_54 hG R_u3)
      · exact (yb_Pa_parse_68 hG R_u3)
theorem yb_Pa_parse_0 {N : Nat} {o : Option Nat} {c : Nat → Nat} {m : MS} {u : CS} {G : (CS → Nat → Int32 → Option (CS × Int32))} {G' : (MS → Int32 → Option (MS × Int32))} (hG : ∀ (c : Nat → Nat) (m : MS) (u : CS) (v1 : Int32), RP o c m u → RF 0 o VE c u (G u 33 v1) (G' m v1)) (R : RP o c m u) : RF 0 o VE c u (fb_Pa_parse_0 N G u 33) (hb_Pa_parse_0 N G' m) := by
  unfold fb_Pa_parse_0 hb_Pa_parse_0
  refine rf_bo (rx_33_1 R) ?_
  refine rf_so ?_
  refine rf_ck (ox_15 R) ?_
  refine rf_bx0 (ym_Tr_clear R) (fun u5' u5 r5 R_u5 => ?_)
  refine rf_bo (rx_33_2 R_u5) ?_
  refine rf_so ?_
  refine rf_ck (ox_22 R_u5) ?_
  refine rf_bx0 (ym_Co_clear R_u5) (fun u8' u8 r8 R_u8 => ?_)
  refine rf_w (px_33_4 R_u8) (fun w10' w10 R_w10 => ?_)
  refine rf_w (px_33_5 R_w10) (fun w11' w11 R_w11 => ?_)
  refine rf_w (px_33_6 R_w11) (fun w12' w12 R_w12 => ?_)
  refine rf_w (px_33_7 R_w12) (fun w13' w13 R_w13 => ?_)
  exact (hG _ _ _ _ R_w13)
theorem yg_Pa_parse {N : Nat} {o : Option Nat} : ∀ n, (∀ (c : Nat → Nat) (m : MS) (u : CS) (v1 : Int32), RP o c m u → RF 0 o VE c u ((gg_Pa_parse N n) u 33 v1) ((hg_Pa_parse N n) m v1)) := by
  intro n
  induction n with
  | zero => exact fun c m u v1 R => rf_none
  | succ n ih => exact fun c m u v1 R => yb_Pa_parse_36 (N := N) ih R
theorem ym_Pa_parse {N : Nat} {o : Option Nat} {c : Nat → Nat} {m : MS} {u : CS} (R : RP o c m u) : RF 0 o VE c u (fm_Pa_parse N u 33) (hm_Pa_parse N m) := yb_Pa_parse_0 (N := N) (yg_Pa_parse (N := N) N) R
theorem yb_Cm_predefinedOf_54 {N : Nat} {o : Option Nat} {c : Nat → Nat} {m : MS} {u : CS} (R : RP o c m u) {t0 : Int32} : RF 0 o VE c u (fb_Cm_predefinedOf_54 N () u t0) (hb_Cm_predefinedOf_54 N () m t0) := by
  unfold fb_Cm_predefinedOf_54 hb_Cm_predefinedOf_54
  exact rf_ret R rfl
theorem yb_Cm_predefinedOf_53 {N : Nat} {o : Option Nat} {c : Nat → Nat} {m : MS} {u : CS} (R : RP o c m u) : RF 0 o VE c u (fb_Cm_predefinedOf_53 N () u) (hb_Cm_predefinedOf_53 N () m) := by
  unfold fb_Cm_predefinedOf_53 hb_Cm_predefinedOf_53
  exact (yb_Cm_predefinedOf_54 R)
theorem yb_Cm_predefinedOf_27 {N : Nat} {o : Option Nat} {c : Nat → Nat} {m : MS} {u : CS} (R : RP o c m u) {v2 : Int32} {v3 : Int32} : RF 0 o VE c u (fb_Cm_predefinedOf_27 N () u v2 v3) (hb_Cm_predefinedOf_27 N () m v2 v3) := by
  unfold fb_Cm_predefinedOf_27 hb_Cm_predefinedOf_27
  refine rf_br ?_ ?_
  · exact (yb_Cm_predefinedOf_53 R)
  · refine rf_br ?_ ?_
    · exact (yb_Cm_predefinedOf_53 R)
    · refine rf_ckk ?_
      refine rf_br ?_ ?_
      · exact (yb_Cm_predefinedOf_54 R)
      · exact (yb_Cm_predefinedOf_53 R)
theorem yb_Cm_predefinedOf_0 {N : Nat} {o : Option Nat} {c : Nat → Nat} {m : MS} {u : CS} (R : RP o c m u) {v1 : Int32} {v2 : Int32} : RF 0 o VE c u (fb_Cm_predefinedOf_0 N () u 35 v1 v2) (hb_Cm_predefinedOf_0 N () m v1 v2) := by
  unfold fb_Cm_predefinedOf_0 hb_Cm_predefinedOf_0
  refine rf_bo (rx_35_3 R) ?_
  refine rf_bo (rx_35_4 R) ?_
  refine rf_so ?_
  refine rf_ck (ox_1 R) ?_
  refine rf_bx0 (ym_Wo_seekIn R (by unfold isWd; omega) (by unfold isWd; omega)) (fun u3' u3 r3 R_u3 => ?_)
  refine rf_br ?_ ?_
  · refine rf_br ?_ ?_
    · exact rf_ret R_u3 rfl
    · exact (yb_Cm_predefinedOf_27 R_u3)
  · exact (yb_Cm_predefinedOf_27 R_u3)
theorem ym_Cm_predefinedOf {N : Nat} {o : Option Nat} {c : Nat → Nat} {m : MS} {u : CS} (R : RP o c m u) {v1 : Int32} {v2 : Int32} : RF 0 o VE c u (fm_Cm_predefinedOf N u 35 v1 v2) (hm_Cm_predefinedOf N m v1 v2) := yb_Cm_predefinedOf_0 (N := N) R
theorem yb_Cm_fault_0 {N : Nat} {o : Option Nat} {c : Nat → Nat} {m : MS} {u : CS} (R : RP o c m u) {v1 : Int32} {v2 : Int32} : RF 0 o VE c u (fb_Cm_fault_0 N () u 35 v1 v2) (hb_Cm_fault_0 N () m v1 v2) := by
  unfold fb_Cm_fault_0 hb_Cm_fault_0
  refine rf_bo (gx_35_14 R) ?_
  refine rf_lt ?_
  refine rf_w (px_35_14 R) (fun w3' w3 R_w3 => ?_)
  exact rf_ret R_w3 rfl
theorem ym_Cm_fault {N : Nat} {o : Option Nat} {c : Nat → Nat} {m : MS} {u : CS} (R : RP o c m u) {v1 : Int32} {v2 : Int32} : RF 0 o VE c u (fm_Cm_fault N u 35 v1 v2) (hm_Cm_fault N m v1 v2) := yb_Cm_fault_0 (N := N) R
theorem yb_Cm_bind_32 {N : Nat} {o : Option Nat} {c : Nat → Nat} {m : MS} {u : CS} (R : RP o c m u) : RF 0 o VE c u (fb_Cm_bind_32 N () u 35) (hb_Cm_bind_32 N () m) := by
  unfold fb_Cm_bind_32 hb_Cm_bind_32
  refine rf_bo (rx_35_8 R) ?_
  refine rf_bo (gx_35_9 R) ?_
  refine rf_bo (rx_35_8 R) ?_
  refine rf_bo (gx_35_9 R) ?_
  refine rf_so ?_
  refine rf_ai (ax_41 R) ?_
  refine rf_bo (gx_35_6 R) ?_
  refine rf_bo (rx_35_7 R) ?_
  refine rf_bo (gx_35_9 R) ?_
  refine rf_so ?_
  refine rf_ai (ax_40 R) ?_
  refine rf_lt ?_
  refine rf_so ?_
  refine rf_wk (sx_41 R) (fun w14' w14 R_w14 => ?_)
  exact rf_ret R_w14 rfl
theorem yb_Cm_bind_0 {N : Nat} {o : Option Nat} {c : Nat → Nat} {m : MS} {u : CS} (R : RP o c m u) {v1 : Int32} : RF 0 o VE c u (fb_Cm_bind_0 N () u 35 v1) (hb_Cm_bind_0 N () m v1) := by
  unfold fb_Cm_bind_0 hb_Cm_bind_0
  refine rf_bo (gx_35_6 R) ?_
  refine rf_bo (rx_35_5 R) ?_
  refine rf_so ?_
  refine rf_bo (nx_39 R) ?_
  refine rf_br ?_ ?_
  · exact (yb_Cm_bind_32 R)
  · refine rf_bo (rx_35_5 R) ?_
    refine rf_bo (gx_35_6 R) ?_
    refine rf_so ?_
    refine rf_wk (sx_39 R) (fun w22' w22 R_w22 => ?_)
    refine rf_bo (gx_35_6 R_w22) ?_
    refine rf_w (px_35_6 R_w22) (fun w24' w24 R_w24 => ?_)
    exact (yb_Cm_bind_32 R_w24)
theorem ym_Cm_bind {N : Nat} {o : Option Nat} {c : Nat → Nat} {m : MS} {u : CS} (R : RP o c m u) {v1 : Int32} : RF 0 o VE c u (fm_Cm_bind N u 35 v1) (hm_Cm_bind N m v1) := yb_Cm_bind_0 (N := N) R
theorem yb_Cm_nameInPattern_92 {N : Nat} {o : Option Nat} {c : Nat → Nat} {m : MS} {u : CS} (R : RP o c m u) : RF 0 o VE c u (fb_Cm_nameInPattern_92 N () u) (hb_Cm_nameInPattern_92 N () m) := by
  unfold fb_Cm_nameInPattern_92 hb_Cm_nameInPattern_92
  exact rf_ret R rfl
theorem yb_Cm_nameInPattern_46 {N : Nat} {o : Option Nat} {c : Nat → Nat} {m : MS} {u : CS} (R : RP o c m u) {v1 : Int32} {t1 : Int32} {t2 : Int32} {t3 : Int32} : RF 0 o VE c u (fb_Cm_nameInPattern_46 N () u 35 v1 35 t1 t2 t3) (hb_Cm_nameInPattern_46 N () m v1 t1 t2 t3) := by
  unfold fb_Cm_nameInPattern_46 hb_Cm_nameInPattern_46
  refine rf_ck (ox_35 R) ?_
  refine rf_bx0 (ym_Cm_isBound R) (fun u1' u1 r1 R_u1 => ?_)
  refine rf_br ?_ ?_
  · refine rf_bo (rx_35_2 R_u1) ?_
    refine rf_so ?_
    refine rf_ck (ox_22 R_u1) ?_
    refine rf_bx0 (ym_Co_put R_u1) (fun u3' u3 r3 R_u3 => ?_)
    refine rf_bo (rx_35_2 R_u3) ?_
    refine rf_so ?_
    refine rf_ck (ox_22 R_u3) ?_
    refine rf_bx0 (ym_Co_put R_u3) (fun u6' u6 r6 R_u6 => ?_)
    refine rf_ck (ox_35 R_u6) ?_
    refine rf_bx0 (ym_Cm_bind R_u6) (fun u8' u8 r8 R_u8 => ?_)
    exact (yb_Cm_nameInPattern_92 R_u8)
  · refine rf_bo (rx_35_2 R_u1) ?_
    refine rf_so ?_
    refine rf_ck (ox_22 R_u1) ?_
    refine rf_bx0 (ym_Co_put R_u1) (fun u10' u10 r10 R_u10 => ?_)
    refine rf_bo (rx_35_2 R_u10) ?_
    refine rf_so ?_
    refine rf_ck (ox_22 R_u10) ?_
    refine rf_bx0 (ym_Co_put R_u10) (fun u13' u13 r13 R_u13 => ?_)
    exact (yb_Cm_nameInPattern_92 R_u13)
theorem yb_Cm_nameInPattern_0 {N : Nat} {o : Option Nat} {c : Nat → Nat} {m : MS} {u : CS} (R : RP o c m u) {v1 : Int32} {v2 : Int32} : RF 0 o VE c u (fb_Cm_nameInPattern_0 N () u 35 v1 v2) (hb_Cm_nameInPattern_0 N () m v1 v2) := by
  unfold fb_Cm_nameInPattern_0 hb_Cm_nameInPattern_0
  refine rf_bo (rx_35_10 R) ?_
  refine rf_so ?_
  refine rf_wk (sx_42 R) (fun w17' w17 R_w17 => ?_)
  refine rf_br ?_ ?_
  · refine rf_bo (rx_35_2 R_w17) ?_
    refine rf_so ?_
    refine rf_ck (ox_22 R_w17) ?_
    refine rf_bx0 (ym_Co_put R_w17) (fun u24' u24 r24 R_u24 => ?_)
    exact (yb_Cm_nameInPattern_92 R_u24)
  · refine rf_bo (gx_35_13 R_w17) ?_
    refine rf_br ?_ ?_
    · exact (yb_Cm_nameInPattern_46 R_w17)
    · refine rf_bo (rx_35_7 R_w17) ?_
      refine rf_bo (gx_35_9 R_w17) ?_
      refine rf_so ?_
      refine rf_ai (ax_40 R_w17) ?_
      exact (yb_Cm_nameInPattern_46 R_w17)
theorem ym_Cm_nameInPattern {N : Nat} {o : Option Nat} {c : Nat → Nat} {m : MS} {u : CS} (R : RP o c m u) {v1 : Int32} {v2 : Int32} : RF 0 o VE c u (fm_Cm_nameInPattern N u 35 v1 v2) (hm_Cm_nameInPattern N m v1 v2) := yb_Cm_nameInPattern_0 (N := N) R
def SC_Cm_listPattern (o : Option Nat) (S : SG_Cm_listPattern) (S' : SF_Cm_listPattern) : Prop := (∀ (c : Nat → Nat) (m : MS) (u : CS) (v1 : Int32), RP o c m u → RF 0 o VE c u (S.1 u 35 v1) (S'.1 m v1)) ∧ (∀ (c : Nat → Nat) (m : MS) (u : CS) (v1 : Int32), RP o c m u → RF 0 o VE c u (S.2 u 35 v1) (S'.2 m v1))
theorem yb_Cm_listPattern_84 {N : Nat} {o : Option Nat} {c : Nat → Nat} {m : MS} {u : CS} {S : SG_Cm_listPattern} {S' : SF_Cm_listPattern} {G : (CS → Nat → Int32 → Int32 → Option (CS × Unit))} {G' : (MS → Int32 → Int32 → Option (MS × Unit))} (hS : SC_Cm_listPattern o S S') (hG : ∀ (c : Nat → Nat) (m : MS) (u : CS) (v1 : Int32) (v2 : Int32), RP o c m u → RF 0 o VE c u (G u 35 v1 v2) (G' m v1 v2)) (R : RP o c m u) : RF 0 o VE c u (fb_Cm_listPattern_84 N S G u) (hb_Cm_listPattern_84 N S' G' m) := by
  unfold fb_Cm_listPattern_84 hb_Cm_listPattern_84
  exact rf_ret R rfl
theorem yb_Cm_listPattern_10 {N : Nat} {o : Option Nat} {c : Nat → Nat} {m : MS} {u : CS} {S : SG_Cm_listPattern} {S' : SF_Cm_listPattern} {G : (CS → Nat → Int32 → Int32 → Option (CS × Unit))} {G' : (MS → Int32 → Int32 → Option (MS × Unit))} (hS : SC_Cm_listPattern o S S') (hG : ∀ (c : Nat → Nat) (m : MS) (u : CS) (v1 : Int32) (v2 : Int32), RP o c m u → RF 0 o VE c u (G u 35 v1 v2) (G' m v1 v2)) (R : RP o c m u) {v1 : Int32} {v2 : Int32} : RF 0 o VE c u (fb_Cm_listPattern_10 N S G u 35 v1 v2) (hb_Cm_listPattern_10 N S' G' m v1 v2) := by
  unfold fb_Cm_listPattern_10 hb_Cm_listPattern_10
  refine rf_br ?_ ?_
  · refine rf_bo (rx_35_1 R) ?_
    refine rf_so ?_
    refine rf_bo (rx_15_4 R) ?_
    refine rf_so ?_
    refine rf_ai (ax_20 R) ?_
    refine rf_br ?_ ?_
    · refine rf_bo (rx_35_2 R) ?_
      refine rf_so ?_
      refine rf_ck (ox_22 R) ?_
      refine rf_bx0 (ym_Co_put R) (fun u7' u7 r7 R_u7 => ?_)
      refine rf_ck (ox_35 R_u7) ?_
      refine rf_bx0 (ym_Cm_term R_u7) (fun u9' u9 r9 R_u9 => ?_)
      exact (yb_Cm_listPattern_84 hS hG R_u9)
    · refine rf_bo (rx_35_1 R) ?_
      refine rf_so ?_
      refine rf_bo (rx_15_4 R) ?_
      refine rf_so ?_
      refine rf_ai (ax_20 R) ?_
      refine rf_ck (ox_35 R) ?_
      refine rf_bx0 (hS.2 _ _ _ _ R) (fun u15' u15 r15 R_u15 => ?_)
      exact (yb_Cm_listPattern_84 hS hG R_u15)
  · refine rf_bo (rx_35_2 R) ?_
    refine rf_so ?_
    refine rf_ck (ox_22 R) ?_
    refine rf_bx0 (ym_Co_put R) (fun u17' u17 r17 R_u17 => ?_)
    refine rf_ck (ox_35 R_u17) ?_
    refine rf_bx0 (hS.2 _ _ _ _ R_u17) (fun u19' u19 r19 R_u19 => ?_)
    refine rf_bo (rx_35_1 R_u19) ?_
    refine rf_so ?_
    refine rf_bo (rx_15_5 R_u19) ?_
    refine rf_so ?_
    refine rf_ai (ax_21 R_u19) ?_
    exact (hG _ _ _ _ _ R_u19)
theorem yb_Cm_listPattern_0 {N : Nat} {o : Option Nat} {c : Nat → Nat} {m : MS} {u : CS} {S : SG_Cm_listPattern} {S' : SF_Cm_listPattern} {G : (CS → Nat → Int32 → Int32 → Option (CS × Unit))} {G' : (MS → Int32 → Int32 → Option (MS × Unit))} (hS : SC_Cm_listPattern o S S') (hG : ∀ (c : Nat → Nat) (m : MS) (u : CS) (v1 : Int32) (v2 : Int32), RP o c m u → RF 0 o VE c u (G u 35 v1 v2) (G' m v1 v2)) (R : RP o c m u) {v1 : Int32} : RF 0 o VE c u (fb_Cm_listPattern_0 N S G u 35 v1) (hb_Cm_listPattern_0 N S' G' m v1) := by
  unfold fb_Cm_listPattern_0 hb_Cm_listPattern_0
  refine rf_bo (rx_35_1 R) ?_
  refine rf_so ?_
  refine rf_bo (rx_15_2 R) ?_
  refine rf_so ?_
  refine rf_ai (ax_18 R) ?_
  exact (hG _ _ _ _ _ R)
theorem yg_Cm_listPattern {N : Nat} {o : Option Nat} {S : SG_Cm_listPattern} {S' : SF_Cm_listPattern} (hS : SC_Cm_listPattern o S S') : ∀ n, (∀ (c : Nat → Nat) (m : MS) (u : CS) (v1 : Int32) (v2 : Int32), RP o c m u → RF 0 o VE c u ((gg_Cm_listPattern N S n) u 35 v1 v2) ((hg_Cm_listPattern N S' n) m v1 v2)) := by
  intro n
  induction n with
  | zero => exact fun c m u v1 v2 R => rf_none
  | succ n ih => exact fun c m u v1 v2 R => yb_Cm_listPattern_10 (N := N) hS ih R
theorem ym_Cm_listPattern {N : Nat} {o : Option Nat} {c : Nat → Nat} {m : MS} {u : CS} {S : SG_Cm_listPattern} {S' : SF_Cm_listPattern} (hS : SC_Cm_listPattern o S S') (R : RP o c m u) {v1 : Int32} : RF 0 o VE c u (fm_Cm_listPattern N S u 35 v1) (hm_Cm_listPattern N S' m v1) := yb_Cm_listPattern_0 (N := N) hS (yg_Cm_listPattern (N := N) hS N) R
theorem yb_Cm_pattern_298 {N : Nat} {o : Option Nat} {c : Nat → Nat} {m : MS} {u : CS} {S : SG_Cm_listPattern} {S' : SF_Cm_listPattern} {G : (CS → Nat → Int32 → Option (CS × Unit))} {G' : (MS → Int32 → Option (MS × Unit))} (hS : SC_Cm_listPattern o S S') (hG : ∀ (c : Nat → Nat) (m : MS) (u : CS) (v2 : Int32), RP o c m u → RF 0 o VE c u (G u 35 v2) (G' m v2)) (R : RP o c m u) : RF 0 o VE c u (fb_Cm_pattern_298 N S G u) (hb_Cm_pattern_298 N S' G' m) := by
  unfold fb_Cm_pattern_298 hb_Cm_pattern_298
  exact rf_ret R rfl
theorem yb_Cm_pattern_268 {N : Nat} {o : Option Nat} {c : Nat → Nat} {m : MS} {u : CS} {S : SG_Cm_listPattern} {S' : SF_Cm_listPattern} {G : (CS → Nat → Int32 → Option (CS × Unit))} {G' : (MS → Int32 → Option (MS × Unit))} (hS : SC_Cm_listPattern o S S') (hG : ∀ (c : Nat → Nat) (m : MS) (u : CS) (v2 : Int32), RP o c m u → RF 0 o VE c u (G u 35 v2) (G' m v2)) (R : RP o c m u) {v2 : Int32} : RF 0 o VE c u (fb_Cm_pattern_268 N S G u 35 v2) (hb_Cm_pattern_268 N S' G' m v2) := by
  unfold fb_Cm_pattern_268 hb_Cm_pattern_268
  refine rf_br ?_ ?_
  · exact (yb_Cm_pattern_298 hS hG R)
  · refine rf_ck (ox_35 R) ?_
    refine rf_bx0 (hS.2 _ _ _ _ R) (fun u1' u1 r1 R_u1 => ?_)
    refine rf_bo (rx_35_1 R_u1) ?_
    refine rf_so ?_
    refine rf_bo (rx_15_5 R_u1) ?_
    refine rf_so ?_
    refine rf_ai (ax_21 R_u1) ?_
    exact (hG _ _ _ _ R_u1)
theorem yb_Cm_pattern_0 {N : Nat} {o : Option Nat} {c : Nat → Nat} {m : MS} {u : CS} {S : SG_Cm_listPattern} {S' : SF_Cm_listPattern} {G : (CS → Nat → Int32 → Option (CS × Unit))} {G' : (MS → Int32 → Option (MS × Unit))} (hS : SC_Cm_listPattern o S S') (hG : ∀ (c : Nat → Nat) (m : MS) (u : CS) (v2 : Int32), RP o c m u → RF 0 o VE c u (G u 35 v2) (G' m v2)) (R : RP o c m u) {v1 : Int32} : RF 0 o VE c u (fb_Cm_pattern_0 N S G u 35 v1) (hb_Cm_pattern_0 N S' G' m v1) := by
  unfold fb_Cm_pattern_0 hb_Cm_pattern_0
  refine rf_bo (rx_35_1 R) ?_
  refine rf_so ?_
  refine rf_bo (rx_15_0 R) ?_
  refine rf_so ?_
  refine rf_ai (ax_16 R) ?_
  refine rf_br ?_ ?_
  · refine rf_bo (rx_35_2 R) ?_
    refine rf_so ?_
    refine rf_ck (ox_22 R) ?_
    refine rf_bx0 (ym_Co_put R) (fun u13' u13 r13 R_u13 => ?_)
    refine rf_bo (rx_35_1 R_u13) ?_
    refine rf_so ?_
    refine rf_bo (rx_15_2 R_u13) ?_
    refine rf_so ?_
    refine rf_ai (ax_18 R_u13) ?_
    refine rf_ck (ox_35 R_u13) ?_
    refine rf_bx0 (ym_Cm_term R_u13) (fun u20' u20 r20 R_u20 => ?_)
    exact (yb_Cm_pattern_298 hS hG R_u20)
  · refine rf_br ?_ ?_
    · refine rf_bo (rx_35_2 R) ?_
      refine rf_so ?_
      refine rf_ck (ox_22 R) ?_
      refine rf_bx0 (ym_Co_put R) (fun u22' u22 r22 R_u22 => ?_)
      refine rf_bo (rx_35_1 R_u22) ?_
      refine rf_so ?_
      refine rf_bo (rx_15_2 R_u22) ?_
      refine rf_so ?_
      refine rf_ai (ax_18 R_u22) ?_
      refine rf_ck (ox_35 R_u22) ?_
      refine rf_bx0 (ym_Cm_term R_u22) (fun u29' u29 r29 R_u29 => ?_)
      exact (yb_Cm_pattern_298 hS hG R_u29)
    · refine rf_br ?_ ?_
      · refine rf_bo (rx_35_1 R) ?_
        refine rf_so ?_
        refine rf_bo (rx_15_2 R) ?_
        refine rf_so ?_
        refine rf_ai (ax_18 R) ?_
        refine rf_bo (rx_35_1 R) ?_
        refine rf_so ?_
        refine rf_bo (rx_15_1 R) ?_
        refine rf_so ?_
        refine rf_ai (ax_17 R) ?_
        refine rf_ck (ox_35 R) ?_
        refine rf_bx0 (ym_Cm_nameInPattern R) (fun u40' u40 r40 R_u40 => ?_)
        exact (yb_Cm_pattern_298 hS hG R_u40)
      · refine rf_br ?_ ?_
        · refine rf_bo (rx_35_2 R) ?_
          refine rf_so ?_
          refine rf_ck (ox_22 R) ?_
          refine rf_bx0 (ym_Co_put R) (fun u42' u42 r42 R_u42 => ?_)
          refine rf_ck (ox_35 R_u42) ?_
          refine rf_bx0 (ym_Cm_string R_u42) (fun u44' u44 r44 R_u44 => ?_)
          exact (yb_Cm_pattern_298 hS hG R_u44)
        · refine rf_br ?_ ?_
          · refine rf_bo (rx_35_1 R) ?_
            refine rf_so ?_
            refine rf_bo (rx_15_2 R) ?_
            refine rf_so ?_
            refine rf_ai (ax_18 R) ?_
            refine rf_ck (ox_35 R) ?_
            refine rf_bx0 (hS.2 _ _ _ _ R) (fun u50' u50 r50 R_u50 => ?_)
            exact (yb_Cm_pattern_298 hS hG R_u50)
          · refine rf_br ?_ ?_
            · refine rf_bo (rx_35_2 R) ?_
              refine rf_so ?_
              refine rf_ck (ox_22 R) ?_
              refine rf_bx0 (ym_Co_put R) (fun u52' u52 r52 R_u52 => ?_)
              refine rf_bo (rx_35_2 R_u52) ?_
              refine rf_bo (rx_35_1 R_u52) ?_
              refine rf_so ?_
              refine rf_bo (rx_15_3 R_u52) ?_
              refine rf_so ?_
              refine rf_ai (ax_19 R_u52) ?_
              refine rf_so ?_
              refine rf_ck (ox_22 R_u52) ?_
              refine rf_bx0 (ym_Co_put R_u52) (fun u60' u60 r60 R_u60 => ?_)
              refine rf_bo (rx_35_1 R_u60) ?_
              refine rf_so ?_
              refine rf_bo (rx_15_2 R_u60) ?_
              refine rf_so ?_
              refine rf_ai (ax_18 R_u60) ?_
              exact (hG _ _ _ _ R_u60)
            · refine rf_br ?_ ?_
              · refine rf_ck (ox_35 R) ?_
                refine rf_bx0 (hS.1 _ _ _ _ R) (fun u67' u67 r67 R_u67 => ?_)
                exact (yb_Cm_pattern_298 hS hG R_u67)
              · refine rf_br ?_ ?_
                · refine rf_ck (ox_35 R) ?_
                  refine rf_bx0 (hS.1 _ _ _ _ R) (fun u68' u68 r68 R_u68 => ?_)
                  exact (yb_Cm_pattern_298 hS hG R_u68)
                · refine rf_br ?_ ?_
                  · refine rf_ck (ox_35 R) ?_
                    refine rf_bx0 (hS.1 _ _ _ _ R) (fun u69' u69 r69 R_u69 => ?_)
                    exact (yb_Cm_pattern_298 hS hG R_u69)
                  · refine rf_br ?_ ?_
                    · refine rf_ck (ox_35 R) ?_
                      refine rf_bx0 (hS.1 _ _ _ _ R) (fun u70' u70 r70 R_u70 => ?_)
                      exact (yb_Cm_pattern_298 hS hG R_u70)
                    · refine rf_br ?_ ?_
                      · refine rf_ck (ox_35 R) ?_
                        refine rf_bx0 (hS.1 _ _ _ _ R) (fun u71' u71 r71 R_u71 => ?_)
                        exact (yb_Cm_pattern_298 hS hG R_u71)
                      · refine rf_br ?_ ?_
                        · refine rf_ck (ox_35 R) ?_
                          refine rf_bx0 (hS.1 _ _ _ _ R) (fun u72' u72 r72 R_u72 => ?_)
                          exact (yb_Cm_pattern_298 hS hG R_u72)
                        · refine rf_br ?_ ?_
                          · refine rf_ck (ox_35 R) ?_
                            refine rf_bx0 (hS.1 _ _ _ _ R) (fun u73' u73 r73 R_u73 => ?_)
                            exact (yb_Cm_pattern_298 hS hG R_u73)
                          · refine rf_br ?_ ?_
                            · refine rf_ck (ox_35 R) ?_
                              refine rf_bx0 (hS.1 _ _ _ _ R) (fun u74' u74 r74 R_u74 => ?_)
                              exact (yb_Cm_pattern_298 hS hG R_u74)
                            · refine rf_br ?_ ?_
                              · refine rf_ck (ox_35 R) ?_
                                refine rf_bx0 (hS.1 _ _ _ _ R) (fun u75' u75 r75 R_u75 => ?_)
                                exact (yb_Cm_pattern_298 hS hG R_u75)
                              · refine rf_br ?_ ?_
                                · refine rf_ck (ox_35 R) ?_
                                  refine rf_bx0 (hS.1 _ _ _ _ R) (fun u76' u76 r76 R_u76 => ?_)
                                  exact (yb_Cm_pattern_298 hS hG R_u76)
                                · refine rf_br ?_ ?_
                                  · refine rf_bo (rx_35_2 R) ?_
                                    refine rf_so ?_
                                    refine rf_ck (ox_22 R) ?_
                                    refine rf_bx0 (ym_Co_put R) (fun u78' u78 r78 R_u78 => ?_)
                                    refine rf_bo (rx_35_1 R_u78) ?_
                                    refine rf_so ?_
                                    refine rf_bo (rx_15_2 R_u78) ?_
                                    refine rf_bo (rx_35_1 R_u78) ?_
                                    refine rf_so ?_
                                    refine rf_bo (rx_15_2 R_u78) ?_
                                    refine rf_so ?_
                                    refine rf_ai (ax_18 R_u78) ?_
                                    refine rf_so ?_
                                    refine rf_ai (ax_18 R_u78) ?_
                                    refine rf_ck (ox_35 R_u78) ?_
                                    refine rf_bx0 (ym_Cm_term R_u78) (fun u90' u90 r90 R_u90 => ?_)
                                    exact (yb_Cm_pattern_298 hS hG R_u90)
                                  · refine rf_ck (ox_35 R) ?_
                                    refine rf_bx0 (hS.1 _ _ _ _ R) (fun u91' u91 r91 R_u91 => ?_)
                                    exact (yb_Cm_pattern_298 hS hG R_u91)
theorem yg_Cm_pattern {N : Nat} {o : Option Nat} {S : SG_Cm_listPattern} {S' : SF_Cm_listPattern} (hS : SC_Cm_listPattern o S S') : ∀ n, (∀ (c : Nat → Nat) (m : MS) (u : CS) (v2 : Int32), RP o c m u → RF 0 o VE c u ((gg_Cm_pattern N S n) u 35 v2) ((hg_Cm_pattern N S' n) m v2)) := by
  intro n
  induction n with
  | zero => exact fun c m u v2 R => rf_none
  | succ n ih => exact fun c m u v2 R => yb_Cm_pattern_268 (N := N) hS ih R
theorem ym_Cm_pattern {N : Nat} {o : Option Nat} {c : Nat → Nat} {m : MS} {u : CS} {S : SG_Cm_listPattern} {S' : SF_Cm_listPattern} (hS : SC_Cm_listPattern o S S') (R : RP o c m u) {v1 : Int32} : RF 0 o VE c u (fm_Cm_pattern N S u 35 v1) (hm_Cm_pattern N S' m v1) := yb_Cm_pattern_0 (N := N) hS (yg_Cm_pattern (N := N) hS N) R
theorem yrc_Cm_listPattern {N : Nat} {o : Option Nat} : ∀ d, SC_Cm_listPattern o (rc_Cm_listPattern N d) (hrc_Cm_listPattern N d) := by
  intro d
  induction d with
  | zero => exact ⟨fun c m u v1 R => rf_none, fun c m u v1 R => rf_none⟩
  | succ d ih => exact ⟨fun c m u v1 R => ym_Cm_listPattern (N := N) ih R, fun c m u v1 R => ym_Cm_pattern (N := N) ih R⟩
theorem yr_Cm_pattern {N : Nat} {o : Option Nat} {c : Nat → Nat} {m : MS} {u : CS} (R : RP o c m u) {v1 : Int32} : RF 0 o VE c u (fr_Cm_pattern N u 35 v1) (hr_Cm_pattern N m v1) := (yrc_Cm_listPattern (N := N) 300).2 _ _ _ _ R
theorem yb_Cm_notInGuard_14 {N : Nat} {o : Option Nat} {c : Nat → Nat} {m : MS} {u : CS} (R : RP o c m u) : RF 0 o VE c u (fb_Cm_notInGuard_14 N () u) (hb_Cm_notInGuard_14 N () m) := by
  unfold fb_Cm_notInGuard_14 hb_Cm_notInGuard_14
  exact rf_ret R rfl
theorem yb_Cm_notInGuard_0 {N : Nat} {o : Option Nat} {c : Nat → Nat} {m : MS} {u : CS} (R : RP o c m u) {v1 : Int32} : RF 0 o VE c u (fb_Cm_notInGuard_0 N () u 35 v1) (hb_Cm_notInGuard_0 N () m v1) := by
  unfold fb_Cm_notInGuard_0 hb_Cm_notInGuard_0
  refine rf_bo (gx_35_12 R) ?_
  refine rf_br ?_ ?_
  · exact (yb_Cm_notInGuard_14 R)
  · refine rf_ck (ox_35 R) ?_
    refine rf_bx0 (ym_Cm_fault R) (fun u2' u2 r2 R_u2 => ?_)
    exact (yb_Cm_notInGuard_14 R_u2)
theorem ym_Cm_notInGuard {N : Nat} {o : Option Nat} {c : Nat → Nat} {m : MS} {u : CS} (R : RP o c m u) {v1 : Int32} : RF 0 o VE c u (fm_Cm_notInGuard N u 35 v1) (hm_Cm_notInGuard N m v1) := yb_Cm_notInGuard_0 (N := N) R
theorem yb_Cm_joining_106 {N : Nat} {o : Option Nat} {c : Nat → Nat} {m : MS} {u : CS} (R : RP o c m u) {v1 : Int32} : RF 0 o VE c u (fb_Cm_joining_106 N () u 35 v1) (hb_Cm_joining_106 N () m v1) := by
  unfold fb_Cm_joining_106 hb_Cm_joining_106
  refine rf_bo (rx_35_2 R) ?_
  refine rf_so ?_
  refine rf_ck (ox_22 R) ?_
  refine rf_bx0 (ym_Co_put R) (fun u2' u2 r2 R_u2 => ?_)
  exact rf_ret R_u2 rfl
theorem yb_Cm_joining_0 {N : Nat} {o : Option Nat} {c : Nat → Nat} {m : MS} {u : CS} (R : RP o c m u) {v1 : Int32} {v2 : Int32} : RF 0 o VE c u (fb_Cm_joining_0 N () u 35 v1 v2) (hb_Cm_joining_0 N () m v1 v2) := by
  unfold fb_Cm_joining_0 hb_Cm_joining_0
  refine rf_br ?_ ?_
  · refine rf_bo (rx_35_2 R) ?_
    refine rf_so ?_
    refine rf_ck (ox_22 R) ?_
    refine rf_bx0 (ym_Co_put R) (fun u5' u5 r5 R_u5 => ?_)
    exact (yb_Cm_joining_106 R_u5)
  · refine rf_br ?_ ?_
    · refine rf_bo (rx_35_2 R) ?_
      refine rf_so ?_
      refine rf_ck (ox_22 R) ?_
      refine rf_bx0 (ym_Co_put R) (fun u8' u8 r8 R_u8 => ?_)
      exact (yb_Cm_joining_106 R_u8)
    · refine rf_br ?_ ?_
      · refine rf_bo (rx_35_2 R) ?_
        refine rf_so ?_
        refine rf_ck (ox_22 R) ?_
        refine rf_bx0 (ym_Co_put R) (fun u11' u11 r11 R_u11 => ?_)
        exact (yb_Cm_joining_106 R_u11)
      · refine rf_br ?_ ?_
        · refine rf_bo (rx_35_2 R) ?_
          refine rf_so ?_
          refine rf_ck (ox_22 R) ?_
          refine rf_bx0 (ym_Co_put R) (fun u14' u14 r14 R_u14 => ?_)
          exact (yb_Cm_joining_106 R_u14)
        · refine rf_br ?_ ?_
          · refine rf_bo (rx_35_2 R) ?_
            refine rf_so ?_
            refine rf_ck (ox_22 R) ?_
            refine rf_bx0 (ym_Co_put R) (fun u17' u17 r17 R_u17 => ?_)
            exact (yb_Cm_joining_106 R_u17)
          · refine rf_br ?_ ?_
            · refine rf_ck (ox_35 R) ?_
              refine rf_bx0 (ym_Cm_notInGuard R) (fun u19' u19 r19 R_u19 => ?_)
              refine rf_bo (rx_35_2 R_u19) ?_
              refine rf_so ?_
              refine rf_ck (ox_22 R_u19) ?_
              refine rf_bx0 (ym_Co_put R_u19) (fun u21' u21 r21 R_u21 => ?_)
              exact (yb_Cm_joining_106 R_u21)
            · refine rf_br ?_ ?_
              · refine rf_ck (ox_35 R) ?_
                refine rf_bx0 (ym_Cm_notInGuard R) (fun u23' u23 r23 R_u23 => ?_)
                refine rf_bo (rx_35_2 R_u23) ?_
                refine rf_so ?_
                refine rf_ck (ox_22 R_u23) ?_
                refine rf_bx0 (ym_Co_put R_u23) (fun u25' u25 r25 R_u25 => ?_)
                exact (yb_Cm_joining_106 R_u25)
              · refine rf_bo (rx_35_2 R) ?_
                refine rf_so ?_
                refine rf_ck (ox_22 R) ?_
                refine rf_bx0 (ym_Co_put R) (fun u28' u28 r28 R_u28 => ?_)
                exact (yb_Cm_joining_106 R_u28)
theorem ym_Cm_joining {N : Nat} {o : Option Nat} {c : Nat → Nat} {m : MS} {u : CS} (R : RP o c m u) {v1 : Int32} {v2 : Int32} : RF 0 o VE c u (fm_Cm_joining N u 35 v1 v2) (hm_Cm_joining N m v1 v2) := yb_Cm_joining_0 (N := N) R
