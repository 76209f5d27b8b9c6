set_option maxRecDepth 100000
theorem yb_Cm_tries_181 {N : Nat} {o : Option Nat} {c : Nat → Nat} {m : MS} {u : CS} {S : SG_Cm_fun} {S' : SF_Cm_fun} {G : (CS → Nat → Int32 → Int32 → Int32 → Int32 → Option (CS × Int32)) × (CS → Nat → Int32 → Int32 → Int32 → Option (CS × Int32))} {G' : (MS → Int32 → Int32 → Int32 → Int32 → Option (MS × Int32)) × (MS → Int32 → Int32 → Int32 → Option (MS × Int32))} (hS : SC_Cm_fun o S S') (hG1 : ∀ (c : Nat → Nat) (m : MS) (u : CS) (v2 : Int32) (v3 : Int32) (v4 : Int32) (v5 : Int32), RP o c m u → RF 0 o VE c u (G.1 u 35 v2 v3 v4 v5) (G'.1 m v2 v3 v4 v5)) (hG2 : ∀ (c : Nat → Nat) (m : MS) (u : CS) (v4 : Int32) (v5 : Int32) (v6 : Int32), RP o c m u → RF 0 o VE c u (G.2 u 35 v4 v5 v6) (G'.2 m v4 v5 v6)) (R : RP o c m u) {v4 : Int32} {v5 : Int32} {v6 : Int32} : RF 0 o VE c u (fb_Cm_tries_181 N S G u 35 v4 v5 v6) (hb_Cm_tries_181 N S' G' m v4 v5 v6) := by
  unfold fb_Cm_tries_181 hb_Cm_tries_181
  refine rf_br ?_ ?_
  · refine rf_bo (rx_35_2 R) ?_
    refine rf_so ?_
    refine rf_ck (ox_22 R) ?_
    refine rf_bx0 (ym_Co_put R) (fun u2' u2 r2 R_u2 => ?_)
    refine rf_ckk ?_
    refine rf_w (px_35_12 R_u2) (fun w4' w4 R_w4 => ?_)
    exact rf_ret R_w4 rfl
  · refine rf_ck (ox_35 R) ?_
    refine rf_bx0 (hS.2.2.2.2.2.2.2.2.2.2.1 _ _ _ _ _ R) (fun u5' u5 r5 R_u5 => ?_)
    refine rf_bo (rx_35_2 R_u5) ?_
    refine rf_so ?_
    refine rf_ck (ox_22 R_u5) ?_
    refine rf_bx0 (ym_Co_put R_u5) (fun u7' u7 r7 R_u7 => ?_)
    refine rf_bo (rx_35_1 R_u7) ?_
    refine rf_so ?_
    refine rf_bo (rx_15_5 R_u7) ?_
    refine rf_so ?_
    refine rf_ai (ax_21 R_u7) ?_
    exact (hG2 _ _ _ _ _ _ R_u7)
theorem yb_Cm_tries_111 {N : Nat} {o : Option Nat} {c : Nat → Nat} {m : MS} {u : CS} {S : SG_Cm_fun} {S' : SF_Cm_fun} {G : (CS → Nat → Int32 → Int32 → Int32 → Int32 → Option (CS × Int32)) × (CS → Nat → Int32 → Int32 → Int32 → Option (CS × Int32))} {G' : (MS → Int32 → Int32 → Int32 → Int32 → Option (MS × Int32)) × (MS → Int32 → Int32 → Int32 → Option (MS × Int32))} (hS : SC_Cm_fun o S S') (hG1 : ∀ (c : Nat → Nat) (m : MS) (u : CS) (v2 : Int32) (v3 : Int32) (v4 : Int32) (v5 : Int32), RP o c m u → RF 0 o VE c u (G.1 u 35 v2 v3 v4 v5) (G'.1 m v2 v3 v4 v5)) (hG2 : ∀ (c : Nat → Nat) (m : MS) (u : CS) (v4 : Int32) (v5 : Int32) (v6 : Int32), RP o c m u → RF 0 o VE c u (G.2 u 35 v4 v5 v6) (G'.2 m v4 v5 v6)) (R : RP o c m u) {v2 : Int32} {v3 : Int32} {v4 : Int32} : RF 0 o VE c u (fb_Cm_tries_111 N S G u 35 v2 v3 v4) (hb_Cm_tries_111 N S' G' m v2 v3 v4) := by
  unfold fb_Cm_tries_111 hb_Cm_tries_111
  refine rf_bo (rx_35_1 R) ?_
  refine rf_so ?_
  refine rf_bo (rx_15_3 R) ?_
  refine rf_so ?_
  refine rf_ai (ax_19 R) ?_
  refine rf_br ?_ ?_
  · exact rf_ret R rfl
  · refine rf_bo (gx_35_12 R) ?_
    refine rf_w (px_35_12 R) (fun w20' w20 R_w20 => ?_)
    refine rf_bo (rx_35_2 R_w20) ?_
    refine rf_so ?_
    refine rf_ck (ox_22 R_w20) ?_
    refine rf_bx0 (ym_Co_put R_w20) (fun u22' u22 r22 R_u22 => ?_)
    refine rf_bo (rx_35_2 R_u22) ?_
    refine rf_bo (gx_35_6 R_u22) ?_
    refine rf_so ?_
    refine rf_ck (ox_22 R_u22) ?_
    refine rf_bx0 (ym_Co_put R_u22) (fun u26' u26 r26 R_u26 => ?_)
    refine rf_bo (rx_35_2 R_u26) ?_
    refine rf_so ?_
    refine rf_ck (ox_22 R_u26) ?_
    refine rf_bx0 (ym_Co_hook R_u26) (fun u29' u29 r29 R_u29 => ?_)
    refine rf_bo (rx_35_1 R_u29) ?_
    refine rf_so ?_
    refine rf_bo (rx_15_3 R_u29) ?_
    refine rf_so ?_
    refine rf_ai (ax_19 R_u29) ?_
    exact (hG2 _ _ _ _ _ _ R_u29)
theorem yb_Cm_tries_71 {N : Nat} {o : Option Nat} {c : Nat → Nat} {m : MS} {u : CS} {S : SG_Cm_fun} {S' : SF_Cm_fun} {G : (CS → Nat → Int32 → Int32 → Int32 → Int32 → Option (CS × Int32)) × (CS → Nat → Int32 → Int32 → Int32 → Option (CS × Int32))} {G' : (MS → Int32 → Int32 → Int32 → Int32 → Option (MS × Int32)) × (MS → Int32 → Int32 → Int32 → Option (MS × Int32))} (hS : SC_Cm_fun o S S') (hG1 : ∀ (c : Nat → Nat) (m : MS) (u : CS) (v2 : Int32) (v3 : Int32) (v4 : Int32) (v5 : Int32), RP o c m u → RF 0 o VE c u (G.1 u 35 v2 v3 v4 v5) (G'.1 m v2 v3 v4 v5)) (hG2 : ∀ (c : Nat → Nat) (m : MS) (u : CS) (v4 : Int32) (v5 : Int32) (v6 : Int32), RP o c m u → RF 0 o VE c u (G.2 u 35 v4 v5 v6) (G'.2 m v4 v5 v6)) (R : RP o c m u) {v2 : Int32} {v3 : Int32} {v4 : Int32} {v5 : Int32} : RF 0 o VE c u (fb_Cm_tries_71 N S G u 35 v2 v3 v4 v5) (hb_Cm_tries_71 N S' G' m v2 v3 v4 v5) := by
  unfold fb_Cm_tries_71 hb_Cm_tries_71
  refine rf_br ?_ ?_
  · refine rf_w (px_35_13 R) (fun w36' w36 R_w36 => ?_)
    refine rf_bo (rx_35_2 R_w36) ?_
    refine rf_so ?_
    refine rf_ck (ox_22 R_w36) ?_
    refine rf_bx0 (ym_Co_put R_w36) (fun u38' u38 r38 R_u38 => ?_)
    exact (yb_Cm_tries_111 hS hG1 hG2 R_u38)
  · refine rf_ck (ox_35 R) ?_
    refine rf_bx0 (yr_Cm_pattern R) (fun u40' u40 r40 R_u40 => ?_)
    refine rf_bo (rx_35_1 R_u40) ?_
    refine rf_so ?_
    refine rf_bo (rx_15_5 R_u40) ?_
    refine rf_so ?_
    refine rf_ai (ax_21 R_u40) ?_
    exact (hG1 _ _ _ _ _ _ _ R_u40)
theorem yb_Cm_tries_57 {N : Nat} {o : Option Nat} {c : Nat → Nat} {m : MS} {u : CS} {S : SG_Cm_fun} {S' : SF_Cm_fun} {G : (CS → Nat → Int32 → Int32 → Int32 → Int32 → Option (CS × Int32)) × (CS → Nat → Int32 → Int32 → Int32 → Option (CS × Int32))} {G' : (MS → Int32 → Int32 → Int32 → Int32 → Option (MS × Int32)) × (MS → Int32 → Int32 → Int32 → Option (MS × Int32))} (hS : SC_Cm_fun o S S') (hG1 : ∀ (c : Nat → Nat) (m : MS) (u : CS) (v2 : Int32) (v3 : Int32) (v4 : Int32) (v5 : Int32), RP o c m u → RF 0 o VE c u (G.1 u 35 v2 v3 v4 v5) (G'.1 m v2 v3 v4 v5)) (hG2 : ∀ (c : Nat → Nat) (m : MS) (u : CS) (v4 : Int32) (v5 : Int32) (v6 : Int32), RP o c m u → RF 0 o VE c u (G.2 u 35 v4 v5 v6) (G'.2 m v4 v5 v6)) (R : RP o c m u) {v2 : Int32} {v3 : Int32} {v4 : Int32} {t1 : Int32} : RF 0 o VE c u (fb_Cm_tries_57 N S G u 35 v2 v3 v4 35 t1) (hb_Cm_tries_57 N S' G' m v2 v3 v4 t1) := by
  unfold fb_Cm_tries_57 hb_Cm_tries_57
  refine rf_ckk ?_
  refine rf_w (px_35_13 R) (fun w46' w46 R_w46 => ?_)
  refine rf_bo (rx_35_1 R_w46) ?_
  refine rf_so ?_
  refine rf_bo (rx_15_2 R_w46) ?_
  refine rf_so ?_
  refine rf_ai (ax_18 R_w46) ?_
  exact (hG1 _ _ _ _ _ _ _ R_w46)
theorem yb_Cm_tries_0 {N : Nat} {o : Option Nat} {c : Nat → Nat} {m : MS} {u : CS} {S : SG_Cm_fun} {S' : SF_Cm_fun} {G : (CS → Nat → Int32 → Int32 → Int32 → Int32 → Option (CS × Int32)) × (CS → Nat → Int32 → Int32 → Int32 → Option (CS × Int32))} {G' : (MS → Int32 → Int32 → Int32 → Int32 → Option (MS × Int32)) × (MS → Int32 → Int32 → Int32 → Option (MS × Int32))} (hS : SC_Cm_fun o S S') (hG1 : ∀ (c : Nat → Nat) (m : MS) (u : CS) (v2 : Int32) (v3 : Int32) (v4 : Int32) (v5 : Int32), RP o c m u → RF 0 o VE c u (G.1 u 35 v2 v3 v4 v5) (G'.1 m v2 v3 v4 v5)) (hG2 : ∀ (c : Nat → Nat) (m : MS) (u : CS) (v4 : Int32) (v5 : Int32) (v6 : Int32), RP o c m u → RF 0 o VE c u (G.2 u 35 v4 v5 v6) (G'.2 m v4 v5 v6)) (R : RP o c m u) {v1 : Int32} {v2 : Int32} : RF 0 o VE c u (fb_Cm_tries_0 N S G u 35 v1 v2) (hb_Cm_tries_0 N S' G' m v1 v2) := by
  unfold fb_Cm_tries_0 hb_Cm_tries_0
  refine rf_bo (gx_35_6 R) ?_
  refine rf_bo (rx_35_1 R) ?_
  refine rf_so ?_
  refine rf_bo (rx_15_2 R) ?_
  refine rf_so ?_
  refine rf_ai (ax_18 R) ?_
  refine rf_br ?_ ?_
  · exact (yb_Cm_tries_111 hS hG1 hG2 R)
  · refine rf_bo (rx_35_2 R) ?_
    refine rf_so ?_
    refine rf_ck (ox_22 R) ?_
    refine rf_bx0 (ym_Co_put R) (fun u59' u59 r59 R_u59 => ?_)
    refine rf_bo (rx_35_2 R_u59) ?_
    refine rf_so ?_
    refine rf_ck (ox_22 R_u59) ?_
    refine rf_bx0 (ym_Co_put R_u59) (fun u62' u62 r62 R_u62 => ?_)
    refine rf_bo (rx_35_2 R_u62) ?_
    refine rf_so ?_
    refine rf_ck (ox_22 R_u62) ?_
    refine rf_bx0 (ym_Co_hook R_u62) (fun u65' u65 r65 R_u65 => ?_)
    refine rf_br ?_ ?_
    · exact (yb_Cm_tries_57 hS hG1 hG2 R_u65)
    · exact (yb_Cm_tries_57 hS hG1 hG2 R_u65)
theorem yg_Cm_tries {N : Nat} {o : Option Nat} {S : SG_Cm_fun} {S' : SF_Cm_fun} (hS : SC_Cm_fun o S S') : ∀ n, (∀ (c : Nat → Nat) (m : MS) (u : CS) (v2 : Int32) (v3 : Int32) (v4 : Int32) (v5 : Int32), RP o c m u → RF 0 o VE c u ((gg_Cm_tries N S n).1 u 35 v2 v3 v4 v5) ((hg_Cm_tries N S' n).1 m v2 v3 v4 v5)) ∧ (∀ (c : Nat → Nat) (m : MS) (u : CS) (v4 : Int32) (v5 : Int32) (v6 : Int32), RP o c m u → RF 0 o VE c u ((gg_Cm_tries N S n).2 u 35 v4 v5 v6) ((hg_Cm_tries N S' n).2 m v4 v5 v6)) := by
  intro n
  induction n with
  | zero => exact ⟨fun c m u v2 v3 v4 v5 R => rf_none, fun c m u v4 v5 v6 R => rf_none⟩
  | succ n ih => exact ⟨fun c m u v2 v3 v4 v5 R => yb_Cm_tries_71 (N := N) hS ih.1 ih.2 R, fun c m u v4 v5 v6 R => yb_Cm_tries_181 (N := N) hS ih.1 ih.2 R⟩
theorem ym_Cm_tries {N : Nat} {o : Option Nat} {c : Nat → Nat} {m : MS} {u : CS} {S : SG_Cm_fun} {S' : SF_Cm_fun} (hS : SC_Cm_fun o S S') (R : RP o c m u) {v1 : Int32} {v2 : Int32} : RF 0 o VE c u (fm_Cm_tries N S u 35 v1 v2) (hm_Cm_tries N S' m v1 v2) := yb_Cm_tries_0 (N := N) hS (yg_Cm_tries (N := N) hS N).1 (yg_Cm_tries (N := N) hS N).2 R
theorem yb_Cm_clause_0 {N : Nat} {o : Option Nat} {c : Nat → Nat} {m : MS} {u : CS} {S : SG_Cm_fun} {S' : SF_Cm_fun} (hS : SC_Cm_fun o S S') (R : RP o c m u) {v1 : Int32} {v2 : Int32} {v3 : Int32} : RF 0 o VE c u (fb_Cm_clause_0 N S () u 35 v1 v2 v3) (hb_Cm_clause_0 N S' () m v1 v2 v3) := by
  unfold fb_Cm_clause_0 hb_Cm_clause_0
  refine rf_bo (gx_35_6 R) ?_
  refine rf_ck (ox_35 R) ?_
  refine rf_bx0 (hS.2.2.2.2.2.2.2.2.2.2.2.1 _ _ _ _ _ R) (fun u2' u2 r2 R_u2 => ?_)
  refine rf_bo (rx_35_2 R_u2) ?_
  refine rf_so ?_
  refine rf_ck (ox_22 R_u2) ?_
  refine rf_bx0 (ym_Co_put R_u2) (fun u4' u4 r4 R_u4 => ?_)
  refine rf_bo (rx_35_2 R_u4) ?_
  refine rf_so ?_
  refine rf_ck (ox_22 R_u4) ?_
  refine rf_bx0 (ym_Co_put R_u4) (fun u7' u7 r7 R_u7 => ?_)
  refine rf_bo (rx_35_2 R_u7) ?_
  refine rf_so ?_
  refine rf_ck (ox_22 R_u7) ?_
  refine rf_bx0 (ym_Co_put R_u7) (fun u10' u10 r10 R_u10 => ?_)
  refine rf_bo (rx_35_1 R_u10) ?_
  refine rf_so ?_
  refine rf_bo (rx_15_4 R_u10) ?_
  refine rf_so ?_
  refine rf_ai (ax_20 R_u10) ?_
  refine rf_ck (ox_35 R_u10) ?_
  refine rf_bx0 (hS.2.2.2.1 _ _ _ _ _ R_u10) (fun u17' u17 r17 R_u17 => ?_)
  refine rf_bo (rx_35_2 R_u17) ?_
  refine rf_so ?_
  refine rf_ck (ox_22 R_u17) ?_
  refine rf_bx0 (ym_Co_put R_u17) (fun u19' u19 r19 R_u19 => ?_)
  refine rf_w (px_35_6 R_u19) (fun w21' w21 R_w21 => ?_)
  refine rf_bo (rx_35_2 R_w21) ?_
  refine rf_so ?_
  refine rf_ck (ox_22 R_w21) ?_
  refine rf_bx0 (ym_Co_arrive R_w21) (fun u23' u23 r23 R_u23 => ?_)
  exact rf_ret R_u23 rfl
theorem ym_Cm_clause {N : Nat} {o : Option Nat} {c : Nat → Nat} {m : MS} {u : CS} {S : SG_Cm_fun} {S' : SF_Cm_fun} (hS : SC_Cm_fun o S S') (R : RP o c m u) {v1 : Int32} {v2 : Int32} {v3 : Int32} : RF 0 o VE c u (fm_Cm_clause N S u 35 v1 v2 v3) (hm_Cm_clause N S' m v1 v2 v3) := yb_Cm_clause_0 (N := N) hS R
theorem yrc_Cm_fun {N : Nat} {o : Option Nat} : ∀ d, SC_Cm_fun o (rc_Cm_fun N d) (hrc_Cm_fun N d) := by
  intro d
  induction d with
  | zero => exact ⟨fun c m u v1 R => rf_none, fun c m u v1 v2 R => rf_none, fun c m u v1 v2 v3 v4 R => rf_none, fun c m u v1 v2 R => rf_none, fun c m u v1 v2 R => rf_none, fun c m u v1 v2 R => rf_none, fun c m u v1 v2 R => rf_none, fun c m u v1 R => rf_none, fun c m u v1 R => rf_none, fun c m u v1 R => rf_none, fun c m u v1 v2 R => rf_none, fun c m u v1 v2 R => rf_none, fun c m u v1 v2 v3 R => rf_none⟩
  | succ d ih => exact ⟨fun c m u v1 R => ym_Cm_fun (N := N) ih R, fun c m u v1 v2 R => ym_Cm_receive (N := N) ih R, fun c m u v1 v2 v3 v4 R => ym_Cm_parts (N := N) ih R, fun c m u v1 v2 R => ym_Cm_body (N := N) ih R, fun c m u v1 v2 R => ym_Cm_compound (N := N) ih R, fun c m u v1 v2 R => ym_Cm_apply (N := N) ih R, fun c m u v1 v2 R => ym_Cm_call (N := N) ih R, fun c m u v1 R => ym_Cm_signs (N := N) ih R, fun c m u v1 R => ym_Cm_list (N := N) ih R, fun c m u v1 R => ym_Cm_row (N := N) ih R, fun c m u v1 v2 R => ym_Cm_expression (N := N) ih R, fun c m u v1 v2 R => ym_Cm_tries (N := N) ih R, fun c m u v1 v2 v3 R => ym_Cm_clause (N := N) ih R⟩
theorem yr_Cm_clause {N : Nat} {o : Option Nat} {c : Nat → Nat} {m : MS} {u : CS} (R : RP o c m u) {v1 : Int32} {v2 : Int32} {v3 : Int32} : RF 0 o VE c u (fr_Cm_clause N u 35 v1 v2 v3) (hr_Cm_clause N m v1 v2 v3) := (yrc_Cm_fun (N := N) 300).2.2.2.2.2.2.2.2.2.2.2.2 _ _ _ _ _ _ R
theorem yb_Cm_oneFunction_268 {N : Nat} {o : Option Nat} {c : Nat → Nat} {m : MS} {u : CS} {G : (CS → Nat → Int32 → Int32 → Option (CS × Unit))} {G' : (MS → Int32 → Int32 → Option (MS × Unit))} (hG : ∀ (c : Nat → Nat) (m : MS) (u : CS) (v1 : Int32) (v3 : Int32), RP o c m u → RF 0 o VE c u (G u 35 v1 v3) (G' m v1 v3)) (R : RP o c m u) {t1 : Int32} : RF 0 o VE c u (fb_Cm_oneFunction_268 N G u 35 t1) (hb_Cm_oneFunction_268 N G' m t1) := by
  unfold fb_Cm_oneFunction_268 hb_Cm_oneFunction_268
  refine rf_ckk ?_
  refine rf_w (px_35_11 R) (fun w1' w1 R_w1 => ?_)
  exact rf_ret R_w1 rfl
theorem yb_Cm_oneFunction_263 {N : Nat} {o : Option Nat} {c : Nat → Nat} {m : MS} {u : CS} {G : (CS → Nat → Int32 → Int32 → Option (CS × Unit))} {G' : (MS → Int32 → Int32 → Option (MS × Unit))} (hG : ∀ (c : Nat → Nat) (m : MS) (u : CS) (v1 : Int32) (v3 : Int32), RP o c m u → RF 0 o VE c u (G u 35 v1 v3) (G' m v1 v3)) (R : RP o c m u) : RF 0 o VE c u (fb_Cm_oneFunction_263 N G u 35) (hb_Cm_oneFunction_263 N G' m) := by
  unfold fb_Cm_oneFunction_263 hb_Cm_oneFunction_263
  exact (yb_Cm_oneFunction_268 hG R)
theorem yb_Cm_oneFunction_205 {N : Nat} {o : Option Nat} {c : Nat → Nat} {m : MS} {u : CS} {G : (CS → Nat → Int32 → Int32 → Option (CS × Unit))} {G' : (MS → Int32 → Int32 → Option (MS × Unit))} (hG : ∀ (c : Nat → Nat) (m : MS) (u : CS) (v1 : Int32) (v3 : Int32), RP o c m u → RF 0 o VE c u (G u 35 v1 v3) (G' m v1 v3)) (R : RP o c m u) {v1 : Int32} {v3 : Int32} {v4 : Int32} {v5 : Int32} : RF 0 o VE c u (fb_Cm_oneFunction_205 N G u 35 v1 v3 v4 v5) (hb_Cm_oneFunction_205 N G' m v1 v3 v4 v5) := by
  unfold fb_Cm_oneFunction_205 hb_Cm_oneFunction_205
  refine rf_bo (rx_35_0 R) ?_
  refine rf_so ?_
  refine rf_bo (rx_4_4 R) ?_
  refine rf_so ?_
  refine rf_ai (ax_8 R) ?_
  refine rf_ck (ox_35 R) ?_
  refine rf_bx0 (yr_Cm_clause R) (fun u7' u7 r7 R_u7 => ?_)
  refine rf_bo (rx_35_1 R_u7) ?_
  refine rf_so ?_
  refine rf_bo (rx_15_5 R_u7) ?_
  refine rf_so ?_
  refine rf_ai (ax_21 R_u7) ?_
  exact (hG _ _ _ _ _ R_u7)
theorem yb_Cm_oneFunction_198 {N : Nat} {o : Option Nat} {c : Nat → Nat} {m : MS} {u : CS} {G : (CS → Nat → Int32 → Int32 → Option (CS × Unit))} {G' : (MS → Int32 → Int32 → Option (MS × Unit))} (hG : ∀ (c : Nat → Nat) (m : MS) (u : CS) (v1 : Int32) (v3 : Int32), RP o c m u → RF 0 o VE c u (G u 35 v1 v3) (G' m v1 v3)) (R : RP o c m u) {v1 : Int32} {v3 : Int32} {v4 : Int32} {v5 : Int32} : RF 0 o VE c u (fb_Cm_oneFunction_198 N G u 35 v1 v3 v4 v5) (hb_Cm_oneFunction_198 N G' m v1 v3 v4 v5) := by
  unfold fb_Cm_oneFunction_198 hb_Cm_oneFunction_198
  refine rf_ck (ox_35 R) ?_
  refine rf_bx0 (ym_Cm_fault R) (fun u13' u13 r13 R_u13 => ?_)
  exact (yb_Cm_oneFunction_205 hG R_u13)
theorem yb_Cm_oneFunction_129 {N : Nat} {o : Option Nat} {c : Nat → Nat} {m : MS} {u : CS} {G : (CS → Nat → Int32 → Int32 → Option (CS × Unit))} {G' : (MS → Int32 → Int32 → Option (MS × Unit))} (hG : ∀ (c : Nat → Nat) (m : MS) (u : CS) (v1 : Int32) (v3 : Int32), RP o c m u → RF 0 o VE c u (G u 35 v1 v3) (G' m v1 v3)) (R : RP o c m u) {v1 : Int32} {v3 : Int32} : RF 0 o VE c u (fb_Cm_oneFunction_129 N G u 35 v1 v3) (hb_Cm_oneFunction_129 N G' m v1 v3) := by
  unfold fb_Cm_oneFunction_129 hb_Cm_oneFunction_129
  refine rf_br ?_ ?_
  · refine rf_bo (rx_35_2 R) ?_
    refine rf_so ?_
    refine rf_ck (ox_22 R) ?_
    refine rf_bx0 (ym_Co_put R) (fun u15' u15 r15 R_u15 => ?_)
    refine rf_bo (gx_35_11 R_u15) ?_
    refine rf_br ?_ ?_
    · refine rf_bo (rx_35_8 R_u15) ?_
      refine rf_so ?_
      refine rf_ai (ax_41 R_u15) ?_
      refine rf_br ?_ ?_
      · exact (yb_Cm_oneFunction_268 hG R_u15)
      · exact (yb_Cm_oneFunction_263 hG R_u15)
    · exact (yb_Cm_oneFunction_263 hG R_u15)
  · refine rf_bo (rx_35_1 R) ?_
    refine rf_so ?_
    refine rf_bo (rx_15_1 R) ?_
    refine rf_so ?_
    refine rf_ai (ax_17 R) ?_
    refine rf_bo (rx_35_1 R) ?_
    refine rf_bo (rx_35_1 R) ?_
    refine rf_so ?_
    refine rf_bo (rx_15_2 R) ?_
    refine rf_so ?_
    refine rf_ai (ax_18 R) ?_
    refine rf_so ?_
    refine rf_ck (ox_15 R) ?_
    refine rf_bx0 (ym_Tr_length R) (fun u32' u32 r32 R_u32 => ?_)
    refine rf_bo (rx_35_0 R_u32) ?_
    refine rf_so ?_
    refine rf_bo (rx_4_3 R_u32) ?_
    refine rf_so ?_
    refine rf_ai (ax_7 R_u32) ?_
    refine rf_bo (rx_35_2 R_u32) ?_
    refine rf_so ?_
    refine rf_bo (rx_22_3 R_u32) ?_
    refine rf_so ?_
    refine rf_ai (ax_24 R_u32) ?_
    refine rf_br ?_ ?_
    · refine rf_bo (rx_35_2 R_u32) ?_
      refine rf_so ?_
      refine rf_bo (rx_22_4 R_u32) ?_
      refine rf_so ?_
      refine rf_ai (ax_25 R_u32) ?_
      refine rf_br ?_ ?_
      · exact (yb_Cm_oneFunction_205 hG R_u32)
      · exact (yb_Cm_oneFunction_198 hG R_u32)
    · exact (yb_Cm_oneFunction_198 hG R_u32)
theorem yb_Cm_oneFunction_79 {N : Nat} {o : Option Nat} {c : Nat → Nat} {m : MS} {u : CS} {G : (CS → Nat → Int32 → Int32 → Option (CS × Unit))} {G' : (MS → Int32 → Int32 → Option (MS × Unit))} (hG : ∀ (c : Nat → Nat) (m : MS) (u : CS) (v1 : Int32) (v3 : Int32), RP o c m u → RF 0 o VE c u (G u 35 v1 v3) (G' m v1 v3)) (R : RP o c m u) {v1 : Int32} : RF 0 o VE c u (fb_Cm_oneFunction_79 N G u 35 v1) (hb_Cm_oneFunction_79 N G' m v1) := by
  unfold fb_Cm_oneFunction_79 hb_Cm_oneFunction_79
  refine rf_w (px_35_9 R) (fun w49' w49 R_w49 => ?_)
  refine rf_w (px_35_6 R_w49) (fun w50' w50 R_w50 => ?_)
  refine rf_bo (rx_35_7 R_w50) ?_
  refine rf_so ?_
  refine rf_wk (sx_40 R_w50) (fun w53' w53 R_w53 => ?_)
  refine rf_bo (rx_35_8 R_w53) ?_
  refine rf_so ?_
  refine rf_wk (sx_41 R_w53) (fun w56' w56 R_w56 => ?_)
  refine rf_bo (rx_35_2 R_w56) ?_
  refine rf_so ?_
  refine rf_bo (rx_22_8 R_w56) ?_
  refine rf_bo (rx_35_2 R_w56) ?_
  refine rf_so ?_
  refine rf_bo (gx_22_1 R_w56) ?_
  refine rf_so ?_
  refine rf_wk (sx_29 R_w56) (fun w64' w64 R_w64 => ?_)
  refine rf_bo (rx_35_2 R_w64) ?_
  refine rf_so ?_
  refine rf_bo (rx_22_6 R_w64) ?_
  refine rf_so ?_
  refine rf_ai (ax_27 R_w64) ?_
  exact (hG _ _ _ _ _ R_w64)
theorem yb_Cm_oneFunction_73 {N : Nat} {o : Option Nat} {c : Nat → Nat} {m : MS} {u : CS} {G : (CS → Nat → Int32 → Int32 → Option (CS × Unit))} {G' : (MS → Int32 → Int32 → Option (MS × Unit))} (hG : ∀ (c : Nat → Nat) (m : MS) (u : CS) (v1 : Int32) (v3 : Int32), RP o c m u → RF 0 o VE c u (G u 35 v1 v3) (G' m v1 v3)) (R : RP o c m u) {v1 : Int32} {v2 : Int32} : RF 0 o VE c u (fb_Cm_oneFunction_73 N G u 35 v1 v2) (hb_Cm_oneFunction_73 N G' m v1 v2) := by
  unfold fb_Cm_oneFunction_73 hb_Cm_oneFunction_73
  refine rf_ck (ox_35 R) ?_
  refine rf_bx0 (ym_Cm_fault R) (fun u70' u70 r70 R_u70 => ?_)
  exact (yb_Cm_oneFunction_79 hG R_u70)
theorem yb_Cm_oneFunction_0 {N : Nat} {o : Option Nat} {c : Nat → Nat} {m : MS} {u : CS} {G : (CS → Nat → Int32 → Int32 → Option (CS × Unit))} {G' : (MS → Int32 → Int32 → Option (MS × Unit))} (hG : ∀ (c : Nat → Nat) (m : MS) (u : CS) (v1 : Int32) (v3 : Int32), RP o c m u → RF 0 o VE c u (G u 35 v1 v3) (G' m v1 v3)) (R : RP o c m u) {v1 : Int32} : RF 0 o VE c u (fb_Cm_oneFunction_0 N G u 35 v1) (hb_Cm_oneFunction_0 N G' m v1) := by
  unfold fb_Cm_oneFunction_0 hb_Cm_oneFunction_0
  refine rf_bo (rx_35_1 R) ?_
  refine rf_so ?_
  refine rf_bo (rx_15_1 R) ?_
  refine rf_bo (rx_35_2 R) ?_
  refine rf_so ?_
  refine rf_bo (rx_22_6 R) ?_
  refine rf_so ?_
  refine rf_ai (ax_27 R) ?_
  refine rf_so ?_
  refine rf_ai (ax_17 R) ?_
  refine rf_bo (rx_35_2 R) ?_
  refine rf_bo (rx_35_2 R) ?_
  refine rf_so ?_
  refine rf_bo (rx_22_3 R) ?_
  refine rf_so ?_
  refine rf_ai (ax_24 R) ?_
  refine rf_bo (rx_35_2 R) ?_
  refine rf_so ?_
  refine rf_bo (rx_22_4 R) ?_
  refine rf_so ?_
  refine rf_ai (ax_25 R) ?_
  refine rf_so ?_
  refine rf_ck (ox_22 R) ?_
  refine rf_bx0 (ym_Co_seek R) (fun u92' u92 r92 R_u92 => ?_)
  refine rf_br ?_ ?_
  · refine rf_bo (rx_35_2 R_u92) ?_
    refine rf_so ?_
    refine rf_bo (rx_22_3 R_u92) ?_
    refine rf_so ?_
    refine rf_ai (ax_24 R_u92) ?_
    refine rf_bo (rx_35_2 R_u92) ?_
    refine rf_so ?_
    refine rf_bo (rx_22_4 R_u92) ?_
    refine rf_so ?_
    refine rf_ai (ax_25 R_u92) ?_
    refine rf_ck (ox_35 R_u92) ?_
    refine rf_bx0 (ym_Cm_predefinedOf R_u92) (fun u104' u104 r104 R_u104 => ?_)
    refine rf_br ?_ ?_
    · exact (yb_Cm_oneFunction_79 hG R_u104)
    · exact (yb_Cm_oneFunction_73 hG R_u104)
  · exact (yb_Cm_oneFunction_73 hG R_u92)
theorem yg_Cm_oneFunction {N : Nat} {o : Option Nat} : ∀ n, (∀ (c : Nat → Nat) (m : MS) (u : CS) (v1 : Int32) (v3 : Int32), RP o c m u → RF 0 o VE c u ((gg_Cm_oneFunction N n) u 35 v1 v3) ((hg_Cm_oneFunction N n) m v1 v3)) := by
  intro n
  induction n with
  | zero => exact fun c m u v1 v3 R => rf_none
  | succ n ih => exact fun c m u v1 v3 R => yb_Cm_oneFunction_129 (N := N) ih R
theorem ym_Cm_oneFunction {N : Nat} {o : Option Nat} {c : Nat → Nat} {m : MS} {u : CS} (R : RP o c m u) {v1 : Int32} : RF 0 o VE c u (fm_Cm_oneFunction N u 35 v1) (hm_Cm_oneFunction N m v1) := yb_Cm_oneFunction_0 (N := N) (yg_Cm_oneFunction (N := N) N) R
theorem yb_Cm_compile_142 {N : Nat} {o : Option Nat} {c : Nat → Nat} {m : MS} {u : CS} {G : (CS → Nat → Int32 → Option (CS × Int32))} {G' : (MS → Int32 → Option (MS × Int32))} (hG : ∀ (c : Nat → Nat) (m : MS) (u : CS) (v1 : Int32), RP o c m u → RF 0 o VE c u (G u 35 v1) (G' m v1)) (R : RP o c m u) {t0 : Int32} : RF 0 o VE c u (fb_Cm_compile_142 N G u t0) (hb_Cm_compile_142 N G' m t0) := by
  unfold fb_Cm_compile_142 hb_Cm_compile_142
  exact rf_ret R rfl
theorem yb_Cm_compile_136 {N : Nat} {o : Option Nat} {c : Nat → Nat} {m : MS} {u : CS} {G : (CS → Nat → Int32 → Option (CS × Int32))} {G' : (MS → Int32 → Option (MS × Int32))} (hG : ∀ (c : Nat → Nat) (m : MS) (u : CS) (v1 : Int32), RP o c m u → RF 0 o VE c u (G u 35 v1) (G' m v1)) (R : RP o c m u) : RF 0 o VE c u (fb_Cm_compile_136 N G u) (hb_Cm_compile_136 N G' m) := by
  unfold fb_Cm_compile_136 hb_Cm_compile_136
  exact (yb_Cm_compile_142 hG R)
theorem yb_Cm_compile_124 {N : Nat} {o : Option Nat} {c : Nat → Nat} {m : MS} {u : CS} {G : (CS → Nat → Int32 → Option (CS × Int32))} {G' : (MS → Int32 → Option (MS × Int32))} (hG : ∀ (c : Nat → Nat) (m : MS) (u : CS) (v1 : Int32), RP o c m u → RF 0 o VE c u (G u 35 v1) (G' m v1)) (R : RP o c m u) {t0 : Int32} : RF 0 o VE c u (fb_Cm_compile_124 N G u 35 t0) (hb_Cm_compile_124 N G' m t0) := by
  unfold fb_Cm_compile_124 hb_Cm_compile_124
  refine rf_br ?_ ?_
  · refine rf_bo (gx_35_11 R) ?_
    refine rf_br ?_ ?_
    · exact (yb_Cm_compile_142 hG R)
    · exact (yb_Cm_compile_136 hG R)
  · exact (yb_Cm_compile_136 hG R)
theorem yb_Cm_compile_119 {N : Nat} {o : Option Nat} {c : Nat → Nat} {m : MS} {u : CS} {G : (CS → Nat → Int32 → Option (CS × Int32))} {G' : (MS → Int32 → Option (MS × Int32))} (hG : ∀ (c : Nat → Nat) (m : MS) (u : CS) (v1 : Int32), RP o c m u → RF 0 o VE c u (G u 35 v1) (G' m v1)) (R : RP o c m u) : RF 0 o VE c u (fb_Cm_compile_119 N G u 35) (hb_Cm_compile_119 N G' m) := by
  unfold fb_Cm_compile_119 hb_Cm_compile_119
  exact (yb_Cm_compile_124 hG R)
theorem yb_Cm_compile_23 {N : Nat} {o : Option Nat} {c : Nat → Nat} {m : MS} {u : CS} {G : (CS → Nat → Int32 → Option (CS × Int32))} {G' : (MS → Int32 → Option (MS × Int32))} (hG : ∀ (c : Nat → Nat) (m : MS) (u : CS) (v1 : Int32), RP o c m u → RF 0 o VE c u (G u 35 v1) (G' m v1)) (R : RP o c m u) {v1 : Int32} : RF 0 o VE c u (fb_Cm_compile_23 N G u 35 v1) (hb_Cm_compile_23 N G' m v1) := by
  unfold fb_Cm_compile_23 hb_Cm_compile_23
  refine rf_bo (rx_35_2 R) ?_
  refine rf_so ?_
  refine rf_bo (gx_22_2 R) ?_
  refine rf_br ?_ ?_
  · refine rf_bo (gx_35_14 R) ?_
    refine rf_br ?_ ?_
    · refine rf_bo (rx_35_2 R) ?_
      refine rf_so ?_
      refine rf_bo (gx_22_2 R) ?_
      refine rf_br ?_ ?_
      · exact (yb_Cm_compile_119 hG R)
      · refine rf_bo (rx_35_3 R) ?_
        refine rf_so ?_
        refine rf_bo (gx_1_2 R) ?_
        refine rf_br ?_ ?_
        · exact (yb_Cm_compile_119 hG R)
        · refine rf_bo (rx_35_0 R) ?_
          refine rf_so ?_
          refine rf_bo (gx_4_5 R) ?_
          refine rf_br ?_ ?_
          · exact (yb_Cm_compile_124 hG R)
          · exact (yb_Cm_compile_119 hG R)
    · refine rf_bo (gx_35_14 R) ?_
      refine rf_bo (rx_35_0 R) ?_
      refine rf_so ?_
      refine rf_bo (rx_4_4 R) ?_
      refine rf_bo (gx_35_14 R) ?_
      refine rf_so ?_
      refine rf_ai (ax_8 R) ?_
      exact rf_ret R rfl
  · refine rf_ck (ox_35 R) ?_
    refine rf_bx0 (ym_Cm_oneFunction R) (fun u22' u22 r22 R_u22 => ?_)
    exact (hG _ _ _ _ R_u22)
theorem yb_Cm_compile_0 {N : Nat} {o : Option Nat} {c : Nat → Nat} {m : MS} {u : CS} {G : (CS → Nat → Int32 → Option (CS × Int32))} {G' : (MS → Int32 → Option (MS × Int32))} (hG : ∀ (c : Nat → Nat) (m : MS) (u : CS) (v1 : Int32), RP o c m u → RF 0 o VE c u (G u 35 v1) (G' m v1)) (R : RP o c m u) : RF 0 o VE c u (fb_Cm_compile_0 N G u 35) (hb_Cm_compile_0 N G' m) := by
  unfold fb_Cm_compile_0 hb_Cm_compile_0
  refine rf_w (px_35_14 R) (fun w23' w23 R_w23 => ?_)
  refine rf_w (px_35_11 R_w23) (fun w24' w24 R_w24 => ?_)
  refine rf_w (px_35_12 R_w24) (fun w25' w25 R_w25 => ?_)
  refine rf_w (px_35_13 R_w25) (fun w26' w26 R_w26 => ?_)
  exact (hG _ _ _ _ R_w26)
theorem yg_Cm_compile {N : Nat} {o : Option Nat} : ∀ n, (∀ (c : Nat → Nat) (m : MS) (u : CS) (v1 : Int32), RP o c m u → RF 0 o VE c u ((gg_Cm_compile N n) u 35 v1) ((hg_Cm_compile N n) m v1)) := by
  intro n
  induction n with
  | zero => exact fun c m u v1 R => rf_none
  | succ n ih => exact fun c m u v1 R => yb_Cm_compile_23 (N := N) ih R
theorem ym_Cm_compile {N : Nat} {o : Option Nat} {c : Nat → Nat} {m : MS} {u : CS} (R : RP o c m u) : RF 0 o VE c u (fm_Cm_compile N u 35) (hm_Cm_compile N m) := yb_Cm_compile_0 (N := N) (yg_Cm_compile (N := N) N) R
theorem yb_H_read_45 {N : Nat} {c : Nat → Nat} {m : MS} {u : CS} (R : RP none c m u) {v1 : Int32} {t1 : Int32} : RF 0 none VE c u (fb_H_read_45 N () u 0 v1 0 t1) (hb_H_read_45 N () m v1 t1) := by
  unfold fb_H_read_45 hb_H_read_45
  refine rf_ckk ?_
  refine rf_w (px_0_10 R) (fun w1' w1 R_w1 => ?_)
  refine rf_bo (rx_0_6 R_w1) ?_
  refine rf_so ?_
  refine rf_ck (ox_47 R_w1) ?_
  refine rf_bx0 (ym_Wl_clearAll R_w1) (fun u3' u3 r3 R_u3 => ?_)
  exact rf_ret R_u3 rfl
theorem yb_H_read_27 {N : Nat} {c : Nat → Nat} {m : MS} {u : CS} (R : RP none c m u) {v1 : Int32} : RF 0 none VE c u (fb_H_read_27 N () u 0 v1) (hb_H_read_27 N () m v1) := by
  unfold fb_H_read_27 hb_H_read_27
  refine rf_bo (rx_0_1 R) ?_
  refine rf_so ?_
  refine rf_w (px_4_1 R) (fun w7' w7 R_w7 => ?_)
  refine rf_br ?_ ?_
  · exact (yb_H_read_45 R_w7)
  · exact (yb_H_read_45 R_w7)
theorem yb_H_read_0 {N : Nat} {c : Nat → Nat} {m : MS} {u : CS} (R : RP none c m u) : RF 0 none VE c u (fb_H_read_0 N () u 0) (hb_H_read_0 N () m) := by
  unfold fb_H_read_0 hb_H_read_0
  refine rf_bo (rx_0_1 R) ?_
  refine rf_so ?_
  refine rf_ck (ox_4 R) ?_
  refine rf_bx0 (ym_To_scanAll R) (fun u9' u9 r9 R_u9 => ?_)
  refine rf_bo (rx_0_3 R_u9) ?_
  refine rf_so ?_
  refine rf_ck (ox_33 R_u9) ?_
  refine rf_bx0 (ym_Pa_parse R_u9) (fun u12' u12 r12 R_u12 => ?_)
  refine rf_br ?_ ?_
  · refine rf_bo (rx_0_4 R_u12) ?_
    refine rf_so ?_
    refine rf_ck (ox_35 R_u12) ?_
    refine rf_bx0 (ym_Cm_compile R_u12) (fun u15' u15 r15 R_u15 => ?_)
    exact (yb_H_read_27 R_u15)
  · exact (yb_H_read_27 R_u12)
theorem ym_H_read {N : Nat} {c : Nat → Nat} {m : MS} {u : CS} (R : RP none c m u) : RF 0 none VE c u (fm_H_read N u 0) (hm_H_read N m) := yb_H_read_0 (N := N) R
theorem yb_Wl_born_43 {N : Nat} {o : Option Nat} {c : Nat → Nat} {m : MS} {u : CS} (R : RP o c m u) : RF 1 o PVo c u (fb_Wl_born_43 N () u 47) (hb_Wl_born_43 N () m) := by
  unfold fb_Wl_born_43 hb_Wl_born_43
  refine rf_bo (rx_47_1 R) ?_
  refine rf_bo (gx_47_2 R) ?_
  refine rf_so ?_
  refine rf_aP R (fun r4 h_r4 => ?_)
  refine rf_boQ h_r4 (fun j6 j6' e1_j6 e2_j6 h_j6 => ?_)
  subst e1_j6
  refine rf_so ?_
  refine rf_ck (io_P R h_j6) ?_
  refine rf_bx0 (rf_gz (ym_Pr_clear R h_j6) (by omega)) (fun u5' u5 r5 R_u5 => ?_)
  refine rf_gw ?_
  refine rf_bo (gx_47_2 R_u5) ?_
  refine rf_w (px_47_2 R_u5) (fun w8' w8 R_w8 => ?_)
  exact rf_ret R_w8 (PV_j h_j6)
theorem yb_Wl_born_0 {N : Nat} {o : Option Nat} {c : Nat → Nat} {m : MS} {u : CS} (R : RP o c m u) : RF 1 o PVo c u (fb_Wl_born_0 N () u 47) (hb_Wl_born_0 N () m) := by
  unfold fb_Wl_born_0 hb_Wl_born_0
  refine rf_bo (gx_47_2 R) ?_
  refine rf_br ?_ ?_
  · refine rf_bo (rx_47_1 R) ?_
    refine rf_bo (gx_47_2 R) ?_
    refine rf_so ?_
    refine rf_aPh R (fun r13 hb0 h_r13 => ?_)
    refine rf_br2h (PV_n h_r13) (fun hn0 => ?_) ?_
    · refine rf_bo (rx_47_1 R) ?_
      refine rf_bo (gx_47_2 R) ?_
      refine rf_ck (all2 (okR_s R (by decide)) (okR_s R (by decide))) ?_
      exact rf_new R rfl hb0 (of_decide_eq_true hn0) (by unfold zle; omega) (fun c_w20 w20' w20 R_w20 E_w20 => (by
        exact (yb_Wl_born_43 R_w20)))
    · exact (yb_Wl_born_43 R)
  · exact rf_ret R PV_0
theorem ym_Wl_born {N : Nat} {o : Option Nat} {c : Nat → Nat} {m : MS} {u : CS} (R : RP o c m u) : RF 1 o PVo c u (fm_Wl_born N u 47) (hm_Wl_born N m) := yb_Wl_born_0 (N := N) R
theorem yb_H_begin_102 {N : Nat} {c : Nat → Nat} {m : MS} {u : CS} (R : RP none c m u) : RF 1 none VE c u (fb_H_begin_102 N () u) (hb_H_begin_102 N () m) := by
  unfold fb_H_begin_102 hb_H_begin_102
  exact rf_ret R rfl
theorem yb_H_begin_0 {N : Nat} {c : Nat → Nat} {m : MS} {u : CS} (R : RP none c m u) {v1 : Int32} : RF 1 none VE c u (fb_H_begin_0 N () u 0 v1) (hb_H_begin_0 N () m v1) := by
  unfold fb_H_begin_0 hb_H_begin_0
  refine rf_bo (gx_0_10 R) ?_
  refine rf_br ?_ ?_
  · exact rf_ret R rfl
  · refine rf_ck (ox_0 R) ?_
    refine rf_bx0 (rf_gz (ym_H_isFunction R) (by omega)) (fun u2' u2 r2 R_u2 => ?_)
    refine rf_gw ?_
    refine rf_br ?_ ?_
    · exact rf_ret R_u2 rfl
    · refine rf_bo (rx_0_2 R_u2) ?_
      refine rf_so ?_
      refine rf_bo (rx_22_4 R_u2) ?_
      refine rf_so ?_
      refine rf_ai (ax_25 R_u2) ?_
      refine rf_br ?_ ?_
      · refine rf_bo (rx_0_6 R_u2) ?_
        refine rf_so ?_
        refine rf_ck (ox_47 R_u2) ?_
        refine rf_bx0 (rf_gz (ym_Wl_clearAll R_u2) (by omega)) (fun u9' u9 r9 R_u9 => ?_)
        refine rf_gw ?_
        refine rf_bo (rx_0_6 R_u9) ?_
        refine rf_so ?_
        refine rf_w (px_47_3 R_u9) (fun w13' w13 R_w13 => ?_)
        refine rf_bo (rx_0_6 R_w13) ?_
        refine rf_so ?_
        refine rf_ck (ox_47 R_w13) ?_
        refine rf_ck (all1 (okR_s R_w13 (by decide))) ?_
        refine rf_bx (rf_gw (ym_Wl_born R_w13)) (by unfold zle; omega) (fun c_u15 u15' u15 r15 r15' R_u15 E_u15 h_r15 => ?_)
        refine rf_gw ?_
        refine rf_br2 (PV_n h_r15) ?_ ?_
        · exact (yb_H_begin_102 R_u15)
        · refine rf_boQ h_r15 (fun j17 j17' e1_j17 e2_j17 h_j17 => ?_)
          subst e1_j17
          refine rf_so ?_
          refine rf_bo (gR_P1 R_u15 h_j17) ?_
          refine rf_bo (rx_0_2 R_u15) ?_
          refine rf_so ?_
          refine rf_bo (rx_22_8 R_u15) ?_
          refine rf_so ?_
          refine rf_ai (ax_29 R_u15) ?_
          refine rf_soF h_j17.1 (fun j25 h_j25 => ?_)
          refine rf_ck (io_F R_u15 h_j25) ?_
          refine rf_bx0 (rf_gz (ym_Fr_open R_u15 h_j25) (by omega)) (fun u24' u24 r24 R_u24 => ?_)
          refine rf_gw ?_
          exact (yb_H_begin_102 R_u24)
      · exact rf_ret R_u2 rfl
theorem ym_H_begin {N : Nat} {c : Nat → Nat} {m : MS} {u : CS} (R : RP none c m u) {v1 : Int32} : RF 1 none VE c u (fm_H_begin N u 0 v1) (hm_H_begin N m v1) := yb_H_begin_0 (N := N) R
theorem yb_Wl_find_22 {N : Nat} {o : Option Nat} {c : Nat → Nat} {m : MS} {u : CS} (R : RP o c m u) {t0 : Option Nat} {t0' : Option Nat} (h_t0 : PVo c t0 t0') : RF 0 o PVo c u (fb_Wl_find_22 N () u t0) (hb_Wl_find_22 N () m t0') := by
  unfold fb_Wl_find_22 hb_Wl_find_22
  exact rf_ret R h_t0
theorem yb_Wl_find_12 {N : Nat} {o : Option Nat} {c : Nat → Nat} {m : MS} {u : CS} (R : RP o c m u) : RF 0 o PVo c u (fb_Wl_find_12 N () u) (hb_Wl_find_12 N () m) := by
  unfold fb_Wl_find_12 hb_Wl_find_12
  exact (yb_Wl_find_22 R PV_0)
theorem yb_Wl_find_0 {N : Nat} {o : Option Nat} {c : Nat → Nat} {m : MS} {u : CS} (R : RP o c m u) {v1 : Int32} : RF 0 o PVo c u (fb_Wl_find_0 N () u 47 v1) (hb_Wl_find_0 N () m v1) := by
  unfold fb_Wl_find_0 hb_Wl_find_0
  refine rf_br ?_ ?_
  · exact (yb_Wl_find_12 R)
  · refine rf_bo (gx_47_2 R) ?_
    refine rf_br ?_ ?_
    · refine rf_bo (rx_47_1 R) ?_
      refine rf_so ?_
      refine rf_aP R (fun r4 h_r4 => ?_)
      exact (yb_Wl_find_22 R h_r4)
    · exact (yb_Wl_find_12 R)
theorem ym_Wl_find {N : Nat} {o : Option Nat} {c : Nat → Nat} {m : MS} {u : CS} (R : RP o c m u) {v1 : Int32} : RF 0 o PVo c u (fm_Wl_find N u 47 v1) (hm_Wl_find N m v1) := yb_Wl_find_0 (N := N) R
theorem yb_Pr_clearHeap_250 {N : Nat} {o : Option Nat} {c : Nat → Nat} {m : MS} {u : CS} {G : (CS → Nat → Int32 → Int32 → Option (CS × Unit)) × (CS → Nat → Int32 → Int32 → Option Nat → Int32 → Int32 → Option (CS × Unit))} {G' : (MS → Nat → Int32 → Int32 → Option (MS × Unit)) × (MS → Nat → Int32 → Int32 → Nat → Int32 → Int32 → Option (MS × Unit))} (hG1 : ∀ (c : Nat → Nat) (m : MS) (u : CS) (v0 : Nat) (v0' : Nat) (v1 : Int32) (v2 : Int32), RP o c m u → PVn c v0 v0' → RF 3 o VE c u (G.1 u v0 v1 v2) (G'.1 m v0' v1 v2)) (hG2 : ∀ (c : Nat → Nat) (m : MS) (u : CS) (v0 : Nat) (v0' : Nat) (v1 : Int32) (v2 : Int32) (v3 : Nat) (v3' : Nat) (v4 : Int32) (v5 : Int32), RP o c m u → PVn c v0 v0' → XVn c v0' v3 v3' → RF 3 o VE c u (G.2 u v0 v1 v2 (some v3) v4 v5) (G'.2 m v0' v1 v2 v3' v4 v5)) (R : RP o c m u) {v0 : Nat} {v0' : Nat} {v1 : Int32} {v2 : Int32} {v3 : Nat} {v3' : Nat} {v4 : Int32} {v5 : Int32} (h_v0 : PVn c v0 v0') (h_v3 : XVn c v0' v3 v3') : RF 3 o VE c u (fb_Pr_clearHeap_250 N G u v0 v1 v2 (some v3) v4 v5) (hb_Pr_clearHeap_250 N G' m v0' v1 v2 v3' v4 v5) := by
  unfold fb_Pr_clearHeap_250 hb_Pr_clearHeap_250
  exact (hG2 _ _ _ _ _ _ _ _ _ _ _ R h_v0 h_v3)
theorem yb_Pr_clearHeap_230 {N : Nat} {o : Option Nat} {c : Nat → Nat} {m : MS} {u : CS} {G : (CS → Nat → Int32 → Int32 → Option (CS × Unit)) × (CS → Nat → Int32 → Int32 → Option Nat → Int32 → Int32 → Option (CS × Unit))} {G' : (MS → Nat → Int32 → Int32 → Option (MS × Unit)) × (MS → Nat → Int32 → Int32 → Nat → Int32 → Int32 → Option (MS × Unit))} (hG1 : ∀ (c : Nat → Nat) (m : MS) (u : CS) (v0 : Nat) (v0' : Nat) (v1 : Int32) (v2 : Int32), RP o c m u → PVn c v0 v0' → RF 3 o VE c u (G.1 u v0 v1 v2) (G'.1 m v0' v1 v2)) (hG2 : ∀ (c : Nat → Nat) (m : MS) (u : CS) (v0 : Nat) (v0' : Nat) (v1 : Int32) (v2 : Int32) (v3 : Nat) (v3' : Nat) (v4 : Int32) (v5 : Int32), RP o c m u → PVn c v0 v0' → XVn c v0' v3 v3' → RF 3 o VE c u (G.2 u v0 v1 v2 (some v3) v4 v5) (G'.2 m v0' v1 v2 v3' v4 v5)) (R : RP o c m u) {v0 : Nat} {v0' : Nat} {v1 : Int32} {v2 : Int32} {v3 : Nat} {v3' : Nat} {v4 : Int32} {v5 : Int32} {v6 : Int32} {v7 : Int32} (h_v0 : PVn c v0 v0') (h_v3 : XVn c v0' v3 v3') : RF 3 o VE c u (fb_Pr_clearHeap_230 N G u v0 v1 v2 (some v3) v4 v5 v6 v7) (hb_Pr_clearHeap_230 N G' m v0' v1 v2 v3' v4 v5 v6 v7) := by
  unfold fb_Pr_clearHeap_230 hb_Pr_clearHeap_230
  refine rf_bo (gR_P2 R h_v0) ?_
  refine rf_so ?_
  refine rf_ai (aq_2 R h_v0.1) ?_
  refine rf_so ?_
  refine rf_wk (sq_X R h_v3) (fun w5' w5 R_w5 => ?_)
  exact (yb_Pr_clearHeap_250 hG1 hG2 R_w5 h_v0 h_v3)
theorem yb_Pr_clearHeap_160 {N : Nat} {o : Option Nat} {c : Nat → Nat} {m : MS} {u : CS} {G : (CS → Nat → Int32 → Int32 → Option (CS × Unit)) × (CS → Nat → Int32 → Int32 → Option Nat → Int32 → Int32 → Option (CS × Unit))} {G' : (MS → Nat → Int32 → Int32 → Option (MS × Unit)) × (MS → Nat → Int32 → Int32 → Nat → Int32 → Int32 → Option (MS × Unit))} (hG1 : ∀ (c : Nat → Nat) (m : MS) (u : CS) (v0 : Nat) (v0' : Nat) (v1 : Int32) (v2 : Int32), RP o c m u → PVn c v0 v0' → RF 3 o VE c u (G.1 u v0 v1 v2) (G'.1 m v0' v1 v2)) (hG2 : ∀ (c : Nat → Nat) (m : MS) (u : CS) (v0 : Nat) (v0' : Nat) (v1 : Int32) (v2 : Int32) (v3 : Nat) (v3' : Nat) (v4 : Int32) (v5 : Int32), RP o c m u → PVn c v0 v0' → XVn c v0' v3 v3' → RF 3 o VE c u (G.2 u v0 v1 v2 (some v3) v4 v5) (G'.2 m v0' v1 v2 v3' v4 v5)) (R : RP o c m u) {v0 : Nat} {v0' : Nat} {v1 : Int32} {v2 : Int32} {v3 : Nat} {v3' : Nat} {v4 : Int32} {v5 : Int32} {v6 : Int32} (h_v0 : PVn c v0 v0') (h_v3 : XVn c v0' v3 v3') : RF 3 o VE c u (fb_Pr_clearHeap_160 N G u v0 v1 v2 (some v3) v4 v5 v6) (hb_Pr_clearHeap_160 N G' m v0' v1 v2 v3' v4 v5 v6) := by
  unfold fb_Pr_clearHeap_160 hb_Pr_clearHeap_160
  refine rf_so ?_
  refine rf_ai (aq_X R h_v3) ?_
  refine rf_bo (gR_P2 R h_v0) ?_
  refine rf_so ?_
  refine rf_ai (aq_2 R h_v0.1) ?_
  refine rf_br ?_ ?_
  · exact (yb_Pr_clearHeap_230 hG1 hG2 R h_v0 h_v3)
  · refine rf_bo (gR_P2 R h_v0) ?_
    refine rf_so ?_
    refine rf_ai (aq_X R h_v3) ?_
    refine rf_bx0 (ym_Te_cellsAt R ⟨_, h_v0.1, rfl, rfl⟩) (fun u14' u14 r14 R_u14 => ?_)
    refine rf_bo (gR_P2 R_u14 h_v0) ?_
    refine rf_bo (gR_P3 R_u14 h_v0) ?_
    refine rf_so ?_
    refine rf_so ?_
    refine rf_wk (cq_23 R_u14 h_v0.1) (fun w19' w19 R_w19 => ?_)
    refine rf_bo (gR_P2 R_w19 h_v0) ?_
    refine rf_so ?_
    refine rf_wk (sq_2 R_w19 h_v0.1) (fun w22' w22 R_w22 => ?_)
    exact (yb_Pr_clearHeap_230 hG1 hG2 R_w22 h_v0 h_v3)
theorem yb_Pr_clearHeap_125 {N : Nat} {o : Option Nat} {c : Nat → Nat} {m : MS} {u : CS} {G : (CS → Nat → Int32 → Int32 → Option (CS × Unit)) × (CS → Nat → Int32 → Int32 → Option Nat → Int32 → Int32 → Option (CS × Unit))} {G' : (MS → Nat → Int32 → Int32 → Option (MS × Unit)) × (MS → Nat → Int32 → Int32 → Nat → Int32 → Int32 → Option (MS × Unit))} (hG1 : ∀ (c : Nat → Nat) (m : MS) (u : CS) (v0 : Nat) (v0' : Nat) (v1 : Int32) (v2 : Int32), RP o c m u → PVn c v0 v0' → RF 3 o VE c u (G.1 u v0 v1 v2) (G'.1 m v0' v1 v2)) (hG2 : ∀ (c : Nat → Nat) (m : MS) (u : CS) (v0 : Nat) (v0' : Nat) (v1 : Int32) (v2 : Int32) (v3 : Nat) (v3' : Nat) (v4 : Int32) (v5 : Int32), RP o c m u → PVn c v0 v0' → XVn c v0' v3 v3' → RF 3 o VE c u (G.2 u v0 v1 v2 (some v3) v4 v5) (G'.2 m v0' v1 v2 v3' v4 v5)) (R : RP o c m u) {v0 : Nat} {v0' : Nat} {v1 : Int32} {v2 : Int32} {v3 : Nat} {v3' : Nat} {v4 : Int32} {v5 : Int32} {t0 : Int32} {t1 : Int32} (h_v0 : PVn c v0 v0') (h_v3 : XVn c v0' v3 v3') : RF 3 o VE c u (fb_Pr_clearHeap_125 N G u v0 v1 v2 (some v3) v4 v5 t0 t1) (hb_Pr_clearHeap_125 N G' m v0' v1 v2 v3' v4 v5 t0 t1) := by
  unfold fb_Pr_clearHeap_125 hb_Pr_clearHeap_125
  refine rf_br ?_ ?_
  · exact (hG1 _ _ _ _ _ _ _ R h_v0)
  · refine rf_so ?_
    refine rf_ai (aq_X R h_v3) ?_
    refine rf_lt ?_
    refine rf_br ?_ ?_
    · exact (yb_Pr_clearHeap_160 hG1 hG2 R h_v0 h_v3)
    · refine rf_br ?_ ?_
      · exact (yb_Pr_clearHeap_160 hG1 hG2 R h_v0 h_v3)
      · refine rf_br ?_ ?_
        · exact (yb_Pr_clearHeap_160 hG1 hG2 R h_v0 h_v3)
        · exact (yb_Pr_clearHeap_250 hG1 hG2 R h_v0 h_v3)
theorem yb_Pr_clearHeap_112 {N : Nat} {o : Option Nat} {c : Nat → Nat} {m : MS} {u : CS} {G : (CS → Nat → Int32 → Int32 → Option (CS × Unit)) × (CS → Nat → Int32 → Int32 → Option Nat → Int32 → Int32 → Option (CS × Unit))} {G' : (MS → Nat → Int32 → Int32 → Option (MS × Unit)) × (MS → Nat → Int32 → Int32 → Nat → Int32 → Int32 → Option (MS × Unit))} (hG1 : ∀ (c : Nat → Nat) (m : MS) (u : CS) (v0 : Nat) (v0' : Nat) (v1 : Int32) (v2 : Int32), RP o c m u → PVn c v0 v0' → RF 3 o VE c u (G.1 u v0 v1 v2) (G'.1 m v0' v1 v2)) (hG2 : ∀ (c : Nat → Nat) (m : MS) (u : CS) (v0 : Nat) (v0' : Nat) (v1 : Int32) (v2 : Int32) (v3 : Nat) (v3' : Nat) (v4 : Int32) (v5 : Int32), RP o c m u → PVn c v0 v0' → XVn c v0' v3 v3' → RF 3 o VE c u (G.2 u v0 v1 v2 (some v3) v4 v5) (G'.2 m v0' v1 v2 v3' v4 v5)) (R : RP o c m u) {v0 : Nat} {v0' : Nat} {v1 : Int32} {v2 : Int32} {v3 : Nat} {v3' : Nat} {v4 : Int32} {v5 : Int32} (h_v0 : PVn c v0 v0') (h_v3 : XVn c v0' v3 v3') : RF 3 o VE c u (fb_Pr_clearHeap_112 N G u v0 v1 v2 (some v3) v4 v5) (hb_Pr_clearHeap_112 N G' m v0' v1 v2 v3' v4 v5) := by
  unfold fb_Pr_clearHeap_112 hb_Pr_clearHeap_112
  refine rf_br ?_ ?_
  · exact (yb_Pr_clearHeap_125 hG1 hG2 R h_v0 h_v3)
  · exact (yb_Pr_clearHeap_125 hG1 hG2 R h_v0 h_v3)
theorem yb_Pr_clearHeap_107 {N : Nat} {o : Option Nat} {c : Nat → Nat} {m : MS} {u : CS} {G : (CS → Nat → Int32 → Int32 → Option (CS × Unit)) × (CS → Nat → Int32 → Int32 → Option Nat → Int32 → Int32 → Option (CS × Unit))} {G' : (MS → Nat → Int32 → Int32 → Option (MS × Unit)) × (MS → Nat → Int32 → Int32 → Nat → Int32 → Int32 → Option (MS × Unit))} (hG1 : ∀ (c : Nat → Nat) (m : MS) (u : CS) (v0 : Nat) (v0' : Nat) (v1 : Int32) (v2 : Int32), RP o c m u → PVn c v0 v0' → RF 3 o VE c u (G.1 u v0 v1 v2) (G'.1 m v0' v1 v2)) (hG2 : ∀ (c : Nat → Nat) (m : MS) (u : CS) (v0 : Nat) (v0' : Nat) (v1 : Int32) (v2 : Int32) (v3 : Nat) (v3' : Nat) (v4 : Int32) (v5 : Int32), RP o c m u → PVn c v0 v0' → XVn c v0' v3 v3' → RF 3 o VE c u (G.2 u v0 v1 v2 (some v3) v4 v5) (G'.2 m v0' v1 v2 v3' v4 v5)) (R : RP o c m u) {v0 : Nat} {v0' : Nat} {v1 : Int32} {v2 : Int32} {v3 : Nat} {v3' : Nat} {t0 : Int32} (h_v0 : PVn c v0 v0') (h_v3 : XVn c v0' v3 v3') : RF 3 o VE c u (fb_Pr_clearHeap_107 N G u v0 v1 v2 (some v3) t0) (hb_Pr_clearHeap_107 N G' m v0' v1 v2 v3' t0) := by
  unfold fb_Pr_clearHeap_107 hb_Pr_clearHeap_107
  exact (hG2 _ _ _ _ _ _ _ _ _ _ _ R h_v0 h_v3)
theorem yb_Pr_clearHeap_64 {N : Nat} {o : Option Nat} {c : Nat → Nat} {m : MS} {u : CS} {G : (CS → Nat → Int32 → Int32 → Option (CS × Unit)) × (CS → Nat → Int32 → Int32 → Option Nat → Int32 → Int32 → Option (CS × Unit))} {G' : (MS → Nat → Int32 → Int32 → Option (MS × Unit)) × (MS → Nat → Int32 → Int32 → Nat → Int32 → Int32 → Option (MS × Unit))} (hG1 : ∀ (c : Nat → Nat) (m : MS) (u : CS) (v0 : Nat) (v0' : Nat) (v1 : Int32) (v2 : Int32), RP o c m u → PVn c v0 v0' → RF 3 o VE c u (G.1 u v0 v1 v2) (G'.1 m v0' v1 v2)) (hG2 : ∀ (c : Nat → Nat) (m : MS) (u : CS) (v0 : Nat) (v0' : Nat) (v1 : Int32) (v2 : Int32) (v3 : Nat) (v3' : Nat) (v4 : Int32) (v5 : Int32), RP o c m u → PVn c v0 v0' → XVn c v0' v3 v3' → RF 3 o VE c u (G.2 u v0 v1 v2 (some v3) v4 v5) (G'.2 m v0' v1 v2 v3' v4 v5)) (R : RP o c m u) {v0 : Nat} {v0' : Nat} {v1 : Int32} {v2 : Int32} {t0 : Nat} {t0' : Nat} (h_v0 : PVn c v0 v0') (h_t0 : XVn c v0' t0 t0') : RF 3 o VE c u (fb_Pr_clearHeap_64 N G u v0 v1 v2 (some t0)) (hb_Pr_clearHeap_64 N G' m v0' v1 v2 t0') := by
  unfold fb_Pr_clearHeap_64 hb_Pr_clearHeap_64
  refine rf_br ?_ ?_
  · refine rf_bo (gR_P1 R h_v0) ?_
    refine rf_soF h_v0.1 (fun j31 h_j31 => ?_)
    refine rf_bo (gf_4 R h_j31) ?_
    exact (yb_Pr_clearHeap_107 hG1 hG2 R h_v0 h_t0)
  · refine rf_br ?_ ?_
    · refine rf_bo (gR_P1 R h_v0) ?_
      refine rf_soF h_v0.1 (fun j28 h_j28 => ?_)
      refine rf_bo (gf_6 R h_j28) ?_
      exact (yb_Pr_clearHeap_107 hG1 hG2 R h_v0 h_t0)
    · refine rf_br ?_ ?_
      · refine rf_bo (gq_7 R h_v0) ?_
        exact (yb_Pr_clearHeap_107 hG1 hG2 R h_v0 h_t0)
      · exact (yb_Pr_clearHeap_107 hG1 hG2 R h_v0 h_t0)
theorem yb_Pr_clearHeap_14 {N : Nat} {o : Option Nat} {c : Nat → Nat} {m : MS} {u : CS} {G : (CS → Nat → Int32 → Int32 → Option (CS × Unit)) × (CS → Nat → Int32 → Int32 → Option Nat → Int32 → Int32 → Option (CS × Unit))} {G' : (MS → Nat → Int32 → Int32 → Option (MS × Unit)) × (MS → Nat → Int32 → Int32 → Nat → Int32 → Int32 → Option (MS × Unit))} (hG1 : ∀ (c : Nat → Nat) (m : MS) (u : CS) (v0 : Nat) (v0' : Nat) (v1 : Int32) (v2 : Int32), RP o c m u → PVn c v0 v0' → RF 3 o VE c u (G.1 u v0 v1 v2) (G'.1 m v0' v1 v2)) (hG2 : ∀ (c : Nat → Nat) (m : MS) (u : CS) (v0 : Nat) (v0' : Nat) (v1 : Int32) (v2 : Int32) (v3 : Nat) (v3' : Nat) (v4 : Int32) (v5 : Int32), RP o c m u → PVn c v0 v0' → XVn c v0' v3 v3' → RF 3 o VE c u (G.2 u v0 v1 v2 (some v3) v4 v5) (G'.2 m v0' v1 v2 v3' v4 v5)) (R : RP o c m u) {v0 : Nat} {v0' : Nat} {v1 : Int32} {v2 : Int32} (h_v0 : PVn c v0 v0') : RF 3 o VE c u (fb_Pr_clearHeap_14 N G u v0 v1 v2) (hb_Pr_clearHeap_14 N G' m v0' v1 v2) := by
  unfold fb_Pr_clearHeap_14 hb_Pr_clearHeap_14
  refine rf_br ?_ ?_
  · refine rf_bo (gR_P2 R h_v0) ?_
    refine rf_bo (gR_P3 R h_v0) ?_
    refine rf_swap R h_v0 (by unfold zle; omega) (fun c_w36 w36' w36 R_w36 E_w36 => ?_)
    replace h_v0 := E_w36.P h_v0
    refine rf_w (wq_4 R_w36 h_v0) (fun w37' w37 R_w37 => ?_)
    exact rf_ret R_w37 rfl
  · refine rf_br ?_ ?_
    · refine rf_bo (gR_P1 R h_v0) ?_
      refine rf_soF h_v0.1 (fun j44 h_j44 => ?_)
      refine rf_bo (gR_F3 R h_j44) ?_
      exact (yb_Pr_clearHeap_64 hG1 hG2 R h_v0 ⟨h_j44.1, 33, by omega, rfl, rfl⟩)
    · refine rf_br ?_ ?_
      · refine rf_bo (gR_P1 R h_v0) ?_
        refine rf_soF h_v0.1 (fun j41 h_j41 => ?_)
        refine rf_bo (gR_F5 R h_j41) ?_
        exact (yb_Pr_clearHeap_64 hG1 hG2 R h_v0 ⟨h_j41.1, 35, by omega, rfl, rfl⟩)
      · refine rf_br ?_ ?_
        · refine rf_bo (gR_P6 R h_v0) ?_
          exact (yb_Pr_clearHeap_64 hG1 hG2 R h_v0 ⟨h_v0.1, 6, by omega, rfl, rfl⟩)
        · refine rf_bo (gR_P3 R h_v0) ?_
          exact (yb_Pr_clearHeap_64 hG1 hG2 R h_v0 ⟨h_v0.1, 3, by omega, rfl, rfl⟩)
theorem yb_Pr_clearHeap_0 {N : Nat} {o : Option Nat} {c : Nat → Nat} {m : MS} {u : CS} {G : (CS → Nat → Int32 → Int32 → Option (CS × Unit)) × (CS → Nat → Int32 → Int32 → Option Nat → Int32 → Int32 → Option (CS × Unit))} {G' : (MS → Nat → Int32 → Int32 → Option (MS × Unit)) × (MS → Nat → Int32 → Int32 → Nat → Int32 → Int32 → Option (MS × Unit))} (hG1 : ∀ (c : Nat → Nat) (m : MS) (u : CS) (v0 : Nat) (v0' : Nat) (v1 : Int32) (v2 : Int32), RP o c m u → PVn c v0 v0' → RF 3 o VE c u (G.1 u v0 v1 v2) (G'.1 m v0' v1 v2)) (hG2 : ∀ (c : Nat → Nat) (m : MS) (u : CS) (v0 : Nat) (v0' : Nat) (v1 : Int32) (v2 : Int32) (v3 : Nat) (v3' : Nat) (v4 : Int32) (v5 : Int32), RP o c m u → PVn c v0 v0' → XVn c v0' v3 v3' → RF 3 o VE c u (G.2 u v0 v1 v2 (some v3) v4 v5) (G'.2 m v0' v1 v2 v3' v4 v5)) (R : RP o c m u) {v0 : Nat} {v0' : Nat} (h_v0 : PVn c v0 v0') : RF 3 o VE c u (fb_Pr_clearHeap_0 N G u v0) (hb_Pr_clearHeap_0 N G' m v0') := by
  unfold fb_Pr_clearHeap_0 hb_Pr_clearHeap_0
  refine rf_bo (gq_5 R h_v0) ?_
  refine rf_w (wq_5 R h_v0) (fun w47' w47 R_w47 => ?_)
  exact (hG1 _ _ _ _ _ _ _ R_w47 h_v0)
theorem yg_Pr_clearHeap {N : Nat} {o : Option Nat} : ∀ n, (∀ (c : Nat → Nat) (m : MS) (u : CS) (v0 : Nat) (v0' : Nat) (v1 : Int32) (v2 : Int32), RP o c m u → PVn c v0 v0' → RF 3 o VE c u ((gg_Pr_clearHeap N n).1 u v0 v1 v2) ((hg_Pr_clearHeap N n).1 m v0' v1 v2)) ∧ (∀ (c : Nat → Nat) (m : MS) (u : CS) (v0 : Nat) (v0' : Nat) (v1 : Int32) (v2 : Int32) (v3 : Nat) (v3' : Nat) (v4 : Int32) (v5 : Int32), RP o c m u → PVn c v0 v0' → XVn c v0' v3 v3' → RF 3 o VE c u ((gg_Pr_clearHeap N n).2 u v0 v1 v2 (some v3) v4 v5) ((hg_Pr_clearHeap N n).2 m v0' v1 v2 v3' v4 v5)) := by
  intro n
  induction n with
  | zero => exact ⟨fun c m u v0 v0' v1 v2 R h_v0 => rf_none, fun c m u v0 v0' v1 v2 v3 v3' v4 v5 R h_v0 h_v3 => rf_none⟩
  | succ n ih => exact ⟨fun c m u v0 v0' v1 v2 R h_v0 => yb_Pr_clearHeap_14 (N := N) ih.1 ih.2 R h_v0, fun c m u v0 v0' v1 v2 v3 v3' v4 v5 R h_v0 h_v3 => yb_Pr_clearHeap_112 (N := N) ih.1 ih.2 R h_v0 h_v3⟩
theorem ym_Pr_clearHeap {N : Nat} {o : Option Nat} {c : Nat → Nat} {m : MS} {u : CS} (R : RP o c m u) {v0 : Nat} {v0' : Nat} (h_v0 : PVn c v0 v0') : RF 3 o VE c u (fm_Pr_clearHeap N u v0) (hm_Pr_clearHeap N m v0') := yb_Pr_clearHeap_0 (N := N) (yg_Pr_clearHeap (N := N) N).1 (yg_Pr_clearHeap (N := N) N).2 R h_v0
theorem yb_Pr_want_33 {N : Nat} {o : Option Nat} {c : Nat → Nat} {m : MS} {u : CS} (R : RP o c m u) {t0 : Int32} : RF 3 o VE c u (fb_Pr_want_33 N () u t0) (hb_Pr_want_33 N () m t0) := by
  unfold fb_Pr_want_33 hb_Pr_want_33
  refine rf_ckk ?_
  exact rf_ret R rfl
theorem yb_Pr_want_16 {N : Nat} {o : Option Nat} {c : Nat → Nat} {m : MS} {u : CS} (R : RP o c m u) {v0 : Nat} {v0' : Nat} {v1 : Int32} (h_v0 : PVn c v0 v0') : RF 3 o VE c u (fb_Pr_want_16 N () u v0 v1) (hb_Pr_want_16 N () m v0' v1) := by
  unfold fb_Pr_want_16 hb_Pr_want_16
  refine rf_bo (gq_4 R h_v0) ?_
  refine rf_br ?_ ?_
  · exact (yb_Pr_want_33 R)
  · exact (yb_Pr_want_33 R)
theorem yb_Pr_want_0 {N : Nat} {o : Option Nat} {c : Nat → Nat} {m : MS} {u : CS} (R : RP o c m u) {v0 : Nat} {v0' : Nat} {v1 : Int32} (h_v0 : PVn c v0 v0') : RF 3 o VE c u (fb_Pr_want_0 N () u v0 v1) (hb_Pr_want_0 N () m v0' v1) := by
  unfold fb_Pr_want_0 hb_Pr_want_0
  refine rf_bo (gq_4 R h_v0) ?_
  refine rf_br ?_ ?_
  · exact (yb_Pr_want_16 R h_v0)
  · refine rf_ck (io_P R h_v0) ?_
    refine rf_bx (ym_Pr_clearHeap R h_v0) (by unfold zle; omega) (fun c_u3 u3' u3 r3 r3' R_u3 E_u3 v_u3 => ?_)
    cases v_u3
    replace h_v0 := E_u3.P h_v0
    exact (yb_Pr_want_16 R_u3 h_v0)
theorem ym_Pr_want {N : Nat} {o : Option Nat} {c : Nat → Nat} {m : MS} {u : CS} (R : RP o c m u) {v0 : Nat} {v0' : Nat} {v1 : Int32} (h_v0 : PVn c v0 v0') : RF 3 o VE c u (fm_Pr_want N u v0 v1) (hm_Pr_want N m v0' v1) := yb_Pr_want_0 (N := N) R h_v0
theorem yb_Pr_copyIn_140 {N : Nat} {o : Option Nat} {c : Nat → Nat} {m : MS} {u : CS} {G : (CS → Nat → Option Nat → Int64 → Int64 → Int32 → Int32 → Option (CS × Int64))} {G' : (MS → Nat → Nat → Int64 → Int64 → Int32 → Int32 → Option (MS × Int64))} (hG : ∀ (c : Nat → Nat) (m : MS) (u : CS) (v0 : Nat) (v0' : Nat) (v1 : Nat) (v1' : Nat) (v2 : Int64) (v4 : Int64) (v6 : Int32) (v7 : Int32), RP o c m u → PVn c v0 v0' → CVn c v1 v1' → RF 0 o VE c u (G u v0 (some v1) v2 v4 v6 v7) (G' m v0' v1' v2 v4 v6 v7)) (R : RP o c m u) {v0 : Nat} {v0' : Nat} {v1 : Nat} {v1' : Nat} {v2 : Int64} {v4 : Int64} {v6 : Int32} {v7 : Int32} (h_v0 : PVn c v0 v0') (h_v1 : CVn c v1 v1') : RF 0 o VE c u (fb_Pr_copyIn_140 N G u v0 (some v1) v2 v4 v6 v7) (hb_Pr_copyIn_140 N G' m v0' v1' v2 v4 v6 v7) := by
  unfold fb_Pr_copyIn_140 hb_Pr_copyIn_140
  exact (hG _ _ _ _ _ _ _ _ _ _ _ R h_v0 h_v1)
theorem yb_Pr_copyIn_42 {N : Nat} {o : Option Nat} {c : Nat → Nat} {m : MS} {u : CS} {G : (CS → Nat → Option Nat → Int64 → Int64 → Int32 → Int32 → Option (CS × Int64))} {G' : (MS → Nat → Nat → Int64 → Int64 → Int32 → Int32 → Option (MS × Int64))} (hG : ∀ (c : Nat → Nat) (m : MS) (u : CS) (v0 : Nat) (v0' : Nat) (v1 : Nat) (v1' : Nat) (v2 : Int64) (v4 : Int64) (v6 : Int32) (v7 : Int32), RP o c m u → PVn c v0 v0' → CVn c v1 v1' → RF 0 o VE c u (G u v0 (some v1) v2 v4 v6 v7) (G' m v0' v1' v2 v4 v6 v7)) (R : RP o c m u) {v0 : Nat} {v0' : Nat} {v1 : Nat} {v1' : Nat} {v2 : Int64} {v4 : Int64} {v6 : Int32} {v7 : Int32} {t0 : Int64} (h_v0 : PVn c v0 v0') (h_v1 : CVn c v1 v1') : RF 0 o VE c u (fb_Pr_copyIn_42 N G u v0 (some v1) v2 v4 v6 v7 t0) (hb_Pr_copyIn_42 N G' m v0' v1' v2 v4 v6 v7 t0) := by
  unfold fb_Pr_copyIn_42 hb_Pr_copyIn_42
  refine rf_bx0 (ym_Te_cellsAt R h_v1) (fun u1' u1 r1 R_u1 => ?_)
  refine rf_br ?_ ?_
  · exact (yb_Pr_copyIn_140 hG R_u1 h_v0 h_v1)
  · refine rf_bo (gq_4 R_u1 h_v0) ?_
    refine rf_br ?_ ?_
    · refine rf_bo (gq_4 R_u1 h_v0) ?_
      refine rf_lt ?_
      refine rf_bo (gR_P2 R_u1 h_v0) ?_
      refine rf_bo (gq_4 R_u1 h_v0) ?_
      refine rf_so ?_
      refine rf_so ?_
      refine rf_wk (cq_C R_u1 h_v1 h_v0.1) (fun w9' w9 R_w9 => ?_)
      refine rf_bo (gq_4 R_w9 h_v0) ?_
      refine rf_w (wq_4 R_w9 h_v0) (fun w11' w11 R_w11 => ?_)
      refine rf_br ?_ ?_
      · refine rf_bo (gR_P2 R_w11 h_v0) ?_
        refine rf_so ?_
        refine rf_wk (sq_2 R_w11 h_v0.1) (fun w14' w14 R_w14 => ?_)
        exact (yb_Pr_copyIn_140 hG R_w14 h_v0 h_v1)
      · exact (yb_Pr_copyIn_140 hG R_w11 h_v0 h_v1)
    · exact (yb_Pr_copyIn_140 hG R_u1 h_v0 h_v1)
theorem yb_Pr_copyIn_15 {N : Nat} {o : Option Nat} {c : Nat → Nat} {m : MS} {u : CS} {G : (CS → Nat → Option Nat → Int64 → Int64 → Int32 → Int32 → Option (CS × Int64))} {G' : (MS → Nat → Nat → Int64 → Int64 → Int32 → Int32 → Option (MS × Int64))} (hG : ∀ (c : Nat → Nat) (m : MS) (u : CS) (v0 : Nat) (v0' : Nat) (v1 : Nat) (v1' : Nat) (v2 : Int64) (v4 : Int64) (v6 : Int32) (v7 : Int32), RP o c m u → PVn c v0 v0' → CVn c v1 v1' → RF 0 o VE c u (G u v0 (some v1) v2 v4 v6 v7) (G' m v0' v1' v2 v4 v6 v7)) (R : RP o c m u) {v0 : Nat} {v0' : Nat} {v1 : Nat} {v1' : Nat} {v2 : Int64} {v4 : Int64} {v6 : Int32} {v7 : Int32} (h_v0 : PVn c v0 v0') (h_v1 : CVn c v1 v1') : RF 0 o VE c u (fb_Pr_copyIn_15 N G u v0 (some v1) v2 v4 v6 v7) (hb_Pr_copyIn_15 N G' m v0' v1' v2 v4 v6 v7) := by
  unfold fb_Pr_copyIn_15 hb_Pr_copyIn_15
  refine rf_bo (gq_4 R h_v0) ?_
  refine rf_br ?_ ?_
  · exact rf_ret R rfl
  · refine rf_br ?_ ?_
    · refine rf_bo (gR_P2 R h_v0) ?_
      refine rf_so ?_
      refine rf_ai (aq_2 R h_v0.1) ?_
      exact (yb_Pr_copyIn_42 hG R h_v0 h_v1)
    · exact (yb_Pr_copyIn_42 hG R h_v0 h_v1)
theorem yb_Pr_copyIn_0 {N : Nat} {o : Option Nat} {c : Nat → Nat} {m : MS} {u : CS} {G : (CS → Nat → Option Nat → Int64 → Int64 → Int32 → Int32 → Option (CS × Int64))} {G' : (MS → Nat → Nat → Int64 → Int64 → Int32 → Int32 → Option (MS × Int64))} (hG : ∀ (c : Nat → Nat) (m : MS) (u : CS) (v0 : Nat) (v0' : Nat) (v1 : Nat) (v1' : Nat) (v2 : Int64) (v4 : Int64) (v6 : Int32) (v7 : Int32), RP o c m u → PVn c v0 v0' → CVn c v1 v1' → RF 0 o VE c u (G u v0 (some v1) v2 v4 v6 v7) (G' m v0' v1' v2 v4 v6 v7)) (R : RP o c m u) {v0 : Nat} {v0' : Nat} {v1 : Nat} {v1' : Nat} {v2 : Int64} (h_v0 : PVn c v0 v0') (h_v1 : CVn c v1 v1') : RF 0 o VE c u (fb_Pr_copyIn_0 N G u v0 (some v1) v2) (hb_Pr_copyIn_0 N G' m v0' v1' v2) := by
  unfold fb_Pr_copyIn_0 hb_Pr_copyIn_0
  refine rf_bo (gq_4 R h_v0) ?_
  exact (hG _ _ _ _ _ _ _ _ _ _ _ R h_v0 h_v1)
theorem yg_Pr_copyIn {N : Nat} {o : Option Nat} : ∀ n, (∀ (c : Nat → Nat) (m : MS) (u : CS) (v0 : Nat) (v0' : Nat) (v1 : Nat) (v1' : Nat) (v2 : Int64) (v4 : Int64) (v6 : Int32) (v7 : Int32), RP o c m u → PVn c v0 v0' → CVn c v1 v1' → RF 0 o VE c u ((gg_Pr_copyIn N n) u v0 (some v1) v2 v4 v6 v7) ((hg_Pr_copyIn N n) m v0' v1' v2 v4 v6 v7)) := by
  intro n
  induction n with
  | zero => exact fun c m u v0 v0' v1 v1' v2 v4 v6 v7 R h_v0 h_v1 => rf_none
  | succ n ih => exact fun c m u v0 v0' v1 v1' v2 v4 v6 v7 R h_v0 h_v1 => yb_Pr_copyIn_15 (N := N) ih R h_v0 h_v1
theorem ym_Pr_copyIn {N : Nat} {o : Option Nat} {c : Nat → Nat} {m : MS} {u : CS} (R : RP o c m u) {v0 : Nat} {v0' : Nat} {v1 : Nat} {v1' : Nat} {v2 : Int64} (h_v0 : PVn c v0 v0') (h_v1 : CVn c v1 v1') : RF 0 o VE c u (fm_Pr_copyIn N u v0 (some v1) v2) (hm_Pr_copyIn N m v0' v1' v2) := yb_Pr_copyIn_0 (N := N) (yg_Pr_copyIn (N := N) N) R h_v0 h_v1
theorem yb_Fr_bind_48 {N : Nat} {o : Option Nat} {c : Nat → Nat} {m : MS} {u : CS} (R : RP o c m u) {v0 : Nat} {v0' : Nat} {v1 : Int32} {v2 : Int64} (h_v0 : FVn c v0 v0') : RF 1 o VE c u (fb_Fr_bind_48 N () u v0 v1 v2) (hb_Fr_bind_48 N () m v0' v1 v2) := by
  unfold fb_Fr_bind_48 hb_Fr_bind_48
  refine rf_bo (gR_F2 R h_v0) ?_
  refine rf_bo (gf_4 R h_v0) ?_
  refine rf_so ?_
  refine rf_wk (sq_32 R h_v0.1) (fun w4' w4 R_w4 => ?_)
  refine rf_bo (gR_F3 R_w4 h_v0) ?_
  refine rf_bo (gf_4 R_w4 h_v0) ?_
  refine rf_so ?_
  refine rf_wk (sq_33 R_w4 h_v0.1) (fun w8' w8 R_w8 => ?_)
  refine rf_bo (gf_4 R_w8 h_v0) ?_
  refine rf_w (wf_4 R_w8 h_v0) (fun w10' w10 R_w10 => ?_)
  exact rf_ret R_w10 rfl
theorem yb_Fr_bind_0 {N : Nat} {o : Option Nat} {c : Nat → Nat} {m : MS} {u : CS} (R : RP o c m u) {v0 : Nat} {v0' : Nat} {v1 : Int32} {v2 : Int64} (h_v0 : FVn c v0 v0') : RF 1 o VE c u (fb_Fr_bind_0 N () u v0 v1 v2) (hb_Fr_bind_0 N () m v0' v1 v2) := by
  unfold fb_Fr_bind_0 hb_Fr_bind_0
  refine rf_bo (gf_4 R h_v0) ?_
  refine rf_bo (gR_F3 R h_v0) ?_
  refine rf_so ?_
  refine rf_bo (nq_33 R h_v0.1) ?_
  refine rf_br ?_ ?_
  · exact (yb_Fr_bind_48 R h_v0)
  · refine rf_bo (gR_F3 R h_v0) ?_
    refine rf_bo (gR_F3 R h_v0) ?_
    refine rf_so ?_
    refine rf_bo (nq_33 R h_v0.1) ?_
    refine rf_ck (all1 (okR_F R h_v0)) ?_
    refine rf_growJ R h_v0 (k := 33) (l := 43) (by unfold GRK; omega) (by omega) (by unfold zle; omega) (fun c_w20 w20' w20 R_w20 E_w20 => ?_)
    replace h_v0 := E_w20.F h_v0
    refine rf_bo (gR_F2 R_w20 h_v0) ?_
    refine rf_bo (gR_F2 R_w20 h_v0) ?_
    refine rf_so ?_
    refine rf_bo (nq_32 R_w20 h_v0.1) ?_
    refine rf_ck (all1 (okR_F R_w20 h_v0)) ?_
    refine rf_growI R_w20 h_v0 (k := 32) (l := 42) (by unfold GRK; omega) (by omega) (by unfold zle; omega) (fun c_w26 w26' w26 R_w26 E_w26 => ?_)
    replace h_v0 := E_w26.F h_v0
    exact (yb_Fr_bind_48 R_w26 h_v0)
theorem ym_Fr_bind {N : Nat} {o : Option Nat} {c : Nat → Nat} {m : MS} {u : CS} (R : RP o c m u) {v0 : Nat} {v0' : Nat} {v1 : Int32} {v2 : Int64} (h_v0 : FVn c v0 v0') : RF 1 o VE c u (fm_Fr_bind N u v0 v1 v2) (hm_Fr_bind N m v0' v1 v2) := yb_Fr_bind_0 (N := N) R h_v0
theorem yb_Ma_hold_40 {N : Nat} {p : Nat} {c : Nat → Nat} {m : MS} {u : CS} {G : (CS → Nat → Option Nat → Option Nat → Int64 → Int32 → Int32 → Option (CS × Unit))} {G' : (MS → Nat → Nat → Nat → Int64 → Int32 → Int32 → Option (MS × Unit))} (hG : ∀ (c : Nat → Nat) (m : MS) (u : CS) (v1 : Nat) (v1' : Nat) (v2 : Nat) (v2' : Nat) (v3 : Int64) (v6 : Int32) (v7 : Int32), RP (some p) c m u → FVn c v1 v1' → CVn c v2 v2' → RF 1 (some p) VE c u (G u 55 (some v1) (some v2) v3 v6 v7) (G' m p v1' v2' v3 v6 v7)) (R : RP (some p) c m u) {v1 : Nat} {v1' : Nat} {v2 : Nat} {v2' : Nat} {v3 : Int64} {v6 : Int32} {v7 : Int32} (h_v1 : FVn c v1 v1') (h_v2 : CVn c v2 v2') : RF 1 (some p) VE c u (fb_Ma_hold_40 N G u 55 (some v1) (some v2) v3 v6 v7) (hb_Ma_hold_40 N G' m p v1' v2' v3 v6 v7) := by
  unfold fb_Ma_hold_40 hb_Ma_hold_40
  refine rf_bo (rx_55_0 R) ?_
  refine rf_so ?_
  refine rf_ck (ox_22 R) ?_
  refine rf_bx0 (rf_gz (ym_Co_at R) (by omega)) (fun u2' u2 r2 R_u2 => ?_)
  refine rf_gw ?_
  refine rf_br ?_ ?_
  · exact rf_ret R_u2 rfl
  · refine rf_bo (rx_55_0 R_u2) ?_
    refine rf_so ?_
    refine rf_ck (ox_22 R_u2) ?_
    refine rf_bx0 (rf_gz (ym_Co_at R_u2) (by omega)) (fun u5' u5 r5 R_u5 => ?_)
    refine rf_gw ?_
    refine rf_so ?_
    refine rf_ai (aq_C R_u5 h_v2) ?_
    refine rf_so ?_
    refine rf_ck (io_F R_u5 h_v1) ?_
    refine rf_ck (all3 (okR_s R_u5 (by decide)) (okR_F R_u5 h_v1) (okR_Co R_u5 (Or.inr ⟨_, _, rfl, rfl, h_v2⟩))) ?_
    refine rf_bx (rf_gw (ym_Fr_bind R_u5 h_v1)) (by unfold zle; omega) (fun c_u9 u9' u9 r9 r9' R_u9 E_u9 v_u9 => ?_)
    cases v_u9
    replace h_v1 := E_u9.F h_v1
    replace h_v2 := E_u9.C (by omega) h_v2
    refine rf_gw ?_
    exact (hG _ _ _ _ _ _ _ _ _ _ R_u9 h_v1 h_v2)
theorem yb_Ma_hold_24 {N : Nat} {p : Nat} {c : Nat → Nat} {m : MS} {u : CS} {G : (CS → Nat → Option Nat → Option Nat → Int64 → Int32 → Int32 → Option (CS × Unit))} {G' : (MS → Nat → Nat → Nat → Int64 → Int32 → Int32 → Option (MS × Unit))} (hG : ∀ (c : Nat → Nat) (m : MS) (u : CS) (v1 : Nat) (v1' : Nat) (v2 : Nat) (v2' : Nat) (v3 : Int64) (v6 : Int32) (v7 : Int32), RP (some p) c m u → FVn c v1 v1' → CVn c v2 v2' → RF 1 (some p) VE c u (G u 55 (some v1) (some v2) v3 v6 v7) (G' m p v1' v2' v3 v6 v7)) (R : RP (some p) c m u) : RF 1 (some p) VE c u (fb_Ma_hold_24 N G u) (hb_Ma_hold_24 N G' m p) := by
  unfold fb_Ma_hold_24 hb_Ma_hold_24
  exact rf_ret R rfl
theorem yb_Ma_hold_0 {N : Nat} {p : Nat} {c : Nat → Nat} {m : MS} {u : CS} {G : (CS → Nat → Option Nat → Option Nat → Int64 → Int32 → Int32 → Option (CS × Unit))} {G' : (MS → Nat → Nat → Nat → Int64 → Int32 → Int32 → Option (MS × Unit))} (hG : ∀ (c : Nat → Nat) (m : MS) (u : CS) (v1 : Nat) (v1' : Nat) (v2 : Nat) (v2' : Nat) (v3 : Int64) (v6 : Int32) (v7 : Int32), RP (some p) c m u → FVn c v1 v1' → CVn c v2 v2' → RF 1 (some p) VE c u (G u 55 (some v1) (some v2) v3 v6 v7) (G' m p v1' v2' v3 v6 v7)) (R : RP (some p) c m u) {v1 : Nat} {v1' : Nat} {v2 : Nat} {v2' : Nat} {v3 : Int64} (h_v1 : FVn c v1 v1') (h_v2 : CVn c v2 v2') : RF 1 (some p) VE c u (fb_Ma_hold_0 N G u 55 (some v1) (some v2) v3) (hb_Ma_hold_0 N G' m p v1' v2' v3) := by
  unfold fb_Ma_hold_0 hb_Ma_hold_0
  refine rf_so ?_
  refine rf_ai (aq_C R h_v2) ?_
  refine rf_br ?_ ?_
  · exact (yb_Ma_hold_24 hG R)
  · refine rf_bo (rx_55_0 R) ?_
    refine rf_so ?_
    refine rf_bo (gx_22_9 R) ?_
    refine rf_br ?_ ?_
    · refine rf_bo (rx_55_0 R) ?_
      refine rf_so ?_
      refine rf_bo (rx_22_12 R) ?_
      refine rf_so ?_
      refine rf_ai (ax_32 R) ?_
      exact (hG _ _ _ _ _ _ _ _ _ _ R h_v1 h_v2)
    · exact (yb_Ma_hold_24 hG R)
theorem yg_Ma_hold {N : Nat} {p : Nat} : ∀ n, (∀ (c : Nat → Nat) (m : MS) (u : CS) (v1 : Nat) (v1' : Nat) (v2 : Nat) (v2' : Nat) (v3 : Int64) (v6 : Int32) (v7 : Int32), RP (some p) c m u → FVn c v1 v1' → CVn c v2 v2' → RF 1 (some p) VE c u ((gg_Ma_hold N n) u 55 (some v1) (some v2) v3 v6 v7) ((hg_Ma_hold N n) m p v1' v2' v3 v6 v7)) := by
  intro n
  induction n with
  | zero => exact fun c m u v1 v1' v2 v2' v3 v6 v7 R h_v1 h_v2 => rf_none
  | succ n ih => exact fun c m u v1 v1' v2 v2' v3 v6 v7 R h_v1 h_v2 => yb_Ma_hold_40 (N := N) ih R h_v1 h_v2
theorem ym_Ma_hold {N : Nat} {p : Nat} {c : Nat → Nat} {m : MS} {u : CS} (R : RP (some p) c m u) {v1 : Nat} {v1' : Nat} {v2 : Nat} {v2' : Nat} {v3 : Int64} (h_v1 : FVn c v1 v1') (h_v2 : CVn c v2 v2') : RF 1 (some p) VE c u (fm_Ma_hold N u 55 (some v1) (some v2) v3) (hm_Ma_hold N m p v1' v2' v3) := yb_Ma_hold_0 (N := N) (yg_Ma_hold (N := N) N) R h_v1 h_v2
