section
set_option maxRecDepth 100000
theorem yb_Cm_tries_181 {N : Nat} {o : Option Nat} {c : Nat → Nat} {m : MS} {u : CS} {S : SG_Cm_fun} {S' : SF_Cm_fun} {G : (CS → Nat → Int32 → Int32 → Int32 → Int32 → Option (CS × Int32)) × (CS → Nat → Int32 → Int32 → Int32 → Option (CS × Int32))} {G' : (MS → Int32 → Int32 → Int32 → Int32 → Option (MS × Int32)) × (MS → Int32 → Int32 → Int32 → Option (MS × Int32))} (hS : SC_Cm_fun o S S') (hG1 : ∀ (c : Nat → Nat) (m : MS) (u : CS) (v2 : Int32) (v3 : Int32) (v4 : Int32) (v5 : Int32), RP o c m u → RF 0 o VE c u (G.1 u 35 v2 v3 v4 v5) (G'.1 m v2 v3 v4 v5)) (hG2 : ∀ (c : Nat → Nat) (m : MS) (u : CS) (v4 : Int32) (v5 : Int32) (v6 : Int32), RP o c m u → RF 0 o VE c u (G.2 u 35 v4 v5 v6) (G'.2 m v4 v5 v6)) (R : RP o c m u) {v4 : Int32} {v5 : Int32} {v6 : Int32} : RF 0 o VE c u (fb_Cm_tries_181 N S G u 35 v4 v5 v6) (hb_Cm_tries_181 N S' G' m v4 v5 v6) := by
  unfold fb_Cm_tries_181 hb_Cm_tries_181
  refine rf_br ?_ ?_
  · refine rf_bo (rx_35_2 R) ?_
    refine rf_so ?_
    refine rf_ck (ox_22 R) ?_
    refine rf_bx0 (ym_Co_put R) (fun u2' u2 r2 R_u2 => ?_)
    refine rf_ckk ?_
    refine rf_w (px_35_12 R_u2) (fun w4' w4 R_w4 => ?_)
    exact rf_ret R_w4 rfl
  · refine rf_ck (ox_35 R) ?_
    refine rf_bx0 (hS.2.2.2.2.2.2.2.2.2.2.1 _ _ _ _ _ R) (fun u5' u5 r5 R_u5 => ?_)
    refine rf_bo (rx_35_2 R_u5) ?_
    refine rf_so ?_
    refine rf_ck (ox_22 R_u5) ?_
    refine rf_bx0 (ym_Co_put R_u5) (fun u7' u7 r7 R_u7 => ?_)
    refine rf_bo (rx_35_1 R_u7) ?_
    refine rf_so ?_
    refine rf_bo (rx_15_5 R_u7) ?_
    refine rf_so ?_
    refine rf_ai (ax_21 R_u7) ?_
    exact (hG2 _ _ _ _ _ _ R_u7)
theorem yb_Cm_tries_111 {N : Nat} {o : Option Nat} {c : Nat → Nat} {m : MS} {u : CS} {S : SG_Cm_fun} {S' : SF_Cm_fun} {G : (CS → Nat → Int32 → Int32 → Int32 → Int32 → Option (CS × Int32)) × (CS → Nat → Int32 → Int32 → Int32 → Option (CS × Int32))} {G' : (MS → Int32 → Int32 → Int32 → Int32 → Option (MS × Int32)) × (MS → Int32 → Int32 → Int32 → Option (MS × Int32))} (hS : SC_Cm_fun o S S') (hG1 : ∀ (c : Nat → Nat) (m : MS) (u : CS) (v2 : Int32) (v3 : Int32) (v4 : Int32) (v5 : Int32), RP o c m u → RF 0 o VE c u (G.1 u 35 v2 v3 v4 v5) (G'.1 m v2 v3 v4 v5)) (hG2 : ∀ (c : Nat → Nat) (m : MS) (u : CS) (v4 : Int32) (v5 : Int32) (v6 : Int32), RP o c m u → RF 0 o VE c u (G.2 u 35 v4 v5 v6) (G'.2 m v4 v5 v6)) (R : RP o c m u) {v2 : Int32} {v3 : Int32} {v4 : Int32} : RF 0 o VE c u (fb_Cm_tries_111 N S G u 35 v2 v3 v4) (hb_Cm_tries_111 N S' G' m v2 v3 v4) := by
  unfold fb_Cm_tries_111 hb_Cm_tries_111
  refine rf_bo (rx_35_1 R) ?_
  refine rf_so ?_
  refine rf_bo (rx_15_3 R) ?_
  refine rf_so ?_
  refine rf_ai (ax_19 R) ?_
  refine rf_br ?_ ?_
  · exact rf_ret R rfl
  · refine rf_bo (gx_35_12 R) ?_
    refine rf_w (px_35_12 R) (fun w20' w20 R_w20 => ?_)
    refine rf_bo (rx_35_2 R_w20) ?_
    refine rf_so ?_
    refine rf_ck (ox_22 R_w20) ?_
    refine rf_bx0 (ym_Co_put R_w20) (fun u22' u22 r22 R_u22 => ?_)
    refine rf_bo (rx_35_2 R_u22) ?_
    refine rf_bo (gx_35_6 R_u22) ?_
    refine rf_so ?_
    refine rf_ck (ox_22 R_u22) ?_
    refine rf_bx0 (ym_Co_put R_u22) (fun u26' u26 r26 R_u26 => ?_)
    refine rf_bo (rx_35_2 R_u26) ?_
    refine rf_so ?_
    refine rf_ck (ox_22 R_u26) ?_
    refine rf_bx0 (ym_Co_hook R_u26) (fun u29' u29 r29 R_u29 => ?_)
    refine rf_bo (rx_35_1 R_u29) ?_
    refine rf_so ?_
    refine rf_bo (rx_15_3 R_u29) ?_
    refine rf_so ?_
    refine rf_ai (ax_19 R_u29) ?_
    exact (hG2 _ _ _ _ _ _ R_u29)
theorem yb_Cm_tries_71 {N : Nat} {o : Option Nat} {c : Nat → Nat} {m : MS} {u : CS} {S : SG_Cm_fun} {S' : SF_Cm_fun} {G : (CS → Nat → Int32 → Int32 → Int32 → Int32 → Option (CS × Int32)) × (CS → Nat → Int32 → Int32 → Int32 → Option (CS × Int32))} {G' : (MS → Int32 → Int32 → Int32 → Int32 → Option (MS × Int32)) × (MS → Int32 → Int32 → Int32 → Option (MS × Int32))} (hS : SC_Cm_fun o S S') (hG1 : ∀ (c : Nat → Nat) (m : MS) (u : CS) (v2 : Int32) (v3 : Int32) (v4 : Int32) (v5 : Int32), RP o c m u → RF 0 o VE c u (G.1 u 35 v2 v3 v4 v5) (G'.1 m v2 v3 v4 v5)) (hG2 : ∀ (c : Nat → Nat) (m : MS) (u : CS) (v4 : Int32) (v5 : Int32) (v6 : Int32), RP o c m u → RF 0 o VE c u (G.2 u 35 v4 v5 v6) (G'.2 m v4 v5 v6)) (R : RP o c m u) {v2 : Int32} {v3 : Int32} {v4 : Int32} {v5 : Int32} : RF 0 o VE c u (fb_Cm_tries_71 N S G u 35 v2 v3 v4 v5) (hb_Cm_tries_71 N S' G' m v2 v3 v4 v5) := by
  unfold fb_Cm_tries_71 hb_Cm_tries_71
  refine rf_br ?_ ?_
  · refine rf_w (px_35_13 R) (fun w36' w36 R_w36 => ?_)
    refine rf_bo (rx_35_2 R_w36) ?_
    refine rf_so ?_
    refine rf_ck (ox_22 R_w36) ?_
    refine rf_bx0 (ym_Co_put R_w36) (fun u38' u38 r38 R_u38 => ?_)
    exact (yb_Cm_tries_111 hS hG1 hG2 R_u38)
  · refine rf_ck (ox_35 R) ?_
    refine rf_bx0 (yr_Cm_pattern R) (fun u40' u40 r40 R_u40 => ?_)
    refine rf_bo (rx_35_1 R_u40) ?_
    refine rf_so ?_
    refine rf_bo (rx_15_5 R_u40) ?_
    refine rf_so ?_
    refine rf_ai (ax_21 R_u40) ?_
    exact (hG1 _ _ _ _ _ _ _ R_u40)
theorem yb_Cm_tries_57 {N : Nat} {o : Option Nat} {c : Nat → Nat} {m : MS} {u : CS} {S : SG_Cm_fun} {S' : SF_Cm_fun} {G : (CS → Nat → Int32 → Int32 → Int32 → Int32 → Option (CS × Int32)) × (CS → Nat → Int32 → Int32 → Int32 → Option (CS × Int32))} {G' : (MS → Int32 → Int32 → Int32 → Int32 → Option (MS × Int32)) × (MS → Int32 → Int32 → Int32 → Option (MS × Int32))} (hS : SC_Cm_fun o S S') (hG1 : ∀ (c : Nat → Nat) (m : MS) (u : CS) (v2 : Int32) (v3 : Int32) (v4 : Int32) (v5 : Int32), RP o c m u → RF 0 o VE c u (G.1 u 35 v2 v3 v4 v5) (G'.1 m v2 v3 v4 v5)) (hG2 : ∀ (c : Nat → Nat) (m : MS) (u : CS) (v4 : Int32) (v5 : Int32) (v6 : Int32), RP o c m u → RF 0 o VE c u (G.2 u 35 v4 v5 v6) (G'.2 m v4 v5 v6)) (R : RP o c m u) {v2 : Int32} {v3 : Int32} {v4 : Int32} {t1 : Int32} : RF 0 o VE c u (fb_Cm_tries_57 N S G u 35 v2 v3 v4 35 t1) (hb_Cm_tries_57 N S' G' m v2 v3 v4 t1) := by
  unfold fb_Cm_tries_57 hb_Cm_tries_57
  refine rf_ckk ?_
  refine rf_w (px_35_13 R) (fun w46' w46 R_w46 => ?_)
  refine rf_bo (rx_35_1 R_w46) ?_
  refine rf_so ?_
  refine rf_bo (rx_15_2 R_w46) ?_
  refine rf_so ?_
  refine rf_ai (ax_18 R_w46) ?_
  exact (hG1 _ _ _ _ _ _ _ R_w46)
theorem yb_Cm_tries_0 {N : Nat} {o : Option Nat} {c : Nat → Nat} {m : MS} {u : CS} {S : SG_Cm_fun} {S' : SF_Cm_fun} {G : (CS → Nat → Int32 → Int32 → Int32 → Int32 → Option (CS × Int32)) × (CS → Nat → Int32 → Int32 → Int32 → Option (CS × Int32))} {G' : (MS → Int32 → Int32 → Int32 → Int32 → Option (MS × Int32)) × (MS → Int32 → Int32 → Int32 → Option (MS × Int32))} (hS : SC_Cm_fun o S S') (hG1 : ∀ (c : Nat → Nat) (m : MS) (u : CS) (v2 : Int32) (v3 : Int32) (v4 : Int32) (v5 : Int32), RP o c m u → RF 0 o VE c u (G.1 u 35 v2 v3 v4 v5) (G'.1 m v2 v3 v4 v5)) (hG2 : ∀ (c : Nat → Nat) (m : MS) (u : CS) (v4 : Int32) (v5 : Int32) (v6 : Int32), RP o c m u → RF 0 o VE c u (G.2 u 35 v4 v5 v6) (G'.2 m v4 v5 v6)) (R : RP o c m u) {v1 : Int32} {v2 : Int32} : RF 0 o VE c u (fb_Cm_tries_0 N S G u 35 v1 v2) (hb_Cm_tries_0 N S' G' m v1 v2) := by
  unfold fb_Cm_tries_0 hb_Cm_tries_0
  refine rf_bo (gx_35_6 R) ?_
  refine rf_bo (rx_35_1 R) ?_
  refine rf_so ?_
  refine rf_bo (rx_15_2 R) ?_
  refine rf_so ?_
  refine rf_ai (ax_18 R) ?_
  refine rf_br ?_ ?_
  · exact (yb_Cm_tries_111 hS hG1 hG2 R)
  · refine rf_bo (rx_35_2 R) ?_
    refine rf_so ?_
    refine rf_ck (ox_22 R) ?_
    refine rf_bx0 (ym_Co_put R) (fun u59' u59 r59 R_u59 => ?_)
    refine rf_bo (rx_35_2 R_u59) ?_
    refine rf_so ?_
    refine rf_ck (ox_22 R_u59) ?_
    refine rf_bx0 (ym_Co_put R_u59) (fun u62' u62 r62 R_u62 => ?_)
    refine rf_bo (rx_35_2 R_u62) ?_
    refine rf_so ?_
    refine rf_ck (ox_22 R_u62) ?_
    refine rf_bx0 (ym_Co_hook R_u62) (fun u65' u65 r65 R_u65 => ?_)
    refine rf_br ?_ ?_
    · exact (yb_Cm_tries_57 hS hG1 hG2 R_u65)
    · exact (yb_Cm_tries_57 hS hG1 hG2 R_u65)
theorem yg_Cm_tries {N : Nat} {o : Option Nat} {S : SG_Cm_fun} {S' : SF_Cm_fun} (hS : SC_Cm_fun o S S') : ∀ n, (∀ (c : Nat → Nat) (m : MS) (u : CS) (v2 : Int32) (v3 : Int32) (v4 : Int32) (v5 : Int32), RP o c m u → RF 0 o VE c u ((gg_Cm_tries N S n).1 u 35 v2 v3 v4 v5) ((hg_Cm_tries N S' n).1 m v2 v3 v4 v5)) ∧ (∀ (c : Nat → Nat) (m : MS) (u : CS) (v4 : Int32) (v5 : Int32) (v6 : Int32), RP o c m u → RF 0 o VE c u ((gg_Cm_tries N S n).2 u 35 v4 v5 v6) ((hg_Cm_tries N S' n).2 m v4 v5 v6)) := by
  intro n
  induction n with
  | zero => exact ⟨fun c m u v2 v3 v4 v5 R => rf_none, fun c m u v4 v5 v6 R => rf_none⟩
  | succ n ih => exact ⟨fun c m u v2 v3 v4 v5 R => yb_Cm_tries_71 (N := N) hS ih.1 ih.2 R, fun c m u v4 v5 v6 R => yb_Cm_tries_181 (N := N) hS ih.1 ih.2 R⟩
theorem ym_Cm_tries {N : Nat} {o : Option Nat} {c : Nat → Nat} {m : MS} {u : CS} {S : SG_Cm_fun} {S' : SF_Cm_fun} (hS : SC_Cm_fun o S S') (R : RP o c m u) {v1 : Int32} {v2 : Int32} : RF 0 o VE c u (fm_Cm_tries N S u 35 v1 v2) (hm_Cm_tries N S' m v1 v2) := yb_Cm_tries_0 (N := N) hS (yg_Cm_tries (N := N) hS N).1 (yg_Cm_tries (N := N) hS N).2 R
theorem yb_Cm_clause_0 {N : Nat} {o : Option Nat} {c : Nat → Nat} {m : MS} {u : CS} {S : SG_Cm_fun} {S' : SF_Cm_fun} (hS : SC_Cm_fun o S S') (R : RP o c m u) {v1 : Int32} {v2 : Int32} {v3 : Int32} : RF 0 o VE c u (fb_Cm_clause_0 N S () u 35 v1 v2 v3) (hb_Cm_clause_0 N S' () m v1 v2 v3) := by
  unfold fb_Cm_clause_0 hb_Cm_clause_0
  refine rf_bo (gx_35_6 R) ?_
  refine rf_ck (ox_35 R) ?_
  refine rf_bx0 (hS.2.2.2.2.2.2.2.2.2.2.2.1 _ _ _ _ _ R) (fun u2' u2 r2 R_u2 => ?_)
  refine rf_bo (rx_35_2 R_u2) ?_
  refine rf_so ?_
  refine rf_ck (ox_22 R_u2) ?_
  refine rf_bx0 (ym_Co_put R_u2) (fun u4' u4 r4 R_u4 => ?_)
  refine rf_bo (rx_35_2 R_u4) ?_
  refine rf_so ?_
  refine rf_ck (ox_22 R_u4) ?_
  refine rf_bx0 (ym_Co_put R_u4) (fun u7' u7 r7 R_u7 => ?_)
  refine rf_bo (rx_35_2 R_u7) ?_
  refine rf_so ?_
  refine rf_ck (ox_22 R_u7) ?_
  refine rf_bx0 (ym_Co_put R_u7) (fun u10' u10 r10 R_u10 => ?_)
  refine rf_bo (rx_35_1 R_u10) ?_
  refine rf_so ?_
  refine rf_bo (rx_15_4 R_u10) ?_
  refine rf_so ?_
  refine rf_ai (ax_20 R_u10) ?_
  refine rf_ck (ox_35 R_u10) ?_
  refine rf_bx0 (hS.2.2.2.1 _ _ _ _ _ R_u10) (fun u17' u17 r17 R_u17 => ?_)
  refine rf_bo (rx_35_2 R_u17) ?_
  refine rf_so ?_
  refine rf_ck (ox_22 R_u17) ?_
  refine rf_bx0 (ym_Co_put R_u17) (fun u19' u19 r19 R_u19 => ?_)
  refine rf_w (px_35_6 R_u19) (fun w21' w21 R_w21 => ?_)
  refine rf_bo (rx_35_2 R_w21) ?_
  refine rf_so ?_
  refine rf_ck (ox_22 R_w21) ?_
  refine rf_bx0 (ym_Co_arrive R_w21) (fun u23' u23 r23 R_u23 => ?_)
  exact rf_ret R_u23 rfl
theorem ym_Cm_clause {N : Nat} {o : Option Nat} {c : Nat → Nat} {m : MS} {u : CS} {S : SG_Cm_fun} {S' : SF_Cm_fun} (hS : SC_Cm_fun o S S') (R : RP o c m u) {v1 : Int32} {v2 : Int32} {v3 : Int32} : RF 0 o VE c u (fm_Cm_clause N S u 35 v1 v2 v3) (hm_Cm_clause N S' m v1 v2 v3) := yb_Cm_clause_0 (N := N) hS R
theorem yrc_Cm_fun {N : Nat} {o : Option Nat} : ∀ d, SC_Cm_fun o (rc_Cm_fun N d) (hrc_Cm_fun N d) := by
  intro d
  induction d with
  | zero => exact ⟨fun c m u v1 R => rf_none, fun c m u v1 v2 R => rf_none, fun c m u v1 v2 v3 v4 R => rf_none, fun c m u v1 v2 R => rf_none, fun c m u v1 v2 R => rf_none, fun c m u v1 v2 R => rf_none, fun c m u v1 v2 R => rf_none, fun c m u v1 R => rf_none, fun c m u v1 R => rf_none, fun c m u v1 R => rf_none, fun c m u v1 v2 R => rf_none, fun c m u v1 v2 R => rf_none, fun c m u v1 v2 v3 R => rf_none⟩
  | succ d ih => exact ⟨fun c m u v1 R => ym_Cm_fun (N := N) ih R, fun c m u v1 v2 R => ym_Cm_receive (N := N) ih R, fun c m u v1 v2 v3 v4 R => ym_Cm_parts (N := N) ih R, fun c m u v1 v2 R => ym_Cm_body (N := N) ih R, fun c m u v1 v2 R => ym_Cm_compound (N := N) ih R, fun c m u v1 v2 R => ym_Cm_apply (N := N) ih R, fun c m u v1 v2 R => ym_Cm_call (N := N) ih R, fun c m u v1 R => ym_Cm_signs (N := N) ih R, fun c m u v1 R => ym_Cm_list (N := N) ih R, fun c m u v1 R => ym_Cm_row (N := N) ih R, fun c m u v1 v2 R => ym_Cm_expression (N := N) ih R, fun c m u v1 v2 R => ym_Cm_tries (N := N) ih R, fun c m u v1 v2 v3 R => ym_Cm_clause (N := N) ih R⟩
theorem yr_Cm_clause {N : Nat} {o : Option Nat} {c : Nat → Nat} {m : MS} {u : CS} (R : RP o c m u) {v1 : Int32} {v2 : Int32} {v3 : Int32} : RF 0 o VE c u (fr_Cm_clause N u 35 v1 v2 v3) (hr_Cm_clause N m v1 v2 v3) := (yrc_Cm_fun (N := N) 300).2.2.2.2.2.2.2.2.2.2.2.2 _ _ _ _ _ _ R
theorem yb_Cm_oneFunction_268 {N : Nat} {o : Option Nat} {c : Nat → Nat} {m : MS} {u : CS} {G : (CS → Nat → Int32 → Int32 → Option (CS × Unit))} {G' : (MS → Int32 → Int32 → Option (MS × Unit))} (hG : ∀ (c : Nat → Nat) (m : MS) (u : CS) (v1 : Int32) (v3 : Int32), RP o c m u → RF 0 o VE c u (G u 35 v1 v3) (G' m v1 v3)) (R : RP o c m u) {t1 : Int32} : RF 0 o VE c u (fb_Cm_oneFunction_268 N G u 35 t1) (hb_Cm_oneFunction_268 N G' m t1) := by
  unfold fb_Cm_oneFunction_268 hb_Cm_oneFunction_268
  refine rf_ckk ?_
  refine rf_w (px_35_11 R) (fun w1' w1 R_w1 => ?_)
  exact rf_ret R_w1 rfl
theorem yb_Cm_oneFunction_263 {N : Nat} {o : Option Nat} {c : Nat → Nat} {m : MS} {u : CS} {G : (CS → Nat → Int32 → Int32 → Option (CS × Unit))} {G' : (MS → Int32 → Int32 → Option (MS × Unit))} (hG : ∀ (c : Nat → Nat) (m : MS) (u : CS) (v1 : Int32) (v3 : Int32), RP o c m u → RF 0 o VE c u (G u 35 v1 v3) (G' m v1 v3)) (R : RP o c m u) : RF 0 o VE c u (fb_Cm_oneFunction_263 N G u 35) (hb_Cm_oneFunction_263 N G' m) := by
  unfold fb_Cm_oneFunction_263 hb_Cm_oneFunction_263
  exact (yb_Cm_oneFunction_268 hG R)
theorem yb_Cm_oneFunction_205 {N : Nat} {o : Option Nat} {c : Nat → Nat} {m : MS} {u : CS} {G : (CS → Nat → Int32 → Int32 → Option (CS × Unit))} {G' : (MS → Int32 → Int32 → Option (MS × Unit))} (hG : ∀ (c : Nat → Nat) (m : MS) (u : CS) (v1 : Int32) (v3 : Int32), RP o c m u → RF 0 o VE c u (G u 35 v1 v3) (G' m v1 v3)) (R : RP o c m u) {v1 : Int32} {v3 : Int32} {v4 : Int32} {v5 : Int32} : RF 0 o VE c u (fb_Cm_oneFunction_205 N G u 35 v1 v3 v4 v5) (hb_Cm_oneFunction_205 N G' m v1 v3 v4 v5) := by
  unfold fb_Cm_oneFunction_205 hb_Cm_oneFunction_205
  refine rf_bo (rx_35_0 R) ?_
  refine rf_so ?_
  refine rf_bo (rx_4_4 R) ?_
  refine rf_so ?_
  refine rf_ai (ax_8 R) ?_
  refine rf_ck (ox_35 R) ?_
  refine rf_bx0 (yr_Cm_clause R) (fun u7' u7 r7 R_u7 => ?_)
  refine rf_bo (rx_35_1 R_u7) ?_
  refine rf_so ?_
  refine rf_bo (rx_15_5 R_u7) ?_
  refine rf_so ?_
  refine rf_ai (ax_21 R_u7) ?_
  exact (hG _ _ _ _ _ R_u7)
theorem yb_Cm_oneFunction_198 {N : Nat} {o : Option Nat} {c : Nat → Nat} {m : MS} {u : CS} {G : (CS → Nat → Int32 → Int32 → Option (CS × Unit))} {G' : (MS → Int32 → Int32 → Option (MS × Unit))} (hG : ∀ (c : Nat → Nat) (m : MS) (u : CS) (v1 : Int32) (v3 : Int32), RP o c m u → RF 0 o VE c u (G u 35 v1 v3) (G' m v1 v3)) (R : RP o c m u) {v1 : Int32} {v3 : Int32} {v4 : Int32} {v5 : Int32} : RF 0 o VE c u (fb_Cm_oneFunction_198 N G u 35 v1 v3 v4 v5) (hb_Cm_oneFunction_198 N G' m v1 v3 v4 v5) := by
  unfold fb_Cm_oneFunction_198 hb_Cm_oneFunction_198
  refine rf_ck (ox_35 R) ?_
  refine rf_bx0 (ym_Cm_fault R) (fun u13' u13 r13 R_u13 => ?_)
  exact (yb_Cm_oneFunction_205 hG R_u13)
theorem yb_Cm_oneFunction_129 {N : Nat} {o : Option Nat} {c : Nat → Nat} {m : MS} {u : CS} {G : (CS → Nat → Int32 → Int32 → Option (CS × Unit))} {G' : (MS → Int32 → Int32 → Option (MS × Unit))} (hG : ∀ (c : Nat → Nat) (m : MS) (u : CS) (v1 : Int32) (v3 : Int32), RP o c m u → RF 0 o VE c u (G u 35 v1 v3) (G' m v1 v3)) (R : RP o c m u) {v1 : Int32} {v3 : Int32} : RF 0 o VE c u (fb_Cm_oneFunction_129 N G u 35 v1 v3) (hb_Cm_oneFunction_129 N G' m v1 v3) := by
  unfold fb_Cm_oneFunction_129 hb_Cm_oneFunction_129
  refine rf_br ?_ ?_
  · refine rf_bo (rx_35_2 R) ?_
    refine rf_so ?_
    refine rf_ck (ox_22 R) ?_
    refine rf_bx0 (ym_Co_put R) (fun u15' u15 r15 R_u15 => ?_)
    refine rf_bo (gx_35_11 R_u15) ?_
    refine rf_br ?_ ?_
    · refine rf_bo (rx_35_8 R_u15) ?_
      refine rf_so ?_
      refine rf_ai (ax_41 R_u15) ?_
      refine rf_br ?_ ?_
      · exact (yb_Cm_oneFunction_268 hG R_u15)
      · exact (yb_Cm_oneFunction_263 hG R_u15)
    · exact (yb_Cm_oneFunction_263 hG R_u15)
  · refine rf_bo (rx_35_1 R) ?_
    refine rf_so ?_
    refine rf_bo (rx_15_1 R) ?_
    refine rf_so ?_
    refine rf_ai (ax_17 R) ?_
    refine rf_bo (rx_35_1 R) ?_
    refine rf_bo (rx_35_1 R) ?_
    refine rf_so ?_
    refine rf_bo (rx_15_2 R) ?_
    refine rf_so ?_
    refine rf_ai (ax_18 R) ?_
    refine rf_so ?_
    refine rf_ck (ox_15 R) ?_
    refine rf_bx0 (ym_Tr_length R) (fun u32' u32 r32 R_u32 => ?_)
    refine rf_bo (rx_35_0 R_u32) ?_
    refine rf_so ?_
    refine rf_bo (rx_4_3 R_u32) ?_
    refine rf_so ?_
    refine rf_ai (ax_7 R_u32) ?_
    refine rf_bo (rx_35_2 R_u32) ?_
    refine rf_so ?_
    refine rf_bo (rx_22_3 R_u32) ?_
    refine rf_so ?_
    refine rf_ai (ax_24 R_u32) ?_
    refine rf_br ?_ ?_
    · refine rf_bo (rx_35_2 R_u32) ?_
      refine rf_so ?_
      refine rf_bo (rx_22_4 R_u32) ?_
      refine rf_so ?_
      refine rf_ai (ax_25 R_u32) ?_
      refine rf_br ?_ ?_
      · exact (yb_Cm_oneFunction_205 hG R_u32)
      · exact (yb_Cm_oneFunction_198 hG R_u32)
    · exact (yb_Cm_oneFunction_198 hG R_u32)
theorem yb_Cm_oneFunction_79 {N : Nat} {o : Option Nat} {c : Nat → Nat} {m : MS} {u : CS} {G : (CS → Nat → Int32 → Int32 → Option (CS × Unit))} {G' : (MS → Int32 → Int32 → Option (MS × Unit))} (hG : ∀ (c : Nat → Nat) (m : MS) (u : CS) (v1 : Int32) (v3 : Int32), RP o c m u → RF 0 o VE c u (G u 35 v1 v3) (G' m v1 v3)) (R : RP o c m u) {v1 : Int32} : RF 0 o VE c u (fb_Cm_oneFunction_79 N G u 35 v1) (hb_Cm_oneFunction_79 N G' m v1) := by
  unfold fb_Cm_oneFunction_79 hb_Cm_oneFunction_79
  refine rf_w (px_35_9 R) (fun w49' w49 R_w49 => ?_)
  refine rf_w (px_35_6 R_w49) (fun w50' w50 R_w50 => ?_)
  refine rf_bo (rx_35_7 R_w50) ?_
  refine rf_so ?_
  refine rf_wk (sx_40 R_w50) (fun w53' w53 R_w53 => ?_)
  refine rf_bo (rx_35_8 R_w53) ?_
  refine rf_so ?_
  refine rf_wk (sx_41 R_w53) (fun w56' w56 R_w56 => ?_)
  refine rf_bo (rx_35_2 R_w56) ?_
  refine rf_so ?_
  refine rf_bo (rx_22_8 R_w56) ?_
  refine rf_bo (rx_35_2 R_w56) ?_
  refine rf_so ?_
  refine rf_bo (gx_22_1 R_w56) ?_
  refine rf_so ?_
  refine rf_wk (sx_29 R_w56) (fun w64' w64 R_w64 => ?_)
  refine rf_bo (rx_35_2 R_w64) ?_
  refine rf_so ?_
  refine rf_bo (rx_22_6 R_w64) ?_
  refine rf_so ?_
  refine rf_ai (ax_27 R_w64) ?_
  exact (hG _ _ _ _ _ R_w64)
theorem yb_Cm_oneFunction_73 {N : Nat} {o : Option Nat} {c : Nat → Nat} {m : MS} {u : CS} {G : (CS → Nat → Int32 → Int32 → Option (CS × Unit))} {G' : (MS → Int32 → Int32 → Option (MS × Unit))} (hG : ∀ (c : Nat → Nat) (m : MS) (u : CS) (v1 : Int32) (v3 : Int32), RP o c m u → RF 0 o VE c u (G u 35 v1 v3) (G' m v1 v3)) (R : RP o c m u) {v1 : Int32} {v2 : Int32} : RF 0 o VE c u (fb_Cm_oneFunction_73 N G u 35 v1 v2) (hb_Cm_oneFunction_73 N G' m v1 v2) := by
  unfold fb_Cm_oneFunction_73 hb_Cm_oneFunction_73
  refine rf_ck (ox_35 R) ?_
  refine rf_bx0 (ym_Cm_fault R) (fun u70' u70 r70 R_u70 => ?_)
  exact (yb_Cm_oneFunction_79 hG R_u70)
theorem yb_Cm_oneFunction_0 {N : Nat} {o : Option Nat} {c : Nat → Nat} {m : MS} {u : CS} {G : (CS → Nat → Int32 → Int32 → Option (CS × Unit))} {G' : (MS → Int32 → Int32 → Option (MS × Unit))} (hG : ∀ (c : Nat → Nat) (m : MS) (u : CS) (v1 : Int32) (v3 : Int32), RP o c m u → RF 0 o VE c u (G u 35 v1 v3) (G' m v1 v3)) (R : RP o c m u) {v1 : Int32} : RF 0 o VE c u (fb_Cm_oneFunction_0 N G u 35 v1) (hb_Cm_oneFunction_0 N G' m v1) := by
  unfold fb_Cm_oneFunction_0 hb_Cm_oneFunction_0
  refine rf_bo (rx_35_1 R) ?_
  refine rf_so ?_
  refine rf_bo (rx_15_1 R) ?_
  refine rf_bo (rx_35_2 R) ?_
  refine rf_so ?_
  refine rf_bo (rx_22_6 R) ?_
  refine rf_so ?_
  refine rf_ai (ax_27 R) ?_
  refine rf_so ?_
  refine rf_ai (ax_17 R) ?_
  refine rf_bo (rx_35_2 R) ?_
  refine rf_bo (rx_35_2 R) ?_
  refine rf_so ?_
  refine rf_bo (rx_22_3 R) ?_
  refine rf_so ?_
  refine rf_ai (ax_24 R) ?_
  refine rf_bo (rx_35_2 R) ?_
  refine rf_so ?_
  refine rf_bo (rx_22_4 R) ?_
  refine rf_so ?_
  refine rf_ai (ax_25 R) ?_
  refine rf_so ?_
  refine rf_ck (ox_22 R) ?_
  refine rf_bx0 (ym_Co_seek R) (fun u92' u92 r92 R_u92 => ?_)
  refine rf_br ?_ ?_
  · refine rf_bo (rx_35_2 R_u92) ?_
    refine rf_so ?_
    refine rf_bo (rx_22_3 R_u92) ?_
    refine rf_so ?_
    refine rf_ai (ax_24 R_u92) ?_
    refine rf_bo (rx_35_2 R_u92) ?_
    refine rf_so ?_
    refine rf_bo (rx_22_4 R_u92) ?_
    refine rf_so ?_
    refine rf_ai (ax_25 R_u92) ?_
    refine rf_ck (ox_35 R_u92) ?_
    refine rf_bx0 (ym_Cm_predefinedOf R_u92) (fun u104' u104 r104 R_u104 => ?_)
    refine rf_br ?_ ?_
    · exact (yb_Cm_oneFunction_79 hG R_u104)
    · exact (yb_Cm_oneFunction_73 hG R_u104)
  · exact (yb_Cm_oneFunction_73 hG R_u92)
theorem yg_Cm_oneFunction {N : Nat} {o : Option Nat} : ∀ n, (∀ (c : Nat → Nat) (m : MS) (u : CS) (v1 : Int32) (v3 : Int32), RP o c m u → RF 0 o VE c u ((gg_Cm_oneFunction N n) u 35 v1 v3) ((hg_Cm_oneFunction N n) m v1 v3)) := by
  intro n
  induction n with
  | zero => exact fun c m u v1 v3 R => rf_none
  | succ n ih => exact fun c m u v1 v3 R => yb_Cm_oneFunction_129 (N := N) ih R
theorem ym_Cm_oneFunction {N : Nat} {o : Option Nat} {c : Nat → Nat} {m : MS} {u : CS} (R : RP o c m u) {v1 : Int32} : RF 0 o VE c u (fm_Cm_oneFunction N u 35 v1) (hm_Cm_oneFunction N m v1) := yb_Cm_oneFunction_0 (N := N) (yg_Cm_oneFunction (N := N) N) R
theorem yb_Cm_compile_142 {N : Nat} {o : Option Nat} {c : Nat → Nat} {m : MS} {u : CS} {G : (CS → Nat → Int32 → Option (CS × Int32))} {G' : (MS → Int32 → Option (MS × Int32))} (hG : ∀ (c : Nat → Nat) (m : MS) (u : CS) (v1 : Int32), RP o c m u → RF 0 o VE c u (G u 35 v1) (G' m v1)) (R : RP o c m u) {t0 : Int32} : RF 0 o VE c u (fb_Cm_compile_142 N G u t0) (hb_Cm_compile_142 N G' m t0) := by
  unfold fb_Cm_compile_142 hb_Cm_compile_142
  exact rf_ret R rfl
theorem yb_Cm_compile_136 {N : Nat} {o : Option Nat} {c : Nat → Nat} {m : MS} {u : CS} {G : (CS → Nat → Int32 → Option (CS × Int32))} {G' : (MS → Int32 → Option (MS × Int32))} (hG : ∀ (c : Nat → Nat) (m : MS) (u : CS) (v1 : Int32), RP o c m u → RF 0 o VE c u (G u 35 v1) (G' m v1)) (R : RP o c m u) : RF 0 o VE c u (fb_Cm_compile_136 N G u) (hb_Cm_compile_136 N G' m) := by
  unfold fb_Cm_compile_136 hb_Cm_compile_136
  exact (yb_Cm_compile_142 hG R)
theorem yb_Cm_compile_124 {N : Nat} {o : Option Nat} {c : Nat → Nat} {m : MS} {u : CS} {G : (CS → Nat → Int32 → Option (CS × Int32))} {G' : (MS → Int32 → Option (MS × Int32))} (hG : ∀ (c : Nat → Nat) (m : MS) (u : CS) (v1 : Int32), RP o c m u → RF 0 o VE c u (G u 35 v1) (G' m v1)) (R : RP o c m u) {t0 : Int32} : RF 0 o VE c u (fb_Cm_compile_124 N G u 35 t0) (hb_Cm_compile_124 N G' m t0) := by
  unfold fb_Cm_compile_124 hb_Cm_compile_124
  refine rf_br ?_ ?_
  · refine rf_bo (gx_35_11 R) ?_
    refine rf_br ?_ ?_
    · exact (yb_Cm_compile_142 hG R)
    · exact (yb_Cm_compile_136 hG R)
  · exact (yb_Cm_compile_136 hG R)
theorem yb_Cm_compile_119 {N : Nat} {o : Option Nat} {c : Nat → Nat} {m : MS} {u : CS} {G : (CS → Nat → Int32 → Option (CS × Int32))} {G' : (MS → Int32 → Option (MS × Int32))} (hG : ∀ (c : Nat → Nat) (m : MS) (u : CS) (v1 : Int32), RP o c m u → RF 0 o VE c u (G u 35 v1) (G' m v1)) (R : RP o c m u) : RF 0 o VE c u (fb_Cm_compile_119 N G u 35) (hb_Cm_compile_119 N G' m) := by
  unfold fb_Cm_compile_119 hb_Cm_compile_119
  exact (yb_Cm_compile_124 hG R)
theorem yb_Cm_compile_23 {N : Nat} {o : Option Nat} {c : Nat → Nat} {m : MS} {u : CS} {G : (CS → Nat → Int32 → Option (CS × Int32))} {G' : (MS → Int32 → Option (MS × Int32))} (hG : ∀ (c : Nat → Nat) (m : MS) (u : CS) (v1 : Int32), RP o c m u → RF 0 o VE c u (G u 35 v1) (G' m v1)) (R : RP o c m u) {v1 : Int32} : RF 0 o VE c u (fb_Cm_compile_23 N G u 35 v1) (hb_Cm_compile_23 N G' m v1) := by
  unfold fb_Cm_compile_23 hb_Cm_compile_23
  refine rf_bo (rx_35_2 R) ?_
  refine rf_so ?_
  refine rf_bo (gx_22_2 R) ?_
  refine rf_br ?_ ?_
  · refine rf_bo (gx_35_14 R) ?_
    refine rf_br ?_ ?_
    · refine rf_bo (rx_35_2 R) ?_
      refine rf_so ?_
      refine rf_bo (gx_22_2 R) ?_
      refine rf_br ?_ ?_
      · exact (yb_Cm_compile_119 hG R)
      · refine rf_bo (rx_35_3 R) ?_
        refine rf_so ?_
        refine rf_bo (gx_1_2 R) ?_
        refine rf_br ?_ ?_
        · exact (yb_Cm_compile_119 hG R)
        · refine rf_bo (rx_35_0 R) ?_
          refine rf_so ?_
          refine rf_bo (gx_4_5 R) ?_
          refine rf_br ?_ ?_
          · exact (yb_Cm_compile_124 hG R)
          · exact (yb_Cm_compile_119 hG R)
    · refine rf_bo (gx_35_14 R) ?_
      refine rf_bo (rx_35_0 R) ?_
      refine rf_so ?_
      refine rf_bo (rx_4_4 R) ?_
      refine rf_bo (gx_35_14 R) ?_
      refine rf_so ?_
      refine rf_ai (ax_8 R) ?_
      exact rf_ret R rfl
  · refine rf_ck (ox_35 R) ?_
    refine rf_bx0 (ym_Cm_oneFunction R) (fun u22' u22 r22 R_u22 => ?_)
    exact (hG _ _ _ _ R_u22)
theorem yb_Cm_compile_0 {N : Nat} {o : Option Nat} {c : Nat → Nat} {m : MS} {u : CS} {G : (CS → Nat → Int32 → Option (CS × Int32))} {G' : (MS → Int32 → Option (MS × Int32))} (hG : ∀ (c : Nat → Nat) (m : MS) (u : CS) (v1 : Int32), RP o c m u → RF 0 o VE c u (G u 35 v1) (G' m v1)) (R : RP o c m u) : RF 0 o VE c u (fb_Cm_compile_0 N G u 35) (hb_Cm_compile_0 N G' m) := by
  unfold fb_Cm_compile_0 hb_Cm_compile_0
  refine rf_w (px_35_14 R) (fun w23' w23 R_w23 => ?_)
  refine rf_w (px_35_11 R_w23) (fun w24' w24 R_w24 => ?_)
  refine rf_w (px_35_12 R_w24) (fun w25' w25 R_w25 => ?_)
  refine rf_w (px_35_13 R_w25) (fun w26' w26 R_w26 => ?_)
  exact (hG _ _ _ _ R_w26)
theorem yg_Cm_compile {N : Nat} {o : Option Nat} : ∀ n, (∀ (c : Nat → Nat) (m : MS) (u : CS) (v1 : Int32), RP o c m u → RF 0 o VE c u ((gg_Cm_compile N n) u 35 v1) ((hg_Cm_compile N n) m v1)) := by
  intro n
  induction n with
  | zero => exact fun c m u v1 R => rf_none
  | succ n ih => exact fun c m u v1 R => yb_Cm_compile_23 (N := N) ih R
theorem ym_Cm_compile {N : Nat} {o : Option Nat} {c : Nat → Nat} {m : MS} {u : CS} (R : RP o c m u) : RF 0 o VE c u (fm_Cm_compile N u 35) (hm_Cm_compile N m) := yb_Cm_compile_0 (N := N) (yg_Cm_compile (N := N) N) R
theorem yb_H_read_45 {N : Nat} {c : Nat → Nat} {m : MS} {u : CS} (R : RP none c m u) {v1 : Int32} {t1 : Int32} : RF 0 none VE c u (fb_H_read_45 N () u 0 v1 0 t1) (hb_H_read_45 N () m v1 t1) := by
  unfold fb_H_read_45 hb_H_read_45
  refine rf_ckk ?_
  refine rf_w (px_0_10 R) (fun w1' w1 R_w1 => ?_)
  refine rf_bo (rx_0_6 R_w1) ?_
  refine rf_so ?_
  refine rf_ck (ox_47 R_w1) ?_
  refine rf_bx0 (ym_Wl_clearAll R_w1) (fun u3' u3 r3 R_u3 => ?_)
  exact rf_ret R_u3 rfl
theorem yb_H_read_27 {N : Nat} {c : Nat → Nat} {m : MS} {u : CS} (R : RP none c m u) {v1 : Int32} : RF 0 none VE c u (fb_H_read_27 N () u 0 v1) (hb_H_read_27 N () m v1) := by
  unfold fb_H_read_27 hb_H_read_27
  refine rf_bo (rx_0_1 R) ?_
  refine rf_so ?_
  refine rf_w (px_4_1 R) (fun w7' w7 R_w7 => ?_)
  refine rf_br ?_ ?_
  · exact (yb_H_read_45 R_w7)
  · exact (yb_H_read_45 R_w7)
theorem yb_H_read_0 {N : Nat} {c : Nat → Nat} {m : MS} {u : CS} (R : RP none c m u) : RF 0 none VE c u (fb_H_read_0 N () u 0) (hb_H_read_0 N () m) := by
  unfold fb_H_read_0 hb_H_read_0
  refine rf_bo (rx_0_1 R) ?_
  refine rf_so ?_
  refine rf_ck (ox_4 R) ?_
  refine rf_bx0 (ym_To_scanAll R) (fun u9' u9 r9 R_u9 => ?_)
  refine rf_bo (rx_0_3 R_u9) ?_
  refine rf_so ?_
  refine rf_ck (ox_33 R_u9) ?_
  refine rf_bx0 (ym_Pa_parse R_u9) (fun u12' u12 r12 R_u12 => ?_)
  refine rf_br ?_ ?_
  · refine rf_bo (rx_0_4 R_u12) ?_
    refine rf_so ?_
    refine rf_ck (ox_35 R_u12) ?_
    refine rf_bx0 (ym_Cm_compile R_u12) (fun u15' u15 r15 R_u15 => ?_)
    exact (yb_H_read_27 R_u15)
  · exact (yb_H_read_27 R_u12)
theorem ym_H_read {N : Nat} {c : Nat → Nat} {m : MS} {u : CS} (R : RP none c m u) : RF 0 none VE c u (fm_H_read N u 0) (hm_H_read N m) := yb_H_read_0 (N := N) R
theorem yb_Wl_born_43 {N : Nat} {o : Option Nat} {c : Nat → Nat} {m : MS} {u : CS} (R : RP o c m u) : RF 1 o PVo c u (fb_Wl_born_43 N () u 47) (hb_Wl_born_43 N () m) := by
  unfold fb_Wl_born_43 hb_Wl_born_43
  refine rf_bo (rx_47_1 R) ?_
  refine rf_bo (gx_47_2 R) ?_
  refine rf_so ?_
  refine rf_aP R (fun r4 h_r4 => ?_)
  refine rf_boQ h_r4 (fun j6 j6' e1_j6 e2_j6 h_j6 => ?_)
  subst e1_j6
  refine rf_so ?_
  refine rf_ck (io_P R h_j6) ?_
  refine rf_bx0 (rf_gz (ym_Pr_clear R h_j6) (by omega)) (fun u5' u5 r5 R_u5 => ?_)
  refine rf_gw ?_
  refine rf_bo (gx_47_2 R_u5) ?_
  refine rf_w (px_47_2 R_u5) (fun w8' w8 R_w8 => ?_)
  exact rf_ret R_w8 (PV_j h_j6)
theorem yb_Wl_born_0 {N : Nat} {o : Option Nat} {c : Nat → Nat} {m : MS} {u : CS} (R : RP o c m u) : RF 1 o PVo c u (fb_Wl_born_0 N () u 47) (hb_Wl_born_0 N () m) := by
  unfold fb_Wl_born_0 hb_Wl_born_0
  refine rf_bo (gx_47_2 R) ?_
  refine rf_br ?_ ?_
  · refine rf_bo (rx_47_1 R) ?_
    refine rf_bo (gx_47_2 R) ?_
    refine rf_so ?_
    refine rf_aPh R (fun r13 hb0 h_r13 => ?_)
    refine rf_br2h (PV_n h_r13) (fun hn0 => ?_) ?_
    · refine rf_bo (rx_47_1 R) ?_
      refine rf_bo (gx_47_2 R) ?_
      refine rf_ck (all2 (okR_s R (by decide)) (okR_s R (by decide))) ?_
      exact rf_new R rfl hb0 (of_decide_eq_true hn0) (by unfold zle; omega) (fun c_w20 w20' w20 R_w20 E_w20 => (by
        exact (yb_Wl_born_43 R_w20)))
    · exact (yb_Wl_born_43 R)
  · exact rf_ret R PV_0
theorem ym_Wl_born {N : Nat} {o : Option Nat} {c : Nat → Nat} {m : MS} {u : CS} (R : RP o c m u) : RF 1 o PVo c u (fm_Wl_born N u 47) (hm_Wl_born N m) := yb_Wl_born_0 (N := N) R
theorem yb_H_begin_102 {N : Nat} {c : Nat → Nat} {m : MS} {u : CS} (R : RP none c m u) : RF 1 none VE c u (fb_H_begin_102 N () u) (hb_H_begin_102 N () m) := by
  unfold fb_H_begin_102 hb_H_begin_102
  exact rf_ret R rfl
theorem yb_H_begin_0 {N : Nat} {c : Nat → Nat} {m : MS} {u : CS} (R : RP none c m u) {v1 : Int32} : RF 1 none VE c u (fb_H_begin_0 N () u 0 v1) (hb_H_begin_0 N () m v1) := by
  unfold fb_H_begin_0 hb_H_begin_0
  refine rf_bo (gx_0_10 R) ?_
  refine rf_br ?_ ?_
  · exact rf_ret R rfl
  · refine rf_ck (ox_0 R) ?_
    refine rf_bx0 (rf_gz (ym_H_isFunction R) (by omega)) (fun u2' u2 r2 R_u2 => ?_)
    refine rf_gw ?_
    refine rf_br ?_ ?_
    · exact rf_ret R_u2 rfl
    · refine rf_bo (rx_0_2 R_u2) ?_
      refine rf_so ?_
      refine rf_bo (rx_22_4 R_u2) ?_
      refine rf_so ?_
      refine rf_ai (ax_25 R_u2) ?_
      refine rf_br ?_ ?_
      · refine rf_bo (rx_0_6 R_u2) ?_
        refine rf_so ?_
        refine rf_ck (ox_47 R_u2) ?_
        refine rf_bx0 (rf_gz (ym_Wl_clearAll R_u2) (by omega)) (fun u9' u9 r9 R_u9 => ?_)
        refine rf_gw ?_
        refine rf_bo (rx_0_6 R_u9) ?_
        refine rf_so ?_
        refine rf_w (px_47_3 R_u9) (fun w13' w13 R_w13 => ?_)
        refine rf_bo (rx_0_6 R_w13) ?_
        refine rf_so ?_
        refine rf_ck (ox_47 R_w13) ?_
        refine rf_ck (all1 (okR_s R_w13 (by decide))) ?_
        refine rf_bx (rf_gw (ym_Wl_born R_w13)) (by unfold zle; omega) (fun c_u15 u15' u15 r15 r15' R_u15 E_u15 h_r15 => ?_)
        refine rf_gw ?_
        refine rf_br2 (PV_n h_r15) ?_ ?_
        · exact (yb_H_begin_102 R_u15)
        · refine rf_boQ h_r15 (fun j17 j17' e1_j17 e2_j17 h_j17 => ?_)
          subst e1_j17
          refine rf_so ?_
          refine rf_bo (gR_P1 R_u15 h_j17) ?_
          refine rf_bo (rx_0_2 R_u15) ?_
          refine rf_so ?_
          refine rf_bo (rx_22_8 R_u15) ?_
          refine rf_so ?_
          refine rf_ai (ax_29 R_u15) ?_
          refine rf_soF h_j17.1 (fun j25 h_j25 => ?_)
          refine rf_ck (io_F R_u15 h_j25) ?_
          refine rf_bx0 (rf_gz (ym_Fr_open R_u15 h_j25) (by omega)) (fun u24' u24 r24 R_u24 => ?_)
          refine rf_gw ?_
          exact (yb_H_begin_102 R_u24)
      · exact rf_ret R_u2 rfl
theorem ym_H_begin {N : Nat} {c : Nat → Nat} {m : MS} {u : CS} (R : RP none c m u) {v1 : Int32} : RF 1 none VE c u (fm_H_begin N u 0 v1) (hm_H_begin N m v1) := yb_H_begin_0 (N := N) R
theorem yb_Wl_find_22 {N : Nat} {o : Option Nat} {c : Nat → Nat} {m : MS} {u : CS} (R : RP o c m u) {t0 : Option Nat} {t0' : Option Nat} (h_t0 : PVo c t0 t0') : RF 0 o PVo c u (fb_Wl_find_22 N () u t0) (hb_Wl_find_22 N () m t0') := by
  unfold fb_Wl_find_22 hb_Wl_find_22
  exact rf_ret R h_t0
theorem yb_Wl_find_12 {N : Nat} {o : Option Nat} {c : Nat → Nat} {m : MS} {u : CS} (R : RP o c m u) : RF 0 o PVo c u (fb_Wl_find_12 N () u) (hb_Wl_find_12 N () m) := by
  unfold fb_Wl_find_12 hb_Wl_find_12
  exact (yb_Wl_find_22 R PV_0)
theorem yb_Wl_find_0 {N : Nat} {o : Option Nat} {c : Nat → Nat} {m : MS} {u : CS} (R : RP o c m u) {v1 : Int32} : RF 0 o PVo c u (fb_Wl_find_0 N () u 47 v1) (hb_Wl_find_0 N () m v1) := by
  unfold fb_Wl_find_0 hb_Wl_find_0
  refine rf_br ?_ ?_
  · exact (yb_Wl_find_12 R)
  · refine rf_bo (gx_47_2 R) ?_
    refine rf_br ?_ ?_
    · refine rf_bo (rx_47_1 R) ?_
      refine rf_so ?_
      refine rf_aP R (fun r4 h_r4 => ?_)
      exact (yb_Wl_find_22 R h_r4)
    · exact (yb_Wl_find_12 R)
theorem ym_Wl_find {N : Nat} {o : Option Nat} {c : Nat → Nat} {m : MS} {u : CS} (R : RP o c m u) {v1 : Int32} : RF 0 o PVo c u (fm_Wl_find N u 47 v1) (hm_Wl_find N m v1) := yb_Wl_find_0 (N := N) R
theorem yb_Pr_clearHeap_250 {N : Nat} {o : Option Nat} {c : Nat → Nat} {m : MS} {u : CS} {G : (CS → Nat → Int32 → Int32 → Option (CS × Unit)) × (CS → Nat → Int32 → Int32 → Option Nat → Int32 → Int32 → Option (CS × Unit))} {G' : (MS → Nat → Int32 → Int32 → Option (MS × Unit)) × (MS → Nat → Int32 → Int32 → Nat → Int32 → Int32 → Option (MS × Unit))} (hG1 : ∀ (c : Nat → Nat) (m : MS) (u : CS) (v0 : Nat) (v0' : Nat) (v1 : Int32) (v2 : Int32), RP o c m u → PVn c v0 v0' → RF 3 o VE c u (G.1 u v0 v1 v2) (G'.1 m v0' v1 v2)) (hG2 : ∀ (c : Nat → Nat) (m : MS) (u : CS) (v0 : Nat) (v0' : Nat) (v1 : Int32) (v2 : Int32) (v3 : Nat) (v3' : Nat) (v4 : Int32) (v5 : Int32), RP o c m u → PVn c v0 v0' → XVn c v0' v3 v3' → RF 3 o VE c u (G.2 u v0 v1 v2 (some v3) v4 v5) (G'.2 m v0' v1 v2 v3' v4 v5)) (R : RP o c m u) {v0 : Nat} {v0' : Nat} {v1 : Int32} {v2 : Int32} {v3 : Nat} {v3' : Nat} {v4 : Int32} {v5 : Int32} (h_v0 : PVn c v0 v0') (h_v3 : XVn c v0' v3 v3') : RF 3 o VE c u (fb_Pr_clearHeap_250 N G u v0 v1 v2 (some v3) v4 v5) (hb_Pr_clearHeap_250 N G' m v0' v1 v2 v3' v4 v5) := by
  unfold fb_Pr_clearHeap_250 hb_Pr_clearHeap_250
  exact (hG2 _ _ _ _ _ _ _ _ _ _ _ R h_v0 h_v3)
theorem yb_Pr_clearHeap_230 {N : Nat} {o : Option Nat} {c : Nat → Nat} {m : MS} {u : CS} {G : (CS → Nat → Int32 → Int32 → Option (CS × Unit)) × (CS → Nat → Int32 → Int32 → Option Nat → Int32 → Int32 → Option (CS × Unit))} {G' : (MS → Nat → Int32 → Int32 → Option (MS × Unit)) × (MS → Nat → Int32 → Int32 → Nat → Int32 → Int32 → Option (MS × Unit))} (hG1 : ∀ (c : Nat → Nat) (m : MS) (u : CS) (v0 : Nat) (v0' : Nat) (v1 : Int32) (v2 : Int32), RP o c m u → PVn c v0 v0' → RF 3 o VE c u (G.1 u v0 v1 v2) (G'.1 m v0' v1 v2)) (hG2 : ∀ (c : Nat → Nat) (m : MS) (u : CS) (v0 : Nat) (v0' : Nat) (v1 : Int32) (v2 : Int32) (v3 : Nat) (v3' : Nat) (v4 : Int32) (v5 : Int32), RP o c m u → PVn c v0 v0' → XVn c v0' v3 v3' → RF 3 o VE c u (G.2 u v0 v1 v2 (some v3) v4 v5) (G'.2 m v0' v1 v2 v3' v4 v5)) (R : RP o c m u) {v0 : Nat} {v0' : Nat} {v1 : Int32} {v2 : Int32} {v3 : Nat} {v3' : Nat} {v4 : Int32} {v5 : Int32} {v6 : Int32} {v7 : Int32} (h_v0 : PVn c v0 v0') (h_v3 : XVn c v0' v3 v3') : RF 3 o VE c u (fb_Pr_clearHeap_230 N G u v0 v1 v2 (some v3) v4 v5 v6 v7) (hb_Pr_clearHeap_230 N G' m v0' v1 v2 v3' v4 v5 v6 v7) := by
  unfold fb_Pr_clearHeap_230 hb_Pr_clearHeap_230
  refine rf_bo (gR_P2 R h_v0) ?_
  refine rf_so ?_
  refine rf_ai (aq_2 R h_v0.1) ?_
  refine rf_so ?_
  refine rf_wk (sq_X R h_v3) (fun w5' w5 R_w5 => ?_)
  exact (yb_Pr_clearHeap_250 hG1 hG2 R_w5 h_v0 h_v3)
theorem yb_Pr_clearHeap_160 {N : Nat} {o : Option Nat} {c : Nat → Nat} {m : MS} {u : CS} {G : (CS → Nat → Int32 → Int32 → Option (CS × Unit)) × (CS → Nat → Int32 → Int32 → Option Nat → Int32 → Int32 → Option (CS × Unit))} {G' : (MS → Nat → Int32 → Int32 → Option (MS × Unit)) × (MS → Nat → Int32 → Int32 → Nat → Int32 → Int32 → Option (MS × Unit))} (hG1 : ∀ (c : Nat → Nat) (m : MS) (u : CS) (v0 : Nat) (v0' : Nat) (v1 : Int32) (v2 : Int32), RP o c m u → PVn c v0 v0' → RF 3 o VE c u (G.1 u v0 v1 v2) (G'.1 m v0' v1 v2)) (hG2 : ∀ (c : Nat → Nat) (m : MS) (u : CS) (v0 : Nat) (v0' : Nat) (v1 : Int32) (v2 : Int32) (v3 : Nat) (v3' : Nat) (v4 : Int32) (v5 : Int32), RP o c m u → PVn c v0 v0' → XVn c v0' v3 v3' → RF 3 o VE c u (G.2 u v0 v1 v2 (some v3) v4 v5) (G'.2 m v0' v1 v2 v3' v4 v5)) (R : RP o c m u) {v0 : Nat} {v0' : Nat} {v1 : Int32} {v2 : Int32} {v3 : Nat} {v3' : Nat} {v4 : Int32} {v5 : Int32} {v6 : Int32} (h_v0 : PVn c v0 v0') (h_v3 : XVn c v0' v3 v3') : RF 3 o VE c u (fb_Pr_clearHeap_160 N G u v0 v1 v2 (some v3) v4 v5 v6) (hb_Pr_clearHeap_160 N G' m v0' v1 v2 v3' v4 v5 v6) := by
  unfold fb_Pr_clearHeap_160 hb_Pr_clearHeap_160
  refine rf_so ?_
  refine rf_ai (aq_X R h_v3) ?_
  refine rf_bo (gR_P2 R h_v0) ?_
  refine rf_so ?_
  refine rf_ai (aq_2 R h_v0.1) ?_
  refine rf_br ?_ ?_
  · exact (yb_Pr_clearHeap_230 hG1 hG2 R h_v0 h_v3)
  · refine rf_bo (gR_P2 R h_v0) ?_
    refine rf_so ?_
    refine rf_ai (aq_X R h_v3) ?_
    refine rf_bx0 (ym_Te_cellsAt R ⟨_, h_v0.1, rfl, rfl⟩) (fun u14' u14 r14 R_u14 => ?_)
    refine rf_bo (gR_P2 R_u14 h_v0) ?_
    refine rf_bo (gR_P3 R_u14 h_v0) ?_
    refine rf_so ?_
    refine rf_so ?_
    refine rf_wk (cq_23 R_u14 h_v0.1) (fun w19' w19 R_w19 => ?_)
    refine rf_bo (gR_P2 R_w19 h_v0) ?_
    refine rf_so ?_
    refine rf_wk (sq_2 R_w19 h_v0.1) (fun w22' w22 R_w22 => ?_)
    exact (yb_Pr_clearHeap_230 hG1 hG2 R_w22 h_v0 h_v3)
theorem yb_Pr_clearHeap_125 {N : Nat} {o : Option Nat} {c : Nat → Nat} {m : MS} {u : CS} {G : (CS → Nat → Int32 → Int32 → Option (CS × Unit)) × (CS → Nat → Int32 → Int32 → Option Nat → Int32 → Int32 → Option (CS × Unit))} {G' : (MS → Nat → Int32 → Int32 → Option (MS × Unit)) × (MS → Nat → Int32 → Int32 → Nat → Int32 → Int32 → Option (MS × Unit))} (hG1 : ∀ (c : Nat → Nat) (m : MS) (u : CS) (v0 : Nat) (v0' : Nat) (v1 : Int32) (v2 : Int32), RP o c m u → PVn c v0 v0' → RF 3 o VE c u (G.1 u v0 v1 v2) (G'.1 m v0' v1 v2)) (hG2 : ∀ (c : Nat → Nat) (m : MS) (u : CS) (v0 : Nat) (v0' : Nat) (v1 : Int32) (v2 : Int32) (v3 : Nat) (v3' : Nat) (v4 : Int32) (v5 : Int32), RP o c m u → PVn c v0 v0' → XVn c v0' v3 v3' → RF 3 o VE c u (G.2 u v0 v1 v2 (some v3) v4 v5) (G'.2 m v0' v1 v2 v3' v4 v5)) (R : RP o c m u) {v0 : Nat} {v0' : Nat} {v1 : Int32} {v2 : Int32} {v3 : Nat} {v3' : Nat} {v4 : Int32} {v5 : Int32} {t0 : Int32} {t1 : Int32} (h_v0 : PVn c v0 v0') (h_v3 : XVn c v0' v3 v3') : RF 3 o VE c u (fb_Pr_clearHeap_125 N G u v0 v1 v2 (some v3) v4 v5 t0 t1) (hb_Pr_clearHeap_125 N G' m v0' v1 v2 v3' v4 v5 t0 t1) := by
  unfold fb_Pr_clearHeap_125 hb_Pr_clearHeap_125
  refine rf_br ?_ ?_
  · exact (hG1 _ _ _ _ _ _ _ R h_v0)
  · refine rf_so ?_
    refine rf_ai (aq_X R h_v3) ?_
    refine rf_lt ?_
    refine rf_br ?_ ?_
    · exact (yb_Pr_clearHeap_160 hG1 hG2 R h_v0 h_v3)
    · refine rf_br ?_ ?_
      · exact (yb_Pr_clearHeap_160 hG1 hG2 R h_v0 h_v3)
      · refine rf_br ?_ ?_
        · exact (yb_Pr_clearHeap_160 hG1 hG2 R h_v0 h_v3)
        · exact (yb_Pr_clearHeap_250 hG1 hG2 R h_v0 h_v3)
theorem yb_Pr_clearHeap_112 {N : Nat} {o : Option Nat} {c : Nat → Nat} {m : MS} {u : CS} {G : (CS → Nat → Int32 → Int32 → Option (CS × Unit)) × (CS → Nat → Int32 → Int32 → Option Nat → Int32 → Int32 → Option (CS × Unit))} {G' : (MS → Nat → Int32 → Int32 → Option (MS × Unit)) × (MS → Nat → Int32 → Int32 → Nat → Int32 → Int32 → Option (MS × Unit))} (hG1 : ∀ (c : Nat → Nat) (m : MS) (u : CS) (v0 : Nat) (v0' : Nat) (v1 : Int32) (v2 : Int32), RP o c m u → PVn c v0 v0' → RF 3 o VE c u (G.1 u v0 v1 v2) (G'.1 m v0' v1 v2)) (hG2 : ∀ (c : Nat → Nat) (m : MS) (u : CS) (v0 : Nat) (v0' : Nat) (v1 : Int32) (v2 : Int32) (v3 : Nat) (v3' : Nat) (v4 : Int32) (v5 : Int32), RP o c m u → PVn c v0 v0' → XVn c v0' v3 v3' → RF 3 o VE c u (G.2 u v0 v1 v2 (some v3) v4 v5) (G'.2 m v0' v1 v2 v3' v4 v5)) (R : RP o c m u) {v0 : Nat} {v0' : Nat} {v1 : Int32} {v2 : Int32} {v3 : Nat} {v3' : Nat} {v4 : Int32} {v5 : Int32} (h_v0 : PVn c v0 v0') (h_v3 : XVn c v0' v3 v3') : RF 3 o VE c u (fb_Pr_clearHeap_112 N G u v0 v1 v2 (some v3) v4 v5) (hb_Pr_clearHeap_112 N G' m v0' v1 v2 v3' v4 v5) := by
  unfold fb_Pr_clearHeap_112 hb_Pr_clearHeap_112
  refine rf_br ?_ ?_
  · exact (yb_Pr_clearHeap_125 hG1 hG2 R h_v0 h_v3)
  · exact (yb_Pr_clearHeap_125 hG1 hG2 R h_v0 h_v3)
theorem yb_Pr_clearHeap_107 {N : Nat} {o : Option Nat} {c : Nat → Nat} {m : MS} {u : CS} {G : (CS → Nat → Int32 → Int32 → Option (CS × Unit)) × (CS → Nat → Int32 → Int32 → Option Nat → Int32 → Int32 → Option (CS × Unit))} {G' : (MS → Nat → Int32 → Int32 → Option (MS × Unit)) × (MS → Nat → Int32 → Int32 → Nat → Int32 → Int32 → Option (MS × Unit))} (hG1 : ∀ (c : Nat → Nat) (m : MS) (u : CS) (v0 : Nat) (v0' : Nat) (v1 : Int32) (v2 : Int32), RP o c m u → PVn c v0 v0' → RF 3 o VE c u (G.1 u v0 v1 v2) (G'.1 m v0' v1 v2)) (hG2 : ∀ (c : Nat → Nat) (m : MS) (u : CS) (v0 : Nat) (v0' : Nat) (v1 : Int32) (v2 : Int32) (v3 : Nat) (v3' : Nat) (v4 : Int32) (v5 : Int32), RP o c m u → PVn c v0 v0' → XVn c v0' v3 v3' → RF 3 o VE c u (G.2 u v0 v1 v2 (some v3) v4 v5) (G'.2 m v0' v1 v2 v3' v4 v5)) (R : RP o c m u) {v0 : Nat} {v0' : Nat} {v1 : Int32} {v2 : Int32} {v3 : Nat} {v3' : Nat} {t0 : Int32} (h_v0 : PVn c v0 v0') (h_v3 : XVn c v0' v3 v3') : RF 3 o VE c u (fb_Pr_clearHeap_107 N G u v0 v1 v2 (some v3) t0) (hb_Pr_clearHeap_107 N G' m v0' v1 v2 v3' t0) := by
  unfold fb_Pr_clearHeap_107 hb_Pr_clearHeap_107
  exact (hG2 _ _ _ _ _ _ _ _ _ _ _ R h_v0 h_v3)
theorem yb_Pr_clearHeap_64 {N : Nat} {o : Option Nat} {c : Nat → Nat} {m : MS} {u : CS} {G : (CS → Nat → Int32 → Int32 → Option (CS × Unit)) × (CS → Nat → Int32 → Int32 → Option Nat → Int32 → Int32 → Option (CS × Unit))} {G' : (MS → Nat → Int32 → Int32 → Option (MS × Unit)) × (MS → Nat → Int32 → Int32 → Nat → Int32 → Int32 → Option (MS × Unit))} (hG1 : ∀ (c : Nat → Nat) (m : MS) (u : CS) (v0 : Nat) (v0' : Nat) (v1 : Int32) (v2 : Int32), RP o c m u → PVn c v0 v0' → RF 3 o VE c u (G.1 u v0 v1 v2) (G'.1 m v0' v1 v2)) (hG2 : ∀ (c : Nat → Nat) (m : MS) (u : CS) (v0 : Nat) (v0' : Nat) (v1 : Int32) (v2 : Int32) (v3 : Nat) (v3' : Nat) (v4 : Int32) (v5 : Int32), RP o c m u → PVn c v0 v0' → XVn c v0' v3 v3' → RF 3 o VE c u (G.2 u v0 v1 v2 (some v3) v4 v5) (G'.2 m v0' v1 v2 v3' v4 v5)) (R : RP o c m u) {v0 : Nat} {v0' : Nat} {v1 : Int32} {v2 : Int32} {t0 : Nat} {t0' : Nat} (h_v0 : PVn c v0 v0') (h_t0 : XVn c v0' t0 t0') : RF 3 o VE c u (fb_Pr_clearHeap_64 N G u v0 v1 v2 (some t0)) (hb_Pr_clearHeap_64 N G' m v0' v1 v2 t0') := by
  unfold fb_Pr_clearHeap_64 hb_Pr_clearHeap_64
  refine rf_br ?_ ?_
  · refine rf_bo (gR_P1 R h_v0) ?_
    refine rf_soF h_v0.1 (fun j31 h_j31 => ?_)
    refine rf_bo (gf_4 R h_j31) ?_
    exact (yb_Pr_clearHeap_107 hG1 hG2 R h_v0 h_t0)
  · refine rf_br ?_ ?_
    · refine rf_bo (gR_P1 R h_v0) ?_
      refine rf_soF h_v0.1 (fun j28 h_j28 => ?_)
      refine rf_bo (gf_6 R h_j28) ?_
      exact (yb_Pr_clearHeap_107 hG1 hG2 R h_v0 h_t0)
    · refine rf_br ?_ ?_
      · refine rf_bo (gq_7 R h_v0) ?_
        exact (yb_Pr_clearHeap_107 hG1 hG2 R h_v0 h_t0)
      · exact (yb_Pr_clearHeap_107 hG1 hG2 R h_v0 h_t0)
theorem yb_Pr_clearHeap_14 {N : Nat} {o : Option Nat} {c : Nat → Nat} {m : MS} {u : CS} {G : (CS → Nat → Int32 → Int32 → Option (CS × Unit)) × (CS → Nat → Int32 → Int32 → Option Nat → Int32 → Int32 → Option (CS × Unit))} {G' : (MS → Nat → Int32 → Int32 → Option (MS × Unit)) × (MS → Nat → Int32 → Int32 → Nat → Int32 → Int32 → Option (MS × Unit))} (hG1 : ∀ (c : Nat → Nat) (m : MS) (u : CS) (v0 : Nat) (v0' : Nat) (v1 : Int32) (v2 : Int32), RP o c m u → PVn c v0 v0' → RF 3 o VE c u (G.1 u v0 v1 v2) (G'.1 m v0' v1 v2)) (hG2 : ∀ (c : Nat → Nat) (m : MS) (u : CS) (v0 : Nat) (v0' : Nat) (v1 : Int32) (v2 : Int32) (v3 : Nat) (v3' : Nat) (v4 : Int32) (v5 : Int32), RP o c m u → PVn c v0 v0' → XVn c v0' v3 v3' → RF 3 o VE c u (G.2 u v0 v1 v2 (some v3) v4 v5) (G'.2 m v0' v1 v2 v3' v4 v5)) (R : RP o c m u) {v0 : Nat} {v0' : Nat} {v1 : Int32} {v2 : Int32} (h_v0 : PVn c v0 v0') : RF 3 o VE c u (fb_Pr_clearHeap_14 N G u v0 v1 v2) (hb_Pr_clearHeap_14 N G' m v0' v1 v2) := by
  unfold fb_Pr_clearHeap_14 hb_Pr_clearHeap_14
  refine rf_br ?_ ?_
  · refine rf_bo (gR_P2 R h_v0) ?_
    refine rf_bo (gR_P3 R h_v0) ?_
    refine rf_swap R h_v0 (by unfold zle; omega) (fun c_w36 w36' w36 R_w36 E_w36 => ?_)
    replace h_v0 := E_w36.P h_v0
    refine rf_w (wq_4 R_w36 h_v0) (fun w37' w37 R_w37 => ?_)
    exact rf_ret R_w37 rfl
  · refine rf_br ?_ ?_
    · refine rf_bo (gR_P1 R h_v0) ?_
      refine rf_soF h_v0.1 (fun j44 h_j44 => ?_)
      refine rf_bo (gR_F3 R h_j44) ?_
      exact (yb_Pr_clearHeap_64 hG1 hG2 R h_v0 ⟨h_j44.1, 33, by omega, rfl, rfl⟩)
    · refine rf_br ?_ ?_
      · refine rf_bo (gR_P1 R h_v0) ?_
        refine rf_soF h_v0.1 (fun j41 h_j41 => ?_)
        refine rf_bo (gR_F5 R h_j41) ?_
        exact (yb_Pr_clearHeap_64 hG1 hG2 R h_v0 ⟨h_j41.1, 35, by omega, rfl, rfl⟩)
      · refine rf_br ?_ ?_
        · refine rf_bo (gR_P6 R h_v0) ?_
          exact (yb_Pr_clearHeap_64 hG1 hG2 R h_v0 ⟨h_v0.1, 6, by omega, rfl, rfl⟩)
        · refine rf_bo (gR_P3 R h_v0) ?_
          exact (yb_Pr_clearHeap_64 hG1 hG2 R h_v0 ⟨h_v0.1, 3, by omega, rfl, rfl⟩)
theorem yb_Pr_clearHeap_0 {N : Nat} {o : Option Nat} {c : Nat → Nat} {m : MS} {u : CS} {G : (CS → Nat → Int32 → Int32 → Option (CS × Unit)) × (CS → Nat → Int32 → Int32 → Option Nat → Int32 → Int32 → Option (CS × Unit))} {G' : (MS → Nat → Int32 → Int32 → Option (MS × Unit)) × (MS → Nat → Int32 → Int32 → Nat → Int32 → Int32 → Option (MS × Unit))} (hG1 : ∀ (c : Nat → Nat) (m : MS) (u : CS) (v0 : Nat) (v0' : Nat) (v1 : Int32) (v2 : Int32), RP o c m u → PVn c v0 v0' → RF 3 o VE c u (G.1 u v0 v1 v2) (G'.1 m v0' v1 v2)) (hG2 : ∀ (c : Nat → Nat) (m : MS) (u : CS) (v0 : Nat) (v0' : Nat) (v1 : Int32) (v2 : Int32) (v3 : Nat) (v3' : Nat) (v4 : Int32) (v5 : Int32), RP o c m u → PVn c v0 v0' → XVn c v0' v3 v3' → RF 3 o VE c u (G.2 u v0 v1 v2 (some v3) v4 v5) (G'.2 m v0' v1 v2 v3' v4 v5)) (R : RP o c m u) {v0 : Nat} {v0' : Nat} (h_v0 : PVn c v0 v0') : RF 3 o VE c u (fb_Pr_clearHeap_0 N G u v0) (hb_Pr_clearHeap_0 N G' m v0') := by
  unfold fb_Pr_clearHeap_0 hb_Pr_clearHeap_0
  refine rf_bo (gq_5 R h_v0) ?_
  refine rf_w (wq_5 R h_v0) (fun w47' w47 R_w47 => ?_)
  exact (hG1 _ _ _ _ _ _ _ R_w47 h_v0)
theorem yg_Pr_clearHeap {N : Nat} {o : Option Nat} : ∀ n, (∀ (c : Nat → Nat) (m : MS) (u : CS) (v0 : Nat) (v0' : Nat) (v1 : Int32) (v2 : Int32), RP o c m u → PVn c v0 v0' → RF 3 o VE c u ((gg_Pr_clearHeap N n).1 u v0 v1 v2) ((hg_Pr_clearHeap N n).1 m v0' v1 v2)) ∧ (∀ (c : Nat → Nat) (m : MS) (u : CS) (v0 : Nat) (v0' : Nat) (v1 : Int32) (v2 : Int32) (v3 : Nat) (v3' : Nat) (v4 : Int32) (v5 : Int32), RP o c m u → PVn c v0 v0' → XVn c v0' v3 v3' → RF 3 o VE c u ((gg_Pr_clearHeap N n).2 u v0 v1 v2 (some v3) v4 v5) ((hg_Pr_clearHeap N n).2 m v0' v1 v2 v3' v4 v5)) := by
  intro n
  induction n with
  | zero => exact ⟨fun c m u v0 v0' v1 v2 R h_v0 => rf_none, fun c m u v0 v0' v1 v2 v3 v3' v4 v5 R h_v0 h_v3 => rf_none⟩
  | succ n ih => exact ⟨fun c m u v0 v0' v1 v2 R h_v0 => yb_Pr_clearHeap_14 (N := N) ih.1 ih.2 R h_v0, fun c m u v0 v0' v1 v2 v3 v3' v4 v5 R h_v0 h_v3 => yb_Pr_clearHeap_112 (N := N) ih.1 ih.2 R h_v0 h_v3⟩
theorem ym_Pr_clearHeap {N : Nat} {o : Option Nat} {c : Nat → Nat} {m : MS} {u : CS} (R : RP o c m u) {v0 : Nat} {v0' : Nat} (h_v0 : PVn c v0 v0') : RF 3 o VE c u (fm_Pr_clearHeap N u v0) (hm_Pr_clearHeap N m v0') := yb_Pr_clearHeap_0 (N := N) (yg_Pr_clearHeap (N := N) N).1 (yg_Pr_clearHeap (N := N) N).2 R h_v0
theorem yb_Pr_want_33 {N : Nat} {o : Option Nat} {c : Nat → Nat} {m : MS} {u : CS} (R : RP o c m u) {t0 : Int32} : RF 3 o VE c u (fb_Pr_want_33 N () u t0) (hb_Pr_want_33 N () m t0) := by
  unfold fb_Pr_want_33 hb_Pr_want_33
  refine rf_ckk ?_
  exact rf_ret R rfl
theorem yb_Pr_want_16 {N : Nat} {o : Option Nat} {c : Nat → Nat} {m : MS} {u : CS} (R : RP o c m u) {v0 : Nat} {v0' : Nat} {v1 : Int32} (h_v0 : PVn c v0 v0') : RF 3 o VE c u (fb_Pr_want_16 N () u v0 v1) (hb_Pr_want_16 N () m v0' v1) := by
  unfold fb_Pr_want_16 hb_Pr_want_16
  refine rf_bo (gq_4 R h_v0) ?_
  refine rf_br ?_ ?_
  · exact (yb_Pr_want_33 R)
  · exact (yb_Pr_want_33 R)
theorem yb_Pr_want_0 {N : Nat} {o : Option Nat} {c : Nat → Nat} {m : MS} {u : CS} (R : RP o c m u) {v0 : Nat} {v0' : Nat} {v1 : Int32} (h_v0 : PVn c v0 v0') : RF 3 o VE c u (fb_Pr_want_0 N () u v0 v1) (hb_Pr_want_0 N () m v0' v1) := by
  unfold fb_Pr_want_0 hb_Pr_want_0
  refine rf_bo (gq_4 R h_v0) ?_
  refine rf_br ?_ ?_
  · exact (yb_Pr_want_16 R h_v0)
  · refine rf_ck (io_P R h_v0) ?_
    refine rf_bx (ym_Pr_clearHeap R h_v0) (by unfold zle; omega) (fun c_u3 u3' u3 r3 r3' R_u3 E_u3 v_u3 => ?_)
    cases v_u3
    replace h_v0 := E_u3.P h_v0
    exact (yb_Pr_want_16 R_u3 h_v0)
theorem ym_Pr_want {N : Nat} {o : Option Nat} {c : Nat → Nat} {m : MS} {u : CS} (R : RP o c m u) {v0 : Nat} {v0' : Nat} {v1 : Int32} (h_v0 : PVn c v0 v0') : RF 3 o VE c u (fm_Pr_want N u v0 v1) (hm_Pr_want N m v0' v1) := yb_Pr_want_0 (N := N) R h_v0
theorem yb_Pr_copyIn_140 {N : Nat} {o : Option Nat} {c : Nat → Nat} {m : MS} {u : CS} {G : (CS → Nat → Option Nat → Int64 → Int64 → Int32 → Int32 → Option (CS × Int64))} {G' : (MS → Nat → Nat → Int64 → Int64 → Int32 → Int32 → Option (MS × Int64))} (hG : ∀ (c : Nat → Nat) (m : MS) (u : CS) (v0 : Nat) (v0' : Nat) (v1 : Nat) (v1' : Nat) (v2 : Int64) (v4 : Int64) (v6 : Int32) (v7 : Int32), RP o c m u → PVn c v0 v0' → CVn c v1 v1' → RF 0 o VE c u (G u v0 (some v1) v2 v4 v6 v7) (G' m v0' v1' v2 v4 v6 v7)) (R : RP o c m u) {v0 : Nat} {v0' : Nat} {v1 : Nat} {v1' : Nat} {v2 : Int64} {v4 : Int64} {v6 : Int32} {v7 : Int32} (h_v0 : PVn c v0 v0') (h_v1 : CVn c v1 v1') : RF 0 o VE c u (fb_Pr_copyIn_140 N G u v0 (some v1) v2 v4 v6 v7) (hb_Pr_copyIn_140 N G' m v0' v1' v2 v4 v6 v7) := by
  unfold fb_Pr_copyIn_140 hb_Pr_copyIn_140
  exact (hG _ _ _ _ _ _ _ _ _ _ _ R h_v0 h_v1)
theorem yb_Pr_copyIn_42 {N : Nat} {o : Option Nat} {c : Nat → Nat} {m : MS} {u : CS} {G : (CS → Nat → Option Nat → Int64 → Int64 → Int32 → Int32 → Option (CS × Int64))} {G' : (MS → Nat → Nat → Int64 → Int64 → Int32 → Int32 → Option (MS × Int64))} (hG : ∀ (c : Nat → Nat) (m : MS) (u : CS) (v0 : Nat) (v0' : Nat) (v1 : Nat) (v1' : Nat) (v2 : Int64) (v4 : Int64) (v6 : Int32) (v7 : Int32), RP o c m u → PVn c v0 v0' → CVn c v1 v1' → RF 0 o VE c u (G u v0 (some v1) v2 v4 v6 v7) (G' m v0' v1' v2 v4 v6 v7)) (R : RP o c m u) {v0 : Nat} {v0' : Nat} {v1 : Nat} {v1' : Nat} {v2 : Int64} {v4 : Int64} {v6 : Int32} {v7 : Int32} {t0 : Int64} (h_v0 : PVn c v0 v0') (h_v1 : CVn c v1 v1') : RF 0 o VE c u (fb_Pr_copyIn_42 N G u v0 (some v1) v2 v4 v6 v7 t0) (hb_Pr_copyIn_42 N G' m v0' v1' v2 v4 v6 v7 t0) := by
  unfold fb_Pr_copyIn_42 hb_Pr_copyIn_42
  refine rf_bx0 (ym_Te_cellsAt R h_v1) (fun u1' u1 r1 R_u1 => ?_)
  refine rf_br ?_ ?_
  · exact (yb_Pr_copyIn_140 hG R_u1 h_v0 h_v1)
  · refine rf_bo (gq_4 R_u1 h_v0) ?_
    refine rf_br ?_ ?_
    · refine rf_bo (gq_4 R_u1 h_v0) ?_
      refine rf_lt ?_
      refine rf_bo (gR_P2 R_u1 h_v0) ?_
      refine rf_bo (gq_4 R_u1 h_v0) ?_
      refine rf_so ?_
      refine rf_so ?_
      refine rf_wk (cq_C R_u1 h_v1 h_v0.1) (fun w9' w9 R_w9 => ?_)
      refine rf_bo (gq_4 R_w9 h_v0) ?_
      refine rf_w (wq_4 R_w9 h_v0) (fun w11' w11 R_w11 => ?_)
      refine rf_br ?_ ?_
      · refine rf_bo (gR_P2 R_w11 h_v0) ?_
        refine rf_so ?_
        refine rf_wk (sq_2 R_w11 h_v0.1) (fun w14' w14 R_w14 => ?_)
        exact (yb_Pr_copyIn_140 hG R_w14 h_v0 h_v1)
      · exact (yb_Pr_copyIn_140 hG R_w11 h_v0 h_v1)
    · exact (yb_Pr_copyIn_140 hG R_u1 h_v0 h_v1)
theorem yb_Pr_copyIn_15 {N : Nat} {o : Option Nat} {c : Nat → Nat} {m : MS} {u : CS} {G : (CS → Nat → Option Nat → Int64 → Int64 → Int32 → Int32 → Option (CS × Int64))} {G' : (MS → Nat → Nat → Int64 → Int64 → Int32 → Int32 → Option (MS × Int64))} (hG : ∀ (c : Nat → Nat) (m : MS) (u : CS) (v0 : Nat) (v0' : Nat) (v1 : Nat) (v1' : Nat) (v2 : Int64) (v4 : Int64) (v6 : Int32) (v7 : Int32), RP o c m u → PVn c v0 v0' → CVn c v1 v1' → RF 0 o VE c u (G u v0 (some v1) v2 v4 v6 v7) (G' m v0' v1' v2 v4 v6 v7)) (R : RP o c m u) {v0 : Nat} {v0' : Nat} {v1 : Nat} {v1' : Nat} {v2 : Int64} {v4 : Int64} {v6 : Int32} {v7 : Int32} (h_v0 : PVn c v0 v0') (h_v1 : CVn c v1 v1') : RF 0 o VE c u (fb_Pr_copyIn_15 N G u v0 (some v1) v2 v4 v6 v7) (hb_Pr_copyIn_15 N G' m v0' v1' v2 v4 v6 v7) := by
  unfold fb_Pr_copyIn_15 hb_Pr_copyIn_15
  refine rf_bo (gq_4 R h_v0) ?_
  refine rf_br ?_ ?_
  · exact rf_ret R rfl
  · refine rf_br ?_ ?_
    · refine rf_bo (gR_P2 R h_v0) ?_
      refine rf_so ?_
      refine rf_ai (aq_2 R h_v0.1) ?_
      exact (yb_Pr_copyIn_42 hG R h_v0 h_v1)
    · exact (yb_Pr_copyIn_42 hG R h_v0 h_v1)
theorem yb_Pr_copyIn_0 {N : Nat} {o : Option Nat} {c : Nat → Nat} {m : MS} {u : CS} {G : (CS → Nat → Option Nat → Int64 → Int64 → Int32 → Int32 → Option (CS × Int64))} {G' : (MS → Nat → Nat → Int64 → Int64 → Int32 → Int32 → Option (MS × Int64))} (hG : ∀ (c : Nat → Nat) (m : MS) (u : CS) (v0 : Nat) (v0' : Nat) (v1 : Nat) (v1' : Nat) (v2 : Int64) (v4 : Int64) (v6 : Int32) (v7 : Int32), RP o c m u → PVn c v0 v0' → CVn c v1 v1' → RF 0 o VE c u (G u v0 (some v1) v2 v4 v6 v7) (G' m v0' v1' v2 v4 v6 v7)) (R : RP o c m u) {v0 : Nat} {v0' : Nat} {v1 : Nat} {v1' : Nat} {v2 : Int64} (h_v0 : PVn c v0 v0') (h_v1 : CVn c v1 v1') : RF 0 o VE c u (fb_Pr_copyIn_0 N G u v0 (some v1) v2) (hb_Pr_copyIn_0 N G' m v0' v1' v2) := by
  unfold fb_Pr_copyIn_0 hb_Pr_copyIn_0
  refine rf_bo (gq_4 R h_v0) ?_
  exact (hG _ _ _ _ _ _ _ _ _ _ _ R h_v0 h_v1)
theorem yg_Pr_copyIn {N : Nat} {o : Option Nat} : ∀ n, (∀ (c : Nat → Nat) (m : MS) (u : CS) (v0 : Nat) (v0' : Nat) (v1 : Nat) (v1' : Nat) (v2 : Int64) (v4 : Int64) (v6 : Int32) (v7 : Int32), RP o c m u → PVn c v0 v0' → CVn c v1 v1' → RF 0 o VE c u ((gg_Pr_copyIn N n) u v0 (some v1) v2 v4 v6 v7) ((hg_Pr_copyIn N n) m v0' v1' v2 v4 v6 v7)) := by
  intro n
  induction n with
  | zero => exact fun c m u v0 v0' v1 v1' v2 v4 v6 v7 R h_v0 h_v1 => rf_none
  | succ n ih => exact fun c m u v0 v0' v1 v1' v2 v4 v6 v7 R h_v0 h_v1 => yb_Pr_copyIn_15 (N := N) ih R h_v0 h_v1
theorem ym_Pr_copyIn {N : Nat} {o : Option Nat} {c : Nat → Nat} {m : MS} {u : CS} (R : RP o c m u) {v0 : Nat} {v0' : Nat} {v1 : Nat} {v1' : Nat} {v2 : Int64} (h_v0 : PVn c v0 v0') (h_v1 : CVn c v1 v1') : RF 0 o VE c u (fm_Pr_copyIn N u v0 (some v1) v2) (hm_Pr_copyIn N m v0' v1' v2) := yb_Pr_copyIn_0 (N := N) (yg_Pr_copyIn (N := N) N) R h_v0 h_v1
theorem yb_Fr_bind_48 {N : Nat} {o : Option Nat} {c : Nat → Nat} {m : MS} {u : CS} (R : RP o c m u) {v0 : Nat} {v0' : Nat} {v1 : Int32} {v2 : Int64} (h_v0 : FVn c v0 v0') : RF 1 o VE c u (fb_Fr_bind_48 N () u v0 v1 v2) (hb_Fr_bind_48 N () m v0' v1 v2) := by
  unfold fb_Fr_bind_48 hb_Fr_bind_48
  refine rf_bo (gR_F2 R h_v0) ?_
  refine rf_bo (gf_4 R h_v0) ?_
  refine rf_so ?_
  refine rf_wk (sq_32 R h_v0.1) (fun w4' w4 R_w4 => ?_)
  refine rf_bo (gR_F3 R_w4 h_v0) ?_
  refine rf_bo (gf_4 R_w4 h_v0) ?_
  refine rf_so ?_
  refine rf_wk (sq_33 R_w4 h_v0.1) (fun w8' w8 R_w8 => ?_)
  refine rf_bo (gf_4 R_w8 h_v0) ?_
  refine rf_w (wf_4 R_w8 h_v0) (fun w10' w10 R_w10 => ?_)
  exact rf_ret R_w10 rfl
theorem yb_Fr_bind_0 {N : Nat} {o : Option Nat} {c : Nat → Nat} {m : MS} {u : CS} (R : RP o c m u) {v0 : Nat} {v0' : Nat} {v1 : Int32} {v2 : Int64} (h_v0 : FVn c v0 v0') : RF 1 o VE c u (fb_Fr_bind_0 N () u v0 v1 v2) (hb_Fr_bind_0 N () m v0' v1 v2) := by
  unfold fb_Fr_bind_0 hb_Fr_bind_0
  refine rf_bo (gf_4 R h_v0) ?_
  refine rf_bo (gR_F3 R h_v0) ?_
  refine rf_so ?_
  refine rf_bo (nq_33 R h_v0.1) ?_
  refine rf_br ?_ ?_
  · exact (yb_Fr_bind_48 R h_v0)
  · refine rf_bo (gR_F3 R h_v0) ?_
    refine rf_bo (gR_F3 R h_v0) ?_
    refine rf_so ?_
    refine rf_bo (nq_33 R h_v0.1) ?_
    refine rf_ck (all1 (okR_F R h_v0)) ?_
    refine rf_growJ R h_v0 (k := 33) (l := 43) (by unfold GRK; omega) (by omega) (by unfold zle; omega) (fun c_w20 w20' w20 R_w20 E_w20 => ?_)
    replace h_v0 := E_w20.F h_v0
    refine rf_bo (gR_F2 R_w20 h_v0) ?_
    refine rf_bo (gR_F2 R_w20 h_v0) ?_
    refine rf_so ?_
    refine rf_bo (nq_32 R_w20 h_v0.1) ?_
    refine rf_ck (all1 (okR_F R_w20 h_v0)) ?_
    refine rf_growI R_w20 h_v0 (k := 32) (l := 42) (by unfold GRK; omega) (by omega) (by unfold zle; omega) (fun c_w26 w26' w26 R_w26 E_w26 => ?_)
    replace h_v0 := E_w26.F h_v0
    exact (yb_Fr_bind_48 R_w26 h_v0)
theorem ym_Fr_bind {N : Nat} {o : Option Nat} {c : Nat → Nat} {m : MS} {u : CS} (R : RP o c m u) {v0 : Nat} {v0' : Nat} {v1 : Int32} {v2 : Int64} (h_v0 : FVn c v0 v0') : RF 1 o VE c u (fm_Fr_bind N u v0 v1 v2) (hm_Fr_bind N m v0' v1 v2) := yb_Fr_bind_0 (N := N) R h_v0
theorem yb_Ma_hold_40 {N : Nat} {p : Nat} {c : Nat → Nat} {m : MS} {u : CS} {G : (CS → Nat → Option Nat → Option Nat → Int64 → Int32 → Int32 → Option (CS × Unit))} {G' : (MS → Nat → Nat → Nat → Int64 → Int32 → Int32 → Option (MS × Unit))} (hG : ∀ (c : Nat → Nat) (m : MS) (u : CS) (v1 : Nat) (v1' : Nat) (v2 : Nat) (v2' : Nat) (v3 : Int64) (v6 : Int32) (v7 : Int32), RP (some p) c m u → FVn c v1 v1' → CVn c v2 v2' → RF 1 (some p) VE c u (G u 55 (some v1) (some v2) v3 v6 v7) (G' m p v1' v2' v3 v6 v7)) (R : RP (some p) c m u) {v1 : Nat} {v1' : Nat} {v2 : Nat} {v2' : Nat} {v3 : Int64} {v6 : Int32} {v7 : Int32} (h_v1 : FVn c v1 v1') (h_v2 : CVn c v2 v2') : RF 1 (some p) VE c u (fb_Ma_hold_40 N G u 55 (some v1) (some v2) v3 v6 v7) (hb_Ma_hold_40 N G' m p v1' v2' v3 v6 v7) := by
  unfold fb_Ma_hold_40 hb_Ma_hold_40
  refine rf_bo (rx_55_0 R) ?_
  refine rf_so ?_
  refine rf_ck (ox_22 R) ?_
  refine rf_bx0 (rf_gz (ym_Co_at R) (by omega)) (fun u2' u2 r2 R_u2 => ?_)
  refine rf_gw ?_
  refine rf_br ?_ ?_
  · exact rf_ret R_u2 rfl
  · refine rf_bo (rx_55_0 R_u2) ?_
    refine rf_so ?_
    refine rf_ck (ox_22 R_u2) ?_
    refine rf_bx0 (rf_gz (ym_Co_at R_u2) (by omega)) (fun u5' u5 r5 R_u5 => ?_)
    refine rf_gw ?_
    refine rf_so ?_
    refine rf_ai (aq_C R_u5 h_v2) ?_
    refine rf_so ?_
    refine rf_ck (io_F R_u5 h_v1) ?_
    refine rf_ck (all3 (okR_s R_u5 (by decide)) (okR_F R_u5 h_v1) (okR_Co R_u5 (Or.inr ⟨_, _, rfl, rfl, h_v2⟩))) ?_
    refine rf_bx (rf_gw (ym_Fr_bind R_u5 h_v1)) (by unfold zle; omega) (fun c_u9 u9' u9 r9 r9' R_u9 E_u9 v_u9 => ?_)
    cases v_u9
    replace h_v1 := E_u9.F h_v1
    replace h_v2 := E_u9.C (by omega) h_v2
    refine rf_gw ?_
    exact (hG _ _ _ _ _ _ _ _ _ _ R_u9 h_v1 h_v2)
theorem yb_Ma_hold_24 {N : Nat} {p : Nat} {c : Nat → Nat} {m : MS} {u : CS} {G : (CS → Nat → Option Nat → Option Nat → Int64 → Int32 → Int32 → Option (CS × Unit))} {G' : (MS → Nat → Nat → Nat → Int64 → Int32 → Int32 → Option (MS × Unit))} (hG : ∀ (c : Nat → Nat) (m : MS) (u : CS) (v1 : Nat) (v1' : Nat) (v2 : Nat) (v2' : Nat) (v3 : Int64) (v6 : Int32) (v7 : Int32), RP (some p) c m u → FVn c v1 v1' → CVn c v2 v2' → RF 1 (some p) VE c u (G u 55 (some v1) (some v2) v3 v6 v7) (G' m p v1' v2' v3 v6 v7)) (R : RP (some p) c m u) : RF 1 (some p) VE c u (fb_Ma_hold_24 N G u) (hb_Ma_hold_24 N G' m p) := by
  unfold fb_Ma_hold_24 hb_Ma_hold_24
  exact rf_ret R rfl
theorem yb_Ma_hold_0 {N : Nat} {p : Nat} {c : Nat → Nat} {m : MS} {u : CS} {G : (CS → Nat → Option Nat → Option Nat → Int64 → Int32 → Int32 → Option (CS × Unit))} {G' : (MS → Nat → Nat → Nat → Int64 → Int32 → Int32 → Option (MS × Unit))} (hG : ∀ (c : Nat → Nat) (m : MS) (u : CS) (v1 : Nat) (v1' : Nat) (v2 : Nat) (v2' : Nat) (v3 : Int64) (v6 : Int32) (v7 : Int32), RP (some p) c m u → FVn c v1 v1' → CVn c v2 v2' → RF 1 (some p) VE c u (G u 55 (some v1) (some v2) v3 v6 v7) (G' m p v1' v2' v3 v6 v7)) (R : RP (some p) c m u) {v1 : Nat} {v1' : Nat} {v2 : Nat} {v2' : Nat} {v3 : Int64} (h_v1 : FVn c v1 v1') (h_v2 : CVn c v2 v2') : RF 1 (some p) VE c u (fb_Ma_hold_0 N G u 55 (some v1) (some v2) v3) (hb_Ma_hold_0 N G' m p v1' v2' v3) := by
  unfold fb_Ma_hold_0 hb_Ma_hold_0
  refine rf_so ?_
  refine rf_ai (aq_C R h_v2) ?_
  refine rf_br ?_ ?_
  · exact (yb_Ma_hold_24 hG R)
  · refine rf_bo (rx_55_0 R) ?_
    refine rf_so ?_
    refine rf_bo (gx_22_9 R) ?_
    refine rf_br ?_ ?_
    · refine rf_bo (rx_55_0 R) ?_
      refine rf_so ?_
      refine rf_bo (rx_22_12 R) ?_
      refine rf_so ?_
      refine rf_ai (ax_32 R) ?_
      exact (hG _ _ _ _ _ _ _ _ _ _ R h_v1 h_v2)
    · exact (yb_Ma_hold_24 hG R)
theorem yg_Ma_hold {N : Nat} {p : Nat} : ∀ n, (∀ (c : Nat → Nat) (m : MS) (u : CS) (v1 : Nat) (v1' : Nat) (v2 : Nat) (v2' : Nat) (v3 : Int64) (v6 : Int32) (v7 : Int32), RP (some p) c m u → FVn c v1 v1' → CVn c v2 v2' → RF 1 (some p) VE c u ((gg_Ma_hold N n) u 55 (some v1) (some v2) v3 v6 v7) ((hg_Ma_hold N n) m p v1' v2' v3 v6 v7)) := by
  intro n
  induction n with
  | zero => exact fun c m u v1 v1' v2 v2' v3 v6 v7 R h_v1 h_v2 => rf_none
  | succ n ih => exact fun c m u v1 v1' v2 v2' v3 v6 v7 R h_v1 h_v2 => yb_Ma_hold_40 (N := N) ih R h_v1 h_v2
theorem ym_Ma_hold {N : Nat} {p : Nat} {c : Nat → Nat} {m : MS} {u : CS} (R : RP (some p) c m u) {v1 : Nat} {v1' : Nat} {v2 : Nat} {v2' : Nat} {v3 : Int64} (h_v1 : FVn c v1 v1') (h_v2 : CVn c v2 v2') : RF 1 (some p) VE c u (fm_Ma_hold N u 55 (some v1) (some v2) v3) (hm_Ma_hold N m p v1' v2' v3) := yb_Ma_hold_0 (N := N) (yg_Ma_hold (N := N) N) R h_v1 h_v2
end
section
set_option maxRecDepth 100000
theorem yb_Fr_drop_0 {N : Nat} {o : Option Nat} {c : Nat → Nat} {m : MS} {u : CS} (R : RP o c m u) {v0 : Nat} {v0' : Nat} {v1 : Int32} (h_v0 : FVn c v0 v0') : RF 0 o VE c u (fb_Fr_drop_0 N () u v0 v1) (hb_Fr_drop_0 N () m v0' v1) := by
  unfold fb_Fr_drop_0 hb_Fr_drop_0
  refine rf_bo (gf_6 R h_v0) ?_
  refine rf_lt ?_
  refine rf_w (wf_6 R h_v0) (fun w3' w3 R_w3 => ?_)
  exact rf_ret R_w3 rfl
theorem ym_Fr_drop {N : Nat} {o : Option Nat} {c : Nat → Nat} {m : MS} {u : CS} (R : RP o c m u) {v0 : Nat} {v0' : Nat} {v1 : Int32} (h_v0 : FVn c v0 v0') : RF 0 o VE c u (fm_Fr_drop N u v0 v1) (hm_Fr_drop N m v0' v1) := yb_Fr_drop_0 (N := N) R h_v0
theorem yb_Fr_push_30 {N : Nat} {o : Option Nat} {c : Nat → Nat} {m : MS} {u : CS} (R : RP o c m u) {v0 : Nat} {v0' : Nat} {v1 : Int64} (h_v0 : FVn c v0 v0') : RF 1 o VE c u (fb_Fr_push_30 N () u v0 v1) (hb_Fr_push_30 N () m v0' v1) := by
  unfold fb_Fr_push_30 hb_Fr_push_30
  refine rf_bo (gR_F5 R h_v0) ?_
  refine rf_bo (gf_6 R h_v0) ?_
  refine rf_so ?_
  refine rf_wk (sq_35 R h_v0.1) (fun w4' w4 R_w4 => ?_)
  refine rf_bo (gf_6 R_w4 h_v0) ?_
  refine rf_w (wf_6 R_w4 h_v0) (fun w6' w6 R_w6 => ?_)
  exact rf_ret R_w6 rfl
theorem yb_Fr_push_0 {N : Nat} {o : Option Nat} {c : Nat → Nat} {m : MS} {u : CS} (R : RP o c m u) {v0 : Nat} {v0' : Nat} {v1 : Int64} (h_v0 : FVn c v0 v0') : RF 1 o VE c u (fb_Fr_push_0 N () u v0 v1) (hb_Fr_push_0 N () m v0' v1) := by
  unfold fb_Fr_push_0 hb_Fr_push_0
  refine rf_bo (gf_6 R h_v0) ?_
  refine rf_bo (gR_F5 R h_v0) ?_
  refine rf_so ?_
  refine rf_bo (nq_35 R h_v0.1) ?_
  refine rf_br ?_ ?_
  · exact (yb_Fr_push_30 R h_v0)
  · refine rf_bo (gR_F5 R h_v0) ?_
    refine rf_bo (gR_F5 R h_v0) ?_
    refine rf_so ?_
    refine rf_bo (nq_35 R h_v0.1) ?_
    refine rf_ck (all1 (okR_F R h_v0)) ?_
    refine rf_growJ R h_v0 (k := 35) (l := 45) (by unfold GRK; omega) (by omega) (by unfold zle; omega) (fun c_w16 w16' w16 R_w16 E_w16 => ?_)
    replace h_v0 := E_w16.F h_v0
    exact (yb_Fr_push_30 R_w16 h_v0)
theorem ym_Fr_push {N : Nat} {o : Option Nat} {c : Nat → Nat} {m : MS} {u : CS} (R : RP o c m u) {v0 : Nat} {v0' : Nat} {v1 : Int64} (h_v0 : FVn c v0 v0') : RF 1 o VE c u (fm_Fr_push N u v0 v1) (hm_Fr_push N m v0' v1) := yb_Fr_push_0 (N := N) R h_v0
theorem yb_Ma_answer_0 {N : Nat} {p : Nat} {c : Nat → Nat} {m : MS} {u : CS} (R : RP (some p) c m u) {v1 : Int32} {v2 : Int64} : RF 1 (some p) VE c u (fb_Ma_answer_0 N () u 55 v1 v2) (hb_Ma_answer_0 N () m p v1 v2) := by
  unfold fb_Ma_answer_0 hb_Ma_answer_0
  refine rf_bo (gR_M4 R) ?_
  refine rf_soF R.md (fun j3 h_j3 => ?_)
  refine rf_ck (io_F R h_j3) ?_
  refine rf_bx0 (rf_gz (ym_Fr_drop R h_j3) (by omega)) (fun u2' u2 r2 R_u2 => ?_)
  refine rf_gw ?_
  refine rf_bo (gR_M4 R_u2) ?_
  refine rf_soF R_u2.md (fun j6 h_j6 => ?_)
  refine rf_ck (io_F R_u2 h_j6) ?_
  refine rf_ck (all1 (okR_s R_u2 (by decide))) ?_
  refine rf_bx (rf_gw (ym_Fr_push R_u2 h_j6)) (by unfold zle; omega) (fun c_u5 u5' u5 r5 r5' R_u5 E_u5 v_u5 => ?_)
  cases v_u5
  refine rf_gw ?_
  exact rf_ret R_u5 rfl
theorem ym_Ma_answer {N : Nat} {p : Nat} {c : Nat → Nat} {m : MS} {u : CS} (R : RP (some p) c m u) {v1 : Int32} {v2 : Int64} : RF 1 (some p) VE c u (fm_Ma_answer N u 55 v1 v2) (hm_Ma_answer N m p v1 v2) := yb_Ma_answer_0 (N := N) R
theorem yb_Ma_spawn_170 {N : Nat} {p : Nat} {c : Nat → Nat} {m : MS} {u : CS} (R : RP (some p) c m u) {v4 : Nat} {v4' : Nat} (h_v4 : PVn c v4 v4') : RF 2 (some p) VE c u (fb_Ma_spawn_170 N () u 55 (some v4)) (hb_Ma_spawn_170 N () m p v4') := by
  unfold fb_Ma_spawn_170 hb_Ma_spawn_170
  refine rf_so ?_
  refine rf_bo (gI_P0 R h_v4) ?_
  refine rf_bx0 (rf_gz (ym_Te_make R) (by omega)) (fun u3' u3 r3 R_u3 => ?_)
  refine rf_gw ?_
  refine rf_ck (ox_55 R_u3) ?_
  refine rf_ck (all2 (okR_s R_u3 (by decide)) (okR_P R_u3 h_v4)) ?_
  refine rf_bx (rf_gw (ym_Ma_answer R_u3)) (by unfold zle; omega) (fun c_u4 u4' u4 r4 r4' R_u4 E_u4 v_u4 => ?_)
  cases v_u4
  refine rf_gw ?_
  exact rf_ret R_u4 rfl
theorem yb_Ma_spawn_59 {N : Nat} {p : Nat} {c : Nat → Nat} {m : MS} {u : CS} (R : RP (some p) c m u) {v1 : Int64} {t0 : Option Nat} {t0' : Option Nat} (h_t0 : PVo c t0 t0') : RF 2 (some p) VE c u (fb_Ma_spawn_59 N () u 55 v1 t0) (hb_Ma_spawn_59 N () m p v1 t0') := by
  unfold fb_Ma_spawn_59 hb_Ma_spawn_59
  refine rf_br2 (PV_n h_t0) ?_ ?_
  · refine rf_ck (ox_55 R) ?_
    refine rf_bx0 (rf_gz (ym_Ma_wrong R) (by omega)) (fun u37' u37 r37 R_u37 => ?_)
    refine rf_gw ?_
    exact rf_ret R_u37 rfl
  · refine rf_bo (gR_M3 R) ?_
    refine rf_soP R.md (fun j6 h_j6 => ?_)
    refine rf_bo (gR_P2 R h_j6) ?_
    refine rf_so ?_
    refine rf_ai (aq_2 R h_j6.1) ?_
    refine rf_boQ h_t0 (fun j10 j10' e1_j10 e2_j10 h_j10 => ?_)
    subst e1_j10
    refine rf_so ?_
    refine rf_bo (gR_P1 R h_j10) ?_
    refine rf_bx0 (rf_gz (ym_Ma_functionOf R) (by omega)) (fun u12' u12 r12 R_u12 => ?_)
    refine rf_gw ?_
    refine rf_ck (ox_55 R_u12) ?_
    refine rf_bx0 (rf_gz (ym_Ma_entryOf R_u12) (by omega)) (fun u13' u13 r13 R_u13 => ?_)
    refine rf_gw ?_
    refine rf_soF h_j10.1 (fun j15 h_j15 => ?_)
    refine rf_ck (io_F R_u13 h_j15) ?_
    refine rf_bx0 (rf_gz (ym_Fr_open R_u13 h_j15) (by omega)) (fun u14' u14 r14 R_u14 => ?_)
    refine rf_gw ?_
    refine rf_bo (rx_55_2 R_u14) ?_
    refine rf_bo (gR_M3 R_u14) ?_
    refine rf_soP R_u14.md (fun j18 h_j18 => ?_)
    refine rf_bo (gR_P2 R_u14 h_j18) ?_
    refine rf_so ?_
    refine rf_ck (ox_43 R_u14) ?_
    refine rf_bx0 (rf_gz (ym_Te_size R_u14 ⟨_, h_j18.1, rfl, rfl⟩) (by omega)) (fun u20' u20 r20 R_u20 => ?_)
    refine rf_gw ?_
    refine rf_so ?_
    refine rf_ck (io_P R_u20 h_j10) ?_
    refine rf_bx (rf_gz (ym_Pr_want R_u20 h_j10) (by omega)) (by unfold zle; omega) (fun c_u22 u22' u22 r22 r22' R_u22 E_u22 v_u22 => ?_)
    cases v_u22
    replace h_j10 := E_u22.P h_j10
    refine rf_gw ?_
    refine rf_br ?_ ?_
    · refine rf_bo (rx_55_1 R_u22) ?_
      refine rf_so ?_
      refine rf_ck (ox_47 R_u22) ?_
      refine rf_bx0 (rf_gz (ym_Wl_endsBy R_u22 h_j10) (by omega)) (fun u25' u25 r25 R_u25 => ?_)
      refine rf_gw ?_
      exact (yb_Ma_spawn_170 R_u25 h_j10)
    · refine rf_so ?_
      refine rf_bo (gR_P1 R_u22 h_j10) ?_
      refine rf_so ?_
      refine rf_bo (gR_P2 R_u22 h_j10) ?_
      refine rf_bo (gR_M3 R_u22) ?_
      refine rf_soP R_u22.md (fun j32 h_j32 => ?_)
      refine rf_bo (gR_P2 R_u22 h_j32) ?_
      refine rf_so ?_
      refine rf_ck (io_P R_u22 h_j10) ?_
      refine rf_bx0 (rf_gz (ym_Pr_copyIn R_u22 h_j10 ⟨_, h_j32.1, rfl, rfl⟩) (by omega)) (fun u34' u34 r34 R_u34 => ?_)
      refine rf_gw ?_
      refine rf_ck (ox_55 R_u34) ?_
      refine rf_ck (all2 (okR_P R_u34 h_j10) (okR_s R_u34 (by decide))) ?_
      refine rf_bx (rf_gw (ym_Ma_hold R_u34 ⟨h_j10.1, rfl⟩ ⟨_, h_j10.1, rfl, rfl⟩)) (by unfold zle; omega) (fun c_u36 u36' u36 r36 r36' R_u36 E_u36 v_u36 => ?_)
      cases v_u36
      replace h_j10 := E_u36.P h_j10
      refine rf_gw ?_
      exact (yb_Ma_spawn_170 R_u36 h_j10)
theorem yb_Ma_spawn_43 {N : Nat} {p : Nat} {c : Nat → Nat} {m : MS} {u : CS} (R : RP (some p) c m u) {v1 : Int64} {t0 : Int32} : RF 2 (some p) VE c u (fb_Ma_spawn_43 N () u 55 v1 t0) (hb_Ma_spawn_43 N () m p v1 t0) := by
  unfold fb_Ma_spawn_43 hb_Ma_spawn_43
  refine rf_br ?_ ?_
  · exact (yb_Ma_spawn_59 R PV_0)
  · refine rf_bo (rx_55_1 R) ?_
    refine rf_so ?_
    refine rf_ck (ox_47 R) ?_
    refine rf_ck (all1 (okR_s R (by decide))) ?_
    refine rf_bx (rf_gw (ym_Wl_born R)) (by unfold zle; omega) (fun c_u39 u39' u39 r39 r39' R_u39 E_u39 h_r39 => ?_)
    refine rf_gw ?_
    exact (yb_Ma_spawn_59 R_u39 h_r39)
theorem yb_Ma_spawn_42 {N : Nat} {p : Nat} {c : Nat → Nat} {m : MS} {u : CS} (R : RP (some p) c m u) {v1 : Int64} : RF 2 (some p) VE c u (fb_Ma_spawn_42 N () u 55 v1) (hb_Ma_spawn_42 N () m p v1) := by
  unfold fb_Ma_spawn_42 hb_Ma_spawn_42
  exact (yb_Ma_spawn_43 R)
theorem yb_Ma_spawn_0 {N : Nat} {p : Nat} {c : Nat → Nat} {m : MS} {u : CS} (R : RP (some p) c m u) : RF 2 (some p) VE c u (fb_Ma_spawn_0 N () u 55) (hb_Ma_spawn_0 N () m p) := by
  unfold fb_Ma_spawn_0 hb_Ma_spawn_0
  refine rf_bo (gR_M4 R) ?_
  refine rf_soF R.md (fun j43 h_j43 => ?_)
  refine rf_ck (io_F R h_j43) ?_
  refine rf_bx0 (rf_gz (ym_Fr_below R h_j43) (by omega)) (fun u42' u42 r42 R_u42 => ?_)
  refine rf_gw ?_
  refine rf_bx0 (rf_gz (ym_Te_tag R_u42) (by omega)) (fun u44' u44 r44 R_u44 => ?_)
  refine rf_gw ?_
  refine rf_br ?_ ?_
  · refine rf_bo (rx_55_0 R_u44) ?_
    refine rf_bo (gR_M3 R_u44) ?_
    refine rf_soP R_u44.md (fun j47 h_j47 => ?_)
    refine rf_bo (gR_P2 R_u44 h_j47) ?_
    refine rf_so ?_
    refine rf_ai (aq_2 R_u44 h_j47.1) ?_
    refine rf_so ?_
    refine rf_ck (ox_22 R_u44) ?_
    refine rf_bx0 (rf_gz (ym_Co_takes R_u44) (by omega)) (fun u51' u51 r51 R_u51 => ?_)
    refine rf_gw ?_
    refine rf_br ?_ ?_
    · exact (yb_Ma_spawn_43 R_u51)
    · exact (yb_Ma_spawn_42 R_u51)
  · exact (yb_Ma_spawn_42 R_u44)
theorem ym_Ma_spawn {N : Nat} {p : Nat} {c : Nat → Nat} {m : MS} {u : CS} (R : RP (some p) c m u) : RF 2 (some p) VE c u (fm_Ma_spawn N u 55) (hm_Ma_spawn N m p) := yb_Ma_spawn_0 (N := N) R
theorem yb_Te_write_52 {N : Nat} {o : Option Nat} {c : Nat → Nat} {m : MS} {u : CS} (R : RP o c m u) : RF 0 o VE c u (fb_Te_write_52 N () u) (hb_Te_write_52 N () m) := by
  unfold fb_Te_write_52 hb_Te_write_52
  exact rf_ret R rfl
theorem yb_Te_write_0 {N : Nat} {o : Option Nat} {c : Nat → Nat} {m : MS} {u : CS} (R : RP o c m u) {v1 : Int32} : RF 0 o VE c u (fb_Te_write_0 N () u 43 v1) (hb_Te_write_0 N () m v1) := by
  unfold fb_Te_write_0 hb_Te_write_0
  refine rf_bo (gx_43_6 R) ?_
  refine rf_br ?_ ?_
  · exact (yb_Te_write_52 R)
  · refine rf_bo (gx_43_5 R) ?_
    refine rf_bo (gx_43_6 R) ?_
    refine rf_bo (gr_out R) ?_
    refine rf_boB (ou_out R) (fun j5 h_j5 => ?_)
    refine rf_bo (na_B R (By_ou h_j5)) ?_
    refine rf_br ?_ ?_
    · exact (yb_Te_write_52 R)
    · refine rf_bo (gr_out R) ?_
      refine rf_bo (gx_43_5 R) ?_
      refine rf_bo (gx_43_6 R) ?_
      refine rf_boB (ou_out R) (fun j10 h_j10 => ?_)
      refine rf_wk (si_B R (By_ou h_j10)) (fun w11' w11 R_w11 => ?_)
      refine rf_bo (gx_43_6 R_w11) ?_
      refine rf_w (px_43_6 R_w11) (fun w13' w13 R_w13 => ?_)
      exact (yb_Te_write_52 R_w13)
theorem ym_Te_write {N : Nat} {o : Option Nat} {c : Nat → Nat} {m : MS} {u : CS} (R : RP o c m u) {v1 : Int32} : RF 0 o VE c u (fm_Te_write N u 43 v1) (hm_Te_write N m v1) := yb_Te_write_0 (N := N) R
theorem yb_Te_toWriteRest_19 {N : Nat} {o : Option Nat} {c : Nat → Nat} {m : MS} {u : CS} (R : RP o c m u) {v1 : Nat} {v1' : Nat} {v2 : Int32} {t0 : Int64} (h_v1 : CVn c v1 v1') : RF 0 o VE c u (fb_Te_toWriteRest_19 N () u 43 (some v1) v2 t0) (hb_Te_toWriteRest_19 N () m v1' v2 t0) := by
  unfold fb_Te_toWriteRest_19 hb_Te_toWriteRest_19
  refine rf_lt ?_
  refine rf_bx0 (ym_Te_tag R) (fun u2' u2 r2 R_u2 => ?_)
  refine rf_br ?_ ?_
  · refine rf_ck (ox_43 R_u2) ?_
    refine rf_bx0 (ym_Te_write R_u2) (fun u10' u10 r10 R_u10 => ?_)
    exact rf_ret R_u10 rfl
  · refine rf_bx0 (ym_Te_tag R_u2) (fun u3' u3 r3 R_u3 => ?_)
    refine rf_br ?_ ?_
    · refine rf_ck (ox_43 R_u3) ?_
      refine rf_bx0 (ym_Te_write R_u3) (fun u8' u8 r8 R_u8 => ?_)
      refine rf_ck (ox_43 R_u8) ?_
      refine rf_bx0 (ym_Te_toWritePair R_u8 h_v1) (fun u9' u9 r9 R_u9 => ?_)
      exact rf_ret R_u9 rfl
    · refine rf_ck (ox_43 R_u3) ?_
      refine rf_bx0 (ym_Te_write R_u3) (fun u4' u4 r4 R_u4 => ?_)
      refine rf_bx0 (ym_Te_make R_u4) (fun u5' u5 r5 R_u5 => ?_)
      refine rf_ck (ox_43 R_u5) ?_
      refine rf_bx0 (ym_Te_push R_u5) (fun u6' u6 r6 R_u6 => ?_)
      refine rf_ck (ox_43 R_u6) ?_
      refine rf_bx0 (ym_Te_push R_u6) (fun u7' u7 r7 R_u7 => ?_)
      exact rf_ret R_u7 rfl
theorem yb_Te_toWriteRest_0 {N : Nat} {o : Option Nat} {c : Nat → Nat} {m : MS} {u : CS} (R : RP o c m u) {v1 : Nat} {v1' : Nat} {v2 : Int32} (h_v1 : CVn c v1 v1') : RF 0 o VE c u (fb_Te_toWriteRest_0 N () u 43 (some v1) v2) (hb_Te_toWriteRest_0 N () m v1' v2) := by
  unfold fb_Te_toWriteRest_0 hb_Te_toWriteRest_0
  refine rf_br ?_ ?_
  · refine rf_bx0 (ym_Te_make R) (fun u11' u11 r11 R_u11 => ?_)
    exact (yb_Te_toWriteRest_19 R_u11 h_v1)
  · refine rf_bo (rx_43_1 R) ?_
    refine rf_so ?_
    refine rf_ai (ax_45 R) ?_
    exact (yb_Te_toWriteRest_19 R h_v1)
theorem ym_Te_toWriteRest {N : Nat} {o : Option Nat} {c : Nat → Nat} {m : MS} {u : CS} (R : RP o c m u) {v1 : Nat} {v1' : Nat} {v2 : Int32} (h_v1 : CVn c v1 v1') : RF 0 o VE c u (fm_Te_toWriteRest N u 43 (some v1) v2) (hm_Te_toWriteRest N m v1' v2) := yb_Te_toWriteRest_0 (N := N) R h_v1
theorem yb_Te_writeNumber_43 {N : Nat} {o : Option Nat} {c : Nat → Nat} {m : MS} {u : CS} {G : (CS → Nat → Int64 → Int64 → Option (CS × Unit)) × (CS → Nat → Int64 → Int64 → Option (CS × Unit))} {G' : (MS → Int64 → Int64 → Option (MS × Unit)) × (MS → Int64 → Int64 → Option (MS × Unit))} (hG1 : ∀ (c : Nat → Nat) (m : MS) (u : CS) (v2 : Int64) (v4 : Int64), RP o c m u → RF 0 o VE c u (G.1 u 43 v2 v4) (G'.1 m v2 v4)) (hG2 : ∀ (c : Nat → Nat) (m : MS) (u : CS) (v2 : Int64) (v4 : Int64), RP o c m u → RF 0 o VE c u (G.2 u 43 v2 v4) (G'.2 m v2 v4)) (R : RP o c m u) {v2 : Int64} {v4 : Int64} : RF 0 o VE c u (fb_Te_writeNumber_43 N G u 43 v2 v4) (hb_Te_writeNumber_43 N G' m v2 v4) := by
  unfold fb_Te_writeNumber_43 hb_Te_writeNumber_43
  refine rf_br ?_ ?_
  · exact rf_ret R rfl
  · refine rf_ckk ?_
    refine rf_ckk ?_
    refine rf_ck (ox_43 R) ?_
    refine rf_bx0 (ym_Te_write R) (fun u1' u1 r1 R_u1 => ?_)
    refine rf_ckk ?_
    exact (hG2 _ _ _ _ _ R_u1)
theorem yb_Te_writeNumber_21 {N : Nat} {o : Option Nat} {c : Nat → Nat} {m : MS} {u : CS} {G : (CS → Nat → Int64 → Int64 → Option (CS × Unit)) × (CS → Nat → Int64 → Int64 → Option (CS × Unit))} {G' : (MS → Int64 → Int64 → Option (MS × Unit)) × (MS → Int64 → Int64 → Option (MS × Unit))} (hG1 : ∀ (c : Nat → Nat) (m : MS) (u : CS) (v2 : Int64) (v4 : Int64), RP o c m u → RF 0 o VE c u (G.1 u 43 v2 v4) (G'.1 m v2 v4)) (hG2 : ∀ (c : Nat → Nat) (m : MS) (u : CS) (v2 : Int64) (v4 : Int64), RP o c m u → RF 0 o VE c u (G.2 u 43 v2 v4) (G'.2 m v2 v4)) (R : RP o c m u) {v2 : Int64} {v4 : Int64} : RF 0 o VE c u (fb_Te_writeNumber_21 N G u 43 v2 v4) (hb_Te_writeNumber_21 N G' m v2 v4) := by
  unfold fb_Te_writeNumber_21 hb_Te_writeNumber_21
  refine rf_ckk ?_
  refine rf_br ?_ ?_
  · exact (hG2 _ _ _ _ _ R)
  · exact (hG1 _ _ _ _ _ R)
theorem yb_Te_writeNumber_18 {N : Nat} {o : Option Nat} {c : Nat → Nat} {m : MS} {u : CS} {G : (CS → Nat → Int64 → Int64 → Option (CS × Unit)) × (CS → Nat → Int64 → Int64 → Option (CS × Unit))} {G' : (MS → Int64 → Int64 → Option (MS × Unit)) × (MS → Int64 → Int64 → Option (MS × Unit))} (hG1 : ∀ (c : Nat → Nat) (m : MS) (u : CS) (v2 : Int64) (v4 : Int64), RP o c m u → RF 0 o VE c u (G.1 u 43 v2 v4) (G'.1 m v2 v4)) (hG2 : ∀ (c : Nat → Nat) (m : MS) (u : CS) (v2 : Int64) (v4 : Int64), RP o c m u → RF 0 o VE c u (G.2 u 43 v2 v4) (G'.2 m v2 v4)) (R : RP o c m u) {v2 : Int64} : RF 0 o VE c u (fb_Te_writeNumber_18 N G u 43 v2) (hb_Te_writeNumber_18 N G' m v2) := by
  unfold fb_Te_writeNumber_18 hb_Te_writeNumber_18
  exact (hG1 _ _ _ _ _ R)
theorem yb_Te_writeNumber_0 {N : Nat} {o : Option Nat} {c : Nat → Nat} {m : MS} {u : CS} {G : (CS → Nat → Int64 → Int64 → Option (CS × Unit)) × (CS → Nat → Int64 → Int64 → Option (CS × Unit))} {G' : (MS → Int64 → Int64 → Option (MS × Unit)) × (MS → Int64 → Int64 → Option (MS × Unit))} (hG1 : ∀ (c : Nat → Nat) (m : MS) (u : CS) (v2 : Int64) (v4 : Int64), RP o c m u → RF 0 o VE c u (G.1 u 43 v2 v4) (G'.1 m v2 v4)) (hG2 : ∀ (c : Nat → Nat) (m : MS) (u : CS) (v2 : Int64) (v4 : Int64), RP o c m u → RF 0 o VE c u (G.2 u 43 v2 v4) (G'.2 m v2 v4)) (R : RP o c m u) {v1 : Int32} : RF 0 o VE c u (fb_Te_writeNumber_0 N G u 43 v1) (hb_Te_writeNumber_0 N G' m v1) := by
  unfold fb_Te_writeNumber_0 hb_Te_writeNumber_0
  refine rf_br ?_ ?_
  · exact (yb_Te_writeNumber_18 hG1 hG2 R)
  · refine rf_ck (ox_43 R) ?_
    refine rf_bx0 (ym_Te_write R) (fun u2' u2 r2 R_u2 => ?_)
    exact (yb_Te_writeNumber_18 hG1 hG2 R_u2)
theorem yg_Te_writeNumber {N : Nat} {o : Option Nat} : ∀ n, (∀ (c : Nat → Nat) (m : MS) (u : CS) (v2 : Int64) (v4 : Int64), RP o c m u → RF 0 o VE c u ((gg_Te_writeNumber N n).1 u 43 v2 v4) ((hg_Te_writeNumber N n).1 m v2 v4)) ∧ (∀ (c : Nat → Nat) (m : MS) (u : CS) (v2 : Int64) (v4 : Int64), RP o c m u → RF 0 o VE c u ((gg_Te_writeNumber N n).2 u 43 v2 v4) ((hg_Te_writeNumber N n).2 m v2 v4)) := by
  intro n
  induction n with
  | zero => exact ⟨fun c m u v2 v4 R => rf_none, fun c m u v2 v4 R => rf_none⟩
  | succ n ih => exact ⟨fun c m u v2 v4 R => yb_Te_writeNumber_21 (N := N) ih.1 ih.2 R, fun c m u v2 v4 R => yb_Te_writeNumber_43 (N := N) ih.1 ih.2 R⟩
theorem ym_Te_writeNumber {N : Nat} {o : Option Nat} {c : Nat → Nat} {m : MS} {u : CS} (R : RP o c m u) {v1 : Int32} : RF 0 o VE c u (fm_Te_writeNumber N u 43 v1) (hm_Te_writeNumber N m v1) := yb_Te_writeNumber_0 (N := N) (yg_Te_writeNumber (N := N) N).1 (yg_Te_writeNumber (N := N) N).2 R
theorem yb_Te_writeAlone_170 {N : Nat} {o : Option Nat} {c : Nat → Nat} {m : MS} {u : CS} {G : (CS → Nat → Int32 → Int32 → Option (CS × Unit))} {G' : (MS → Int32 → Int32 → Option (MS × Unit))} (hG : ∀ (c : Nat → Nat) (m : MS) (u : CS) (v3 : Int32) (v4 : Int32), RP o c m u → RF 0 o VE c u (G u 43 v3 v4) (G' m v3 v4)) (R : RP o c m u) : RF 0 o VE c u (fb_Te_writeAlone_170 N G u) (hb_Te_writeAlone_170 N G' m) := by
  unfold fb_Te_writeAlone_170 hb_Te_writeAlone_170
  exact rf_ret R rfl
theorem yb_Te_writeAlone_59 {N : Nat} {o : Option Nat} {c : Nat → Nat} {m : MS} {u : CS} {G : (CS → Nat → Int32 → Int32 → Option (CS × Unit))} {G' : (MS → Int32 → Int32 → Option (MS × Unit))} (hG : ∀ (c : Nat → Nat) (m : MS) (u : CS) (v3 : Int32) (v4 : Int32), RP o c m u → RF 0 o VE c u (G u 43 v3 v4) (G' m v3 v4)) (R : RP o c m u) {v3 : Int32} {v4 : Int32} : RF 0 o VE c u (fb_Te_writeAlone_59 N G u 43 v3 v4) (hb_Te_writeAlone_59 N G' m v3 v4) := by
  unfold fb_Te_writeAlone_59 hb_Te_writeAlone_59
  refine rf_bo (rx_43_3 R) ?_
  refine rf_so ?_
  refine rf_ck (ox_1 R) ?_
  refine rf_bx0 (ym_Wo_length R (by unfold isWd; omega)) (fun u2' u2 r2 R_u2 => ?_)
  refine rf_br ?_ ?_
  · exact (yb_Te_writeAlone_170 hG R_u2)
  · refine rf_bo (rx_43_3 R_u2) ?_
    refine rf_so ?_
    refine rf_ck (ox_1 R_u2) ?_
    refine rf_bx0 (ym_Wo_sign R_u2 (by unfold isWd; omega)) (fun u5' u5 r5 R_u5 => ?_)
    refine rf_ck (ox_43 R_u5) ?_
    refine rf_bx0 (ym_Te_write R_u5) (fun u7' u7 r7 R_u7 => ?_)
    exact (hG _ _ _ _ _ R_u7)
theorem yb_Te_writeAlone_0 {N : Nat} {o : Option Nat} {c : Nat → Nat} {m : MS} {u : CS} {G : (CS → Nat → Int32 → Int32 → Option (CS × Unit))} {G' : (MS → Int32 → Int32 → Option (MS × Unit))} (hG : ∀ (c : Nat → Nat) (m : MS) (u : CS) (v3 : Int32) (v4 : Int32), RP o c m u → RF 0 o VE c u (G u 43 v3 v4) (G' m v3 v4)) (R : RP o c m u) {v1 : Int64} : RF 0 o VE c u (fb_Te_writeAlone_0 N G u 43 v1) (hb_Te_writeAlone_0 N G' m v1) := by
  unfold fb_Te_writeAlone_0 hb_Te_writeAlone_0
  refine rf_bx0 (ym_Te_tag R) (fun u8' u8 r8 R_u8 => ?_)
  refine rf_br ?_ ?_
  · refine rf_ck (ox_43 R_u8) ?_
    refine rf_bx0 (ym_Te_writeNumber R_u8) (fun u9' u9 r9 R_u9 => ?_)
    exact (yb_Te_writeAlone_170 hG R_u9)
  · refine rf_br ?_ ?_
    · exact (hG _ _ _ _ _ R_u8)
    · refine rf_br ?_ ?_
      · refine rf_ck (ox_43 R_u8) ?_
        refine rf_bx0 (ym_Te_write R_u8) (fun u10' u10 r10 R_u10 => ?_)
        refine rf_ck (ox_43 R_u10) ?_
        refine rf_bx0 (ym_Te_writeNumber R_u10) (fun u11' u11 r11 R_u11 => ?_)
        exact (yb_Te_writeAlone_170 hG R_u11)
      · refine rf_br ?_ ?_
        · refine rf_ck (ox_43 R_u8) ?_
          refine rf_bx0 (ym_Te_write R_u8) (fun u12' u12 r12 R_u12 => ?_)
          refine rf_ck (ox_43 R_u12) ?_
          refine rf_bx0 (ym_Te_write R_u12) (fun u13' u13 r13 R_u13 => ?_)
          refine rf_ck (ox_43 R_u13) ?_
          refine rf_bx0 (ym_Te_write R_u13) (fun u14' u14 r14 R_u14 => ?_)
          exact (yb_Te_writeAlone_170 hG R_u14)
        · refine rf_br ?_ ?_
          · refine rf_ck (ox_43 R_u8) ?_
            refine rf_bx0 (ym_Te_write R_u8) (fun u15' u15 r15 R_u15 => ?_)
            refine rf_ck (ox_43 R_u15) ?_
            refine rf_bx0 (ym_Te_writeNumber R_u15) (fun u16' u16 r16 R_u16 => ?_)
            refine rf_ck (ox_43 R_u16) ?_
            refine rf_bx0 (ym_Te_write R_u16) (fun u17' u17 r17 R_u17 => ?_)
            exact (yb_Te_writeAlone_170 hG R_u17)
          · refine rf_br ?_ ?_
            · refine rf_ck (ox_43 R_u8) ?_
              refine rf_bx0 (ym_Te_write R_u8) (fun u18' u18 r18 R_u18 => ?_)
              exact (yb_Te_writeAlone_170 hG R_u18)
            · refine rf_br ?_ ?_
              · refine rf_ck (ox_43 R_u8) ?_
                refine rf_bx0 (ym_Te_write R_u8) (fun u19' u19 r19 R_u19 => ?_)
                refine rf_ck (ox_43 R_u19) ?_
                refine rf_bx0 (ym_Te_write R_u19) (fun u20' u20 r20 R_u20 => ?_)
                exact (yb_Te_writeAlone_170 hG R_u20)
              · refine rf_ck (ox_43 R_u8) ?_
                refine rf_bx0 (ym_Te_write R_u8) (fun u21' u21 r21 R_u21 => ?_)
                exact (yb_Te_writeAlone_170 hG R_u21)
theorem yg_Te_writeAlone {N : Nat} {o : Option Nat} : ∀ n, (∀ (c : Nat → Nat) (m : MS) (u : CS) (v3 : Int32) (v4 : Int32), RP o c m u → RF 0 o VE c u ((gg_Te_writeAlone N n) u 43 v3 v4) ((hg_Te_writeAlone N n) m v3 v4)) := by
  intro n
  induction n with
  | zero => exact fun c m u v3 v4 R => rf_none
  | succ n ih => exact fun c m u v3 v4 R => yb_Te_writeAlone_59 (N := N) ih R
theorem ym_Te_writeAlone {N : Nat} {o : Option Nat} {c : Nat → Nat} {m : MS} {u : CS} (R : RP o c m u) {v1 : Int64} : RF 0 o VE c u (fm_Te_writeAlone N u 43 v1) (hm_Te_writeAlone N m v1) := yb_Te_writeAlone_0 (N := N) (yg_Te_writeAlone (N := N) N) R
theorem yb_Te_text_174 {N : Nat} {o : Option Nat} {c : Nat → Nat} {m : MS} {u : CS} {G : (CS → Nat → Option Nat → Int32 → Int32 → Option (CS × Int32))} {G' : (MS → Nat → Int32 → Int32 → Option (MS × Int32))} (hG : ∀ (c : Nat → Nat) (m : MS) (u : CS) (v1 : Nat) (v1' : Nat) (v6 : Int32) (v7 : Int32), RP o c m u → CVn c v1 v1' → RF 0 o VE c u (G u 43 (some v1) v6 v7) (G' m v1' v6 v7)) (R : RP o c m u) : RF 0 o VE c u (fb_Te_text_174 N G u 43) (hb_Te_text_174 N G' m) := by
  unfold fb_Te_text_174 hb_Te_text_174
  refine rf_bo (gx_43_6 R) ?_
  exact rf_ret R rfl
theorem yb_Te_text_168 {N : Nat} {o : Option Nat} {c : Nat → Nat} {m : MS} {u : CS} {G : (CS → Nat → Option Nat → Int32 → Int32 → Option (CS × Int32))} {G' : (MS → Nat → Int32 → Int32 → Option (MS × Int32))} (hG : ∀ (c : Nat → Nat) (m : MS) (u : CS) (v1 : Nat) (v1' : Nat) (v6 : Int32) (v7 : Int32), RP o c m u → CVn c v1 v1' → RF 0 o VE c u (G u 43 (some v1) v6 v7) (G' m v1' v6 v7)) (R : RP o c m u) {v1 : Nat} {v1' : Nat} {v6 : Int32} {v7 : Int32} (h_v1 : CVn c v1 v1') : RF 0 o VE c u (fb_Te_text_168 N G u 43 (some v1) v6 v7) (hb_Te_text_168 N G' m v1' v6 v7) := by
  unfold fb_Te_text_168 hb_Te_text_168
  exact (hG _ _ _ _ _ _ _ R h_v1)
theorem yb_Te_text_30 {N : Nat} {o : Option Nat} {c : Nat → Nat} {m : MS} {u : CS} {G : (CS → Nat → Option Nat → Int32 → Int32 → Option (CS × Int32))} {G' : (MS → Nat → Int32 → Int32 → Option (MS × Int32))} (hG : ∀ (c : Nat → Nat) (m : MS) (u : CS) (v1 : Nat) (v1' : Nat) (v6 : Int32) (v7 : Int32), RP o c m u → CVn c v1 v1' → RF 0 o VE c u (G u 43 (some v1) v6 v7) (G' m v1' v6 v7)) (R : RP o c m u) {v1 : Nat} {v1' : Nat} {v6 : Int32} {v7 : Int32} (h_v1 : CVn c v1 v1') : RF 0 o VE c u (fb_Te_text_30 N G u 43 (some v1) v6 v7) (hb_Te_text_30 N G' m v1' v6 v7) := by
  unfold fb_Te_text_30 hb_Te_text_30
  refine rf_br ?_ ?_
  · exact (yb_Te_text_174 hG R)
  · refine rf_br ?_ ?_
    · exact (yb_Te_text_174 hG R)
    · refine rf_bo (gx_43_6 R) ?_
      refine rf_br ?_ ?_
      · exact (yb_Te_text_174 hG R)
      · refine rf_bo (rx_43_1 R) ?_
        refine rf_so ?_
        refine rf_ai (ax_45 R) ?_
        refine rf_bx0 (ym_Te_tag R) (fun u6' u6 r6 R_u6 => ?_)
        refine rf_br ?_ ?_
        · refine rf_ck (ox_43 R_u6) ?_
          refine rf_bx0 (ym_Te_write R_u6) (fun u7' u7 r7 R_u7 => ?_)
          refine rf_ck (ox_43 R_u7) ?_
          refine rf_bx0 (ym_Te_toWriteTuple R_u7 h_v1) (fun u8' u8 r8 R_u8 => ?_)
          exact (yb_Te_text_168 hG R_u8 h_v1)
        · refine rf_br ?_ ?_
          · refine rf_ck (ox_43 R_u6) ?_
            refine rf_bx0 (ym_Te_write R_u6) (fun u9' u9 r9 R_u9 => ?_)
            refine rf_ck (ox_43 R_u9) ?_
            refine rf_bx0 (ym_Te_toWritePair R_u9 h_v1) (fun u10' u10 r10 R_u10 => ?_)
            exact (yb_Te_text_168 hG R_u10 h_v1)
          · refine rf_br ?_ ?_
            · refine rf_ck (ox_43 R_u6) ?_
              refine rf_bx0 (ym_Te_toWriteRest R_u6 h_v1) (fun u11' u11 r11 R_u11 => ?_)
              exact (yb_Te_text_168 hG R_u11 h_v1)
            · refine rf_ck (ox_43 R_u6) ?_
              refine rf_bx0 (ym_Te_writeAlone R_u6) (fun u12' u12 r12 R_u12 => ?_)
              exact (yb_Te_text_168 hG R_u12 h_v1)
theorem yb_Te_text_0 {N : Nat} {o : Option Nat} {c : Nat → Nat} {m : MS} {u : CS} {G : (CS → Nat → Option Nat → Int32 → Int32 → Option (CS × Int32))} {G' : (MS → Nat → Int32 → Int32 → Option (MS × Int32))} (hG : ∀ (c : Nat → Nat) (m : MS) (u : CS) (v1 : Nat) (v1' : Nat) (v6 : Int32) (v7 : Int32), RP o c m u → CVn c v1 v1' → RF 0 o VE c u (G u 43 (some v1) v6 v7) (G' m v1' v6 v7)) (R : RP o c m u) {v1 : Nat} {v1' : Nat} {v2 : Int64} {v4 : Nat} {v5 : Int32} (h_v1 : CVn c v1 v1') (h_v4 : isOu v4) : RF 0 o VE c u (fb_Te_text_0 N G u 43 (some v1) v2 (some v4) v5) (hb_Te_text_0 N G' m v1' v2 v4 v5) := by
  unfold fb_Te_text_0 hb_Te_text_0
  refine rf_w (pf_out R h_v4) (fun w13' w13 R_w13 => ?_)
  refine rf_w (px_43_5 R_w13) (fun w14' w14 R_w14 => ?_)
  refine rf_w (px_43_6 R_w14) (fun w15' w15 R_w15 => ?_)
  refine rf_bo (rx_43_1 R_w15) ?_
  refine rf_so ?_
  refine rf_wk (sx_45 R_w15) (fun w18' w18 R_w18 => ?_)
  exact (hG _ _ _ _ _ _ _ R_w18 h_v1)
theorem yg_Te_text {N : Nat} {o : Option Nat} : ∀ n, (∀ (c : Nat → Nat) (m : MS) (u : CS) (v1 : Nat) (v1' : Nat) (v6 : Int32) (v7 : Int32), RP o c m u → CVn c v1 v1' → RF 0 o VE c u ((gg_Te_text N n) u 43 (some v1) v6 v7) ((hg_Te_text N n) m v1' v6 v7)) := by
  intro n
  induction n with
  | zero => exact fun c m u v1 v1' v6 v7 R h_v1 => rf_none
  | succ n ih => exact fun c m u v1 v1' v6 v7 R h_v1 => yb_Te_text_30 (N := N) ih R h_v1
theorem ym_Te_text {N : Nat} {o : Option Nat} {c : Nat → Nat} {m : MS} {u : CS} (R : RP o c m u) {v1 : Nat} {v1' : Nat} {v2 : Int64} {v4 : Nat} {v5 : Int32} (h_v1 : CVn c v1 v1') (h_v4 : isOu v4) : RF 0 o VE c u (fm_Te_text N u 43 (some v1) v2 (some v4) v5) (hm_Te_text N m v1' v2 v4 v5) := yb_Te_text_0 (N := N) (yg_Te_text (N := N) N) R h_v1 h_v4
theorem yb_Wl_print_49 {N : Nat} {o : Option Nat} {c : Nat → Nat} {m : MS} {u : CS} (R : RP o c m u) : RF 0 o VE c u (fb_Wl_print_49 N () u) (hb_Wl_print_49 N () m) := by
  unfold fb_Wl_print_49 hb_Wl_print_49
  exact rf_ret R rfl
theorem yb_Wl_print_0 {N : Nat} {o : Option Nat} {c : Nat → Nat} {m : MS} {u : CS} (R : RP o c m u) {v1 : Nat} {v1' : Nat} {v2 : Int64} (h_v1 : CVn c v1 v1') : RF 0 o VE c u (fb_Wl_print_0 N () u 47 (some v1) v2) (hb_Wl_print_0 N () m v1' v2) := by
  unfold fb_Wl_print_0 hb_Wl_print_0
  refine rf_bo (gx_47_13 R) ?_
  refine rf_br ?_ ?_
  · exact (yb_Wl_print_49 R)
  · refine rf_bo (rx_47_12 R) ?_
    refine rf_bo (gx_47_13 R) ?_
    refine rf_bo (rx_47_0 R) ?_
    refine rf_bo (rx_47_11 R) ?_
    refine rf_bo (gx_47_13 R) ?_
    refine rf_so ?_
    refine rf_ck (ox_43 R) ?_
    refine rf_bx0 (ym_Te_text R h_v1 (by unfold isOu; omega)) (fun u7' u7 r7 R_u7 => ?_)
    refine rf_so ?_
    refine rf_wk (sx_53 R_u7) (fun w10' w10 R_w10 => ?_)
    refine rf_bo (gx_47_13 R_w10) ?_
    refine rf_w (px_47_13 R_w10) (fun w12' w12 R_w12 => ?_)
    exact (yb_Wl_print_49 R_w12)
theorem ym_Wl_print {N : Nat} {o : Option Nat} {c : Nat → Nat} {m : MS} {u : CS} (R : RP o c m u) {v1 : Nat} {v1' : Nat} {v2 : Int64} (h_v1 : CVn c v1 v1') : RF 0 o VE c u (fm_Wl_print N u 47 (some v1) v2) (hm_Wl_print N m v1' v2) := yb_Wl_print_0 (N := N) R h_v1
theorem yb_Wl_named_39 {N : Nat} {o : Option Nat} {c : Nat → Nat} {m : MS} {u : CS} {G : (CS → Nat → Int32 → Int32 → Option (CS × Option Nat))} {G' : (MS → Int32 → Int32 → Option (MS × Option Nat))} (hG : ∀ (c : Nat → Nat) (m : MS) (u : CS) (v1 : Int32) (v2 : Int32), RP o c m u → RF 0 o PVo c u (G u 47 v1 v2) (G' m v1 v2)) (R : RP o c m u) {v1 : Int32} {v2 : Int32} : RF 0 o PVo c u (fb_Wl_named_39 N G u 47 v1 v2) (hb_Wl_named_39 N G' m v1 v2) := by
  unfold fb_Wl_named_39 hb_Wl_named_39
  exact (hG _ _ _ _ _ R)
theorem yb_Wl_named_2 {N : Nat} {o : Option Nat} {c : Nat → Nat} {m : MS} {u : CS} {G : (CS → Nat → Int32 → Int32 → Option (CS × Option Nat))} {G' : (MS → Int32 → Int32 → Option (MS × Option Nat))} (hG : ∀ (c : Nat → Nat) (m : MS) (u : CS) (v1 : Int32) (v2 : Int32), RP o c m u → RF 0 o PVo c u (G u 47 v1 v2) (G' m v1 v2)) (R : RP o c m u) {v1 : Int32} {v2 : Int32} : RF 0 o PVo c u (fb_Wl_named_2 N G u 47 v1 v2) (hb_Wl_named_2 N G' m v1 v2) := by
  unfold fb_Wl_named_2 hb_Wl_named_2
  refine rf_bo (gx_47_2 R) ?_
  refine rf_br ?_ ?_
  · exact rf_ret R PV_0
  · refine rf_bo (rx_47_1 R) ?_
    refine rf_so ?_
    refine rf_aP R (fun r4 h_r4 => ?_)
    refine rf_br2 (PV_n h_r4) ?_ ?_
    · exact (yb_Wl_named_39 hG R)
    · refine rf_boQ h_r4 (fun j5 j5' e1_j5 e2_j5 h_j5 => ?_)
      subst e1_j5
      refine rf_so ?_
      refine rf_bo (gq_12 R h_j5) ?_
      refine rf_br ?_ ?_
      · refine rf_so ?_
        refine rf_bo (gq_9 R h_j5) ?_
        refine rf_br ?_ ?_
        · exact (yb_Wl_named_39 hG R)
        · exact rf_ret R (PV_j h_j5)
      · exact (yb_Wl_named_39 hG R)
theorem yb_Wl_named_0 {N : Nat} {o : Option Nat} {c : Nat → Nat} {m : MS} {u : CS} {G : (CS → Nat → Int32 → Int32 → Option (CS × Option Nat))} {G' : (MS → Int32 → Int32 → Option (MS × Option Nat))} (hG : ∀ (c : Nat → Nat) (m : MS) (u : CS) (v1 : Int32) (v2 : Int32), RP o c m u → RF 0 o PVo c u (G u 47 v1 v2) (G' m v1 v2)) (R : RP o c m u) {v1 : Int32} : RF 0 o PVo c u (fb_Wl_named_0 N G u 47 v1) (hb_Wl_named_0 N G' m v1) := by
  unfold fb_Wl_named_0 hb_Wl_named_0
  exact (hG _ _ _ _ _ R)
theorem yg_Wl_named {N : Nat} {o : Option Nat} : ∀ n, (∀ (c : Nat → Nat) (m : MS) (u : CS) (v1 : Int32) (v2 : Int32), RP o c m u → RF 0 o PVo c u ((gg_Wl_named N n) u 47 v1 v2) ((hg_Wl_named N n) m v1 v2)) := by
  intro n
  induction n with
  | zero => exact fun c m u v1 v2 R => rf_none
  | succ n ih => exact fun c m u v1 v2 R => yb_Wl_named_2 (N := N) ih R
theorem ym_Wl_named {N : Nat} {o : Option Nat} {c : Nat → Nat} {m : MS} {u : CS} (R : RP o c m u) {v1 : Int32} : RF 0 o PVo c u (fm_Wl_named N u 47 v1) (hm_Wl_named N m v1) := yb_Wl_named_0 (N := N) (yg_Wl_named (N := N) N) R
theorem yb_Ma_processAt_30 {N : Nat} {p : Nat} {c : Nat → Nat} {m : MS} {u : CS} (R : RP (some p) c m u) {t0 : Option Nat} {t0' : Option Nat} (h_t0 : PVo c t0 t0') : RF 0 (some p) PVo c u (fb_Ma_processAt_30 N () u t0) (hb_Ma_processAt_30 N () m p t0') := by
  unfold fb_Ma_processAt_30 hb_Ma_processAt_30
  exact rf_ret R h_t0
theorem yb_Ma_processAt_0 {N : Nat} {p : Nat} {c : Nat → Nat} {m : MS} {u : CS} (R : RP (some p) c m u) {v1 : Int32} : RF 0 (some p) PVo c u (fb_Ma_processAt_0 N () u 55 v1) (hb_Ma_processAt_0 N () m p v1) := by
  unfold fb_Ma_processAt_0 hb_Ma_processAt_0
  refine rf_bo (gR_M4 R) ?_
  refine rf_soF R.md (fun j3 h_j3 => ?_)
  refine rf_ck (io_F R h_j3) ?_
  refine rf_bx0 (ym_Fr_below R h_j3) (fun u2' u2 r2 R_u2 => ?_)
  refine rf_bx0 (ym_Te_tag R_u2) (fun u4' u4 r4 R_u4 => ?_)
  refine rf_br ?_ ?_
  · refine rf_bo (rx_55_1 R_u4) ?_
    refine rf_so ?_
    refine rf_ck (ox_47 R_u4) ?_
    refine rf_bxP (ym_Wl_find R_u4) (fun u6' u6 r6 r6' R_u6 h_r6 => ?_)
    exact (yb_Ma_processAt_30 R_u6 h_r6)
  · exact (yb_Ma_processAt_30 R_u4 PV_0)
theorem ym_Ma_processAt {N : Nat} {p : Nat} {c : Nat → Nat} {m : MS} {u : CS} (R : RP (some p) c m u) {v1 : Int32} : RF 0 (some p) PVo c u (fm_Ma_processAt N u 55 v1) (hm_Ma_processAt N m p v1) := yb_Ma_processAt_0 (N := N) R
theorem yb_Ma_naming_147 {N : Nat} {p : Nat} {c : Nat → Nat} {m : MS} {u : CS} (R : RP (some p) c m u) : RF 1 (some p) VE c u (fb_Ma_naming_147 N () u 55) (hb_Ma_naming_147 N () m p) := by
  unfold fb_Ma_naming_147 hb_Ma_naming_147
  refine rf_ck (ox_55 R) ?_
  refine rf_bx0 (rf_gz (ym_Ma_wrong R) (by omega)) (fun u1' u1 r1 R_u1 => ?_)
  refine rf_gw ?_
  exact rf_ret R_u1 rfl
theorem yb_Ma_naming_74 {N : Nat} {p : Nat} {c : Nat → Nat} {m : MS} {u : CS} (R : RP (some p) c m u) {t1 : Int32} {t2 : Int64} : RF 1 (some p) VE c u (fb_Ma_naming_74 N () u 55 t1 t2) (hb_Ma_naming_74 N () m p t1 t2) := by
  unfold fb_Ma_naming_74 hb_Ma_naming_74
  refine rf_ck (ox_55 R) ?_
  refine rf_bx (rf_gw (ym_Ma_answer R)) (by unfold zle; omega) (fun c_u2 u2' u2 r2 r2' R_u2 E_u2 v_u2 => ?_)
  cases v_u2
  refine rf_gw ?_
  exact rf_ret R_u2 rfl
theorem yb_Ma_naming_15 {N : Nat} {p : Nat} {c : Nat → Nat} {m : MS} {u : CS} (R : RP (some p) c m u) {v1 : Int32} {t0 : Nat} {t0' : Nat} {t1 : Int32} (h_t0 : FVn c t0 t0') : RF 1 (some p) VE c u (fb_Ma_naming_15 N () u 55 v1 (some t0) t1) (hb_Ma_naming_15 N () m p v1 t0' t1) := by
  unfold fb_Ma_naming_15 hb_Ma_naming_15
  refine rf_so ?_
  refine rf_ck (io_F R h_t0) ?_
  refine rf_bx0 (rf_gz (ym_Fr_below R h_t0) (by omega)) (fun u3' u3 r3 R_u3 => ?_)
  refine rf_gw ?_
  refine rf_bx0 (rf_gz (ym_Te_tag R_u3) (by omega)) (fun u5' u5 r5 R_u5 => ?_)
  refine rf_gw ?_
  refine rf_br ?_ ?_
  · refine rf_bo (rx_55_1 R_u5) ?_
    refine rf_so ?_
    refine rf_ck (ox_47 R_u5) ?_
    refine rf_bxP (rf_gz (ym_Wl_named R_u5) (by omega)) (fun u7' u7 r7 r7' R_u7 h_r7 => ?_)
    refine rf_gw ?_
    refine rf_br ?_ ?_
    · refine rf_br2 (PV_n h_r7) ?_ ?_
      · refine rf_bx0 (rf_gz (ym_Ma_atom R_u7) (by omega)) (fun u26' u26 r26 R_u26 => ?_)
        refine rf_gw ?_
        exact (yb_Ma_naming_74 R_u26)
      · refine rf_boQ h_r7 (fun j23 j23' e1_j23 e2_j23 h_j23 => ?_)
        subst e1_j23
        refine rf_so ?_
        refine rf_bo (gI_P0 R_u7 h_j23) ?_
        refine rf_bx0 (rf_gz (ym_Te_make R_u7) (by omega)) (fun u25' u25 r25 R_u25 => ?_)
        refine rf_gw ?_
        exact (yb_Ma_naming_74 R_u25)
    · refine rf_br ?_ ?_
      · refine rf_br2 (PV_n h_r7) ?_ ?_
        · refine rf_ck (ox_55 R_u7) ?_
          refine rf_bx0 (rf_gz (ym_Ma_wrong R_u7) (by omega)) (fun u22' u22 r22 R_u22 => ?_)
          refine rf_gw ?_
          exact rf_ret R_u22 rfl
        · refine rf_boQ h_r7 (fun j18 j18' e1_j18 e2_j18 h_j18 => ?_)
          subst e1_j18
          refine rf_so ?_
          refine rf_w (wq_12 R_u7 h_j18) (fun w19' w19 R_w19 => ?_)
          refine rf_bx0 (rf_gz (ym_Ma_atom R_w19) (by omega)) (fun u20' u20 r20 R_u20 => ?_)
          refine rf_gw ?_
          refine rf_ck (ox_55 R_u20) ?_
          refine rf_ck (all2 (okR_P R_u20 h_j18) (okR_s R_u20 (by decide))) ?_
          refine rf_bx (rf_gw (ym_Ma_answer R_u20)) (by unfold zle; omega) (fun c_u21 u21' u21 r21 r21' R_u21 E_u21 v_u21 => ?_)
          cases v_u21
          refine rf_gw ?_
          exact rf_ret R_u21 rfl
      · refine rf_ck (ox_55 R_u7) ?_
        refine rf_bxP (rf_gz (ym_Ma_processAt R_u7) (by omega)) (fun u9' u9 r9 r9' R_u9 h_r9 => ?_)
        refine rf_gw ?_
        refine rf_br2 (PV_n h_r9) ?_ ?_
        · exact (yb_Ma_naming_147 R_u9)
        · refine rf_br2 (PV_n h_r7) ?_ ?_
          · refine rf_boQ h_r9 (fun j10 j10' e1_j10 e2_j10 h_j10 => ?_)
            subst e1_j10
            refine rf_so ?_
            refine rf_bo (gq_12 R_u9 h_j10) ?_
            refine rf_br ?_ ?_
            · refine rf_so ?_
              refine rf_bo (gq_9 R_u9 h_j10) ?_
              refine rf_br ?_ ?_
              · exact (yb_Ma_naming_147 R_u9)
              · refine rf_so ?_
                refine rf_w (wq_12 R_u9 h_j10) (fun w15' w15 R_w15 => ?_)
                refine rf_bx0 (rf_gz (ym_Ma_atom R_w15) (by omega)) (fun u16' u16 r16 R_u16 => ?_)
                refine rf_gw ?_
                refine rf_ck (ox_55 R_u16) ?_
                refine rf_ck (all3 (okR_P R_u16 h_j10) (okR_Po R_u16 h_r7) (okR_s R_u16 (by decide))) ?_
                refine rf_bx (rf_gw (ym_Ma_answer R_u16)) (by unfold zle; omega) (fun c_u17 u17' u17 r17 r17' R_u17 E_u17 v_u17 => ?_)
                cases v_u17
                refine rf_gw ?_
                exact rf_ret R_u17 rfl
            · exact (yb_Ma_naming_147 R_u9)
          · exact (yb_Ma_naming_147 R_u9)
  · refine rf_ck (ox_55 R_u5) ?_
    refine rf_bx0 (rf_gz (ym_Ma_wrong R_u5) (by omega)) (fun u27' u27 r27 R_u27 => ?_)
    refine rf_gw ?_
    exact rf_ret R_u27 rfl
theorem yb_Ma_naming_0 {N : Nat} {p : Nat} {c : Nat → Nat} {m : MS} {u : CS} (R : RP (some p) c m u) {v1 : Int32} : RF 1 (some p) VE c u (fb_Ma_naming_0 N () u 55 v1) (hb_Ma_naming_0 N () m p v1) := by
  unfold fb_Ma_naming_0 hb_Ma_naming_0
  refine rf_bo (gR_M4 R) ?_
  refine rf_br ?_ ?_
  · exact (yb_Ma_naming_15 R ⟨R.md, rfl⟩)
  · exact (yb_Ma_naming_15 R ⟨R.md, rfl⟩)
theorem ym_Ma_naming {N : Nat} {p : Nat} {c : Nat → Nat} {m : MS} {u : CS} (R : RP (some p) c m u) {v1 : Int32} : RF 1 (some p) VE c u (fm_Ma_naming N u 55 v1) (hm_Ma_naming N m p v1) := yb_Ma_naming_0 (N := N) R
theorem yb_Ma_part_189 {N : Nat} {p : Nat} {c : Nat → Nat} {m : MS} {u : CS} (R : RP (some p) c m u) : RF 1 (some p) VE c u (fb_Ma_part_189 N () u 55) (hb_Ma_part_189 N () m p) := by
  unfold fb_Ma_part_189 hb_Ma_part_189
  refine rf_ck (ox_55 R) ?_
  refine rf_bx0 (rf_gz (ym_Ma_wrong R) (by omega)) (fun u1' u1 r1 R_u1 => ?_)
  refine rf_gw ?_
  exact rf_ret R_u1 rfl
theorem yb_Ma_part_120 {N : Nat} {p : Nat} {c : Nat → Nat} {m : MS} {u : CS} (R : RP (some p) c m u) {t1 : Int32} {t2 : Nat} {t2' : Nat} {t3 : Int32} (h_t2 : CVn c t2 t2') : RF 1 (some p) VE c u (fb_Ma_part_120 N () u 55 t1 (some t2) t3) (hb_Ma_part_120 N () m p t1 t2' t3) := by
  unfold fb_Ma_part_120 hb_Ma_part_120
  refine rf_so ?_
  refine rf_ai (aq_C R h_t2) ?_
  refine rf_ck (ox_55 R) ?_
  refine rf_bx (rf_gw (ym_Ma_answer R)) (by unfold zle; omega) (fun c_u4 u4' u4 r4 r4' R_u4 E_u4 v_u4 => ?_)
  cases v_u4
  refine rf_gw ?_
  exact rf_ret R_u4 rfl
theorem yb_Ma_part_96 {N : Nat} {p : Nat} {c : Nat → Nat} {m : MS} {u : CS} (R : RP (some p) c m u) {v1 : Int32} {v5 : Int32} : RF 1 (some p) VE c u (fb_Ma_part_96 N () u 55 v1 v5) (hb_Ma_part_96 N () m p v1 v5) := by
  unfold fb_Ma_part_96 hb_Ma_part_96
  refine rf_bo (gR_M3 R) ?_
  refine rf_soP R.md (fun j6 h_j6 => ?_)
  refine rf_bo (gR_P2 R h_j6) ?_
  refine rf_br ?_ ?_
  · exact (yb_Ma_part_120 R ⟨_, h_j6.1, rfl, rfl⟩)
  · exact (yb_Ma_part_120 R ⟨_, h_j6.1, rfl, rfl⟩)
theorem yb_Ma_part_74 {N : Nat} {p : Nat} {c : Nat → Nat} {m : MS} {u : CS} (R : RP (some p) c m u) {v1 : Int32} {v5 : Int32} {t0 : Int32} {t1 : Int32} : RF 1 (some p) VE c u (fb_Ma_part_74 N () u 55 v1 v5 t0 t1) (hb_Ma_part_74 N () m p v1 v5 t0 t1) := by
  unfold fb_Ma_part_74 hb_Ma_part_74
  refine rf_br ?_ ?_
  · refine rf_br ?_ ?_
    · exact (yb_Ma_part_96 R)
    · refine rf_br ?_ ?_
      · exact (yb_Ma_part_96 R)
      · refine rf_bo (gR_M3 R) ?_
        refine rf_soP R.md (fun j9 h_j9 => ?_)
        refine rf_bo (gR_P2 R h_j9) ?_
        refine rf_so ?_
        refine rf_ai (aq_2 R h_j9.1) ?_
        refine rf_br ?_ ?_
        · refine rf_bx0 (rf_gz (ym_Te_make R) (by omega)) (fun u23' u23 r23 R_u23 => ?_)
          refine rf_gw ?_
          refine rf_ck (ox_55 R_u23) ?_
          refine rf_ck (all1 (okR_s R_u23 (by decide))) ?_
          refine rf_bx (rf_gw (ym_Ma_answer R_u23)) (by unfold zle; omega) (fun c_u24 u24' u24 r24 r24' R_u24 E_u24 v_u24 => ?_)
          cases v_u24
          refine rf_gw ?_
          exact rf_ret R_u24 rfl
        · refine rf_bo (gR_M4 R) ?_
          refine rf_soF R.md (fun j15 h_j15 => ?_)
          refine rf_ck (io_F R h_j15) ?_
          refine rf_bx0 (rf_gz (ym_Fr_below R h_j15) (by omega)) (fun u14' u14 r14 R_u14 => ?_)
          refine rf_gw ?_
          refine rf_bx0 (rf_gz (ym_Te_tag R_u14) (by omega)) (fun u16' u16 r16 R_u16 => ?_)
          refine rf_gw ?_
          refine rf_br ?_ ?_
          · refine rf_br ?_ ?_
            · exact (yb_Ma_part_189 R_u16)
            · refine rf_br ?_ ?_
              · refine rf_bo (gR_M3 R_u16) ?_
                refine rf_soP R_u16.md (fun j18 h_j18 => ?_)
                refine rf_bo (gR_P2 R_u16 h_j18) ?_
                refine rf_so ?_
                refine rf_ai (aq_2 R_u16 h_j18.1) ?_
                refine rf_ck (ox_55 R_u16) ?_
                refine rf_ck (all1 (okR_s R_u16 (by decide))) ?_
                refine rf_bx (rf_gw (ym_Ma_answer R_u16)) (by unfold zle; omega) (fun c_u22 u22' u22 r22 r22' R_u22 E_u22 v_u22 => ?_)
                cases v_u22
                refine rf_gw ?_
                exact rf_ret R_u22 rfl
              · exact (yb_Ma_part_189 R_u16)
          · exact (yb_Ma_part_189 R_u16)
  · refine rf_ck (ox_55 R) ?_
    refine rf_bx0 (rf_gz (ym_Ma_wrong R) (by omega)) (fun u25' u25 r25 R_u25 => ?_)
    refine rf_gw ?_
    exact rf_ret R_u25 rfl
theorem yb_Ma_part_68 {N : Nat} {p : Nat} {c : Nat → Nat} {m : MS} {u : CS} (R : RP (some p) c m u) {v1 : Int32} {v5 : Int32} {t0 : Int32} : RF 1 (some p) VE c u (fb_Ma_part_68 N () u 55 v1 v5 t0) (hb_Ma_part_68 N () m p v1 v5 t0) := by
  unfold fb_Ma_part_68 hb_Ma_part_68
  exact (yb_Ma_part_74 R)
theorem yb_Ma_part_53 {N : Nat} {p : Nat} {c : Nat → Nat} {m : MS} {u : CS} (R : RP (some p) c m u) : RF 1 (some p) VE c u (fb_Ma_part_53 N () u) (hb_Ma_part_53 N () m p) := by
  unfold fb_Ma_part_53 hb_Ma_part_53
  exact rf_ret R rfl
theorem yb_Ma_part_0 {N : Nat} {p : Nat} {c : Nat → Nat} {m : MS} {u : CS} (R : RP (some p) c m u) {v1 : Int32} {v2 : Int64} {v4 : Int32} : RF 1 (some p) VE c u (fb_Ma_part_0 N () u 55 v1 v2 v4) (hb_Ma_part_0 N () m p v1 v2 v4) := by
  unfold fb_Ma_part_0 hb_Ma_part_0
  refine rf_br ?_ ?_
  · refine rf_bo (rx_55_2 R) ?_
    refine rf_bo (gR_M3 R) ?_
    refine rf_soP R.md (fun j28 h_j28 => ?_)
    refine rf_bo (gR_P2 R h_j28) ?_
    refine rf_so ?_
    refine rf_ck (ox_43 R) ?_
    refine rf_bx0 (rf_gz (ym_Te_listLength R ⟨_, h_j28.1, rfl, rfl⟩) (by omega)) (fun u30' u30 r30 R_u30 => ?_)
    refine rf_gw ?_
    refine rf_br ?_ ?_
    · refine rf_ck (ox_55 R_u30) ?_
      refine rf_bx0 (rf_gz (ym_Ma_wrong R_u30) (by omega)) (fun u34' u34 r34 R_u34 => ?_)
      refine rf_gw ?_
      exact (yb_Ma_part_53 R_u34)
    · refine rf_bx0 (rf_gz (ym_Te_make R_u30) (by omega)) (fun u32' u32 r32 R_u32 => ?_)
      refine rf_gw ?_
      refine rf_ck (ox_55 R_u32) ?_
      refine rf_ck (all1 (okR_s R_u32 (by decide))) ?_
      refine rf_bx (rf_gw (ym_Ma_answer R_u32)) (by unfold zle; omega) (fun c_u33 u33' u33 r33 r33' R_u33 E_u33 v_u33 => ?_)
      cases v_u33
      refine rf_gw ?_
      exact (yb_Ma_part_53 R_u33)
  · refine rf_br ?_ ?_
    · exact (yb_Ma_part_68 R)
    · refine rf_br ?_ ?_
      · exact (yb_Ma_part_68 R)
      · exact (yb_Ma_part_74 R)
theorem ym_Ma_part {N : Nat} {p : Nat} {c : Nat → Nat} {m : MS} {u : CS} (R : RP (some p) c m u) {v1 : Int32} {v2 : Int64} {v4 : Int32} : RF 1 (some p) VE c u (fm_Ma_part N u 55 v1 v2 v4) (hm_Ma_part N m p v1 v2 v4) := yb_Ma_part_0 (N := N) R
theorem yb_Ma_test_229 {N : Nat} {p : Nat} {c : Nat → Nat} {m : MS} {u : CS} (R : RP (some p) c m u) : RF 1 (some p) VE c u (fb_Ma_test_229 N () u) (hb_Ma_test_229 N () m p) := by
  unfold fb_Ma_test_229 hb_Ma_test_229
  exact rf_ret R rfl
theorem yb_Ma_test_212 {N : Nat} {p : Nat} {c : Nat → Nat} {m : MS} {u : CS} (R : RP (some p) c m u) {t1 : Int32} {t2 : Int32} : RF 1 (some p) VE c u (fb_Ma_test_212 N () u 55 t1 t2) (hb_Ma_test_212 N () m p t1 t2) := by
  unfold fb_Ma_test_212 hb_Ma_test_212
  refine rf_bx0 (rf_gz (ym_Ma_truth R) (by omega)) (fun u1' u1 r1 R_u1 => ?_)
  refine rf_gw ?_
  refine rf_ck (ox_55 R_u1) ?_
  refine rf_bx (rf_gw (ym_Ma_answer R_u1)) (by unfold zle; omega) (fun c_u2 u2' u2 r2 r2' R_u2 E_u2 v_u2 => ?_)
  cases v_u2
  refine rf_gw ?_
  exact (yb_Ma_test_229 R_u2)
theorem yb_Ma_test_190 {N : Nat} {p : Nat} {c : Nat → Nat} {m : MS} {u : CS} (R : RP (some p) c m u) {t1 : Int32} {t2 : Int32} : RF 1 (some p) VE c u (fb_Ma_test_190 N () u 55 t1 t2) (hb_Ma_test_190 N () m p t1 t2) := by
  unfold fb_Ma_test_190 hb_Ma_test_190
  refine rf_bx0 (rf_gz (ym_Ma_truth R) (by omega)) (fun u3' u3 r3 R_u3 => ?_)
  refine rf_gw ?_
  refine rf_ck (ox_55 R_u3) ?_
  refine rf_bx (rf_gw (ym_Ma_answer R_u3)) (by unfold zle; omega) (fun c_u4 u4' u4 r4 r4' R_u4 E_u4 v_u4 => ?_)
  cases v_u4
  refine rf_gw ?_
  exact (yb_Ma_test_229 R_u4)
theorem yb_Ma_test_168 {N : Nat} {p : Nat} {c : Nat → Nat} {m : MS} {u : CS} (R : RP (some p) c m u) {t1 : Int32} {t2 : Int32} : RF 1 (some p) VE c u (fb_Ma_test_168 N () u 55 t1 t2) (hb_Ma_test_168 N () m p t1 t2) := by
  unfold fb_Ma_test_168 hb_Ma_test_168
  refine rf_bx0 (rf_gz (ym_Ma_truth R) (by omega)) (fun u5' u5 r5 R_u5 => ?_)
  refine rf_gw ?_
  refine rf_ck (ox_55 R_u5) ?_
  refine rf_bx (rf_gw (ym_Ma_answer R_u5)) (by unfold zle; omega) (fun c_u6 u6' u6 r6 r6' R_u6 E_u6 v_u6 => ?_)
  cases v_u6
  refine rf_gw ?_
  exact (yb_Ma_test_229 R_u6)
theorem yb_Ma_test_146 {N : Nat} {p : Nat} {c : Nat → Nat} {m : MS} {u : CS} (R : RP (some p) c m u) {t1 : Int32} {t2 : Int32} : RF 1 (some p) VE c u (fb_Ma_test_146 N () u 55 t1 t2) (hb_Ma_test_146 N () m p t1 t2) := by
  unfold fb_Ma_test_146 hb_Ma_test_146
  refine rf_bx0 (rf_gz (ym_Ma_truth R) (by omega)) (fun u7' u7 r7 R_u7 => ?_)
  refine rf_gw ?_
  refine rf_ck (ox_55 R_u7) ?_
  refine rf_bx (rf_gw (ym_Ma_answer R_u7)) (by unfold zle; omega) (fun c_u8 u8' u8 r8 r8' R_u8 E_u8 v_u8 => ?_)
  cases v_u8
  refine rf_gw ?_
  exact (yb_Ma_test_229 R_u8)
theorem yb_Ma_test_124 {N : Nat} {p : Nat} {c : Nat → Nat} {m : MS} {u : CS} (R : RP (some p) c m u) {t1 : Int32} {t2 : Int32} : RF 1 (some p) VE c u (fb_Ma_test_124 N () u 55 t1 t2) (hb_Ma_test_124 N () m p t1 t2) := by
  unfold fb_Ma_test_124 hb_Ma_test_124
  refine rf_bx0 (rf_gz (ym_Ma_truth R) (by omega)) (fun u9' u9 r9 R_u9 => ?_)
  refine rf_gw ?_
  refine rf_ck (ox_55 R_u9) ?_
  refine rf_bx (rf_gw (ym_Ma_answer R_u9)) (by unfold zle; omega) (fun c_u10 u10' u10 r10 r10' R_u10 E_u10 v_u10 => ?_)
  cases v_u10
  refine rf_gw ?_
  exact (yb_Ma_test_229 R_u10)
theorem yb_Ma_test_119 {N : Nat} {p : Nat} {c : Nat → Nat} {m : MS} {u : CS} (R : RP (some p) c m u) {t1 : Int32} : RF 1 (some p) VE c u (fb_Ma_test_119 N () u 55 t1) (hb_Ma_test_119 N () m p t1) := by
  unfold fb_Ma_test_119 hb_Ma_test_119
  exact (yb_Ma_test_124 R)
theorem yb_Ma_test_94 {N : Nat} {p : Nat} {c : Nat → Nat} {m : MS} {u : CS} (R : RP (some p) c m u) {t1 : Int32} {t2 : Int32} : RF 1 (some p) VE c u (fb_Ma_test_94 N () u 55 t1 t2) (hb_Ma_test_94 N () m p t1 t2) := by
  unfold fb_Ma_test_94 hb_Ma_test_94
  refine rf_bx0 (rf_gz (ym_Ma_truth R) (by omega)) (fun u11' u11 r11 R_u11 => ?_)
  refine rf_gw ?_
  refine rf_ck (ox_55 R_u11) ?_
  refine rf_bx (rf_gw (ym_Ma_answer R_u11)) (by unfold zle; omega) (fun c_u12 u12' u12 r12 r12' R_u12 E_u12 v_u12 => ?_)
  cases v_u12
  refine rf_gw ?_
  exact (yb_Ma_test_229 R_u12)
theorem yb_Ma_test_72 {N : Nat} {p : Nat} {c : Nat → Nat} {m : MS} {u : CS} (R : RP (some p) c m u) {t1 : Int32} {t2 : Int32} : RF 1 (some p) VE c u (fb_Ma_test_72 N () u 55 t1 t2) (hb_Ma_test_72 N () m p t1 t2) := by
  unfold fb_Ma_test_72 hb_Ma_test_72
  refine rf_bx0 (rf_gz (ym_Ma_truth R) (by omega)) (fun u13' u13 r13 R_u13 => ?_)
  refine rf_gw ?_
  refine rf_ck (ox_55 R_u13) ?_
  refine rf_bx (rf_gw (ym_Ma_answer R_u13)) (by unfold zle; omega) (fun c_u14 u14' u14 r14 r14' R_u14 E_u14 v_u14 => ?_)
  cases v_u14
  refine rf_gw ?_
  exact (yb_Ma_test_229 R_u14)
theorem yb_Ma_test_0 {N : Nat} {p : Nat} {c : Nat → Nat} {m : MS} {u : CS} (R : RP (some p) c m u) {v1 : Int32} : RF 1 (some p) VE c u (fb_Ma_test_0 N () u 55 v1) (hb_Ma_test_0 N () m p v1) := by
  unfold fb_Ma_test_0 hb_Ma_test_0
  refine rf_bo (gR_M4 R) ?_
  refine rf_soF R.md (fun j17 h_j17 => ?_)
  refine rf_ck (io_F R h_j17) ?_
  refine rf_bx0 (rf_gz (ym_Fr_below R h_j17) (by omega)) (fun u16' u16 r16 R_u16 => ?_)
  refine rf_gw ?_
  refine rf_bx0 (rf_gz (ym_Te_tag R_u16) (by omega)) (fun u18' u18 r18 R_u18 => ?_)
  refine rf_gw ?_
  refine rf_br ?_ ?_
  · refine rf_br ?_ ?_
    · exact (yb_Ma_test_72 R_u18)
    · exact (yb_Ma_test_72 R_u18)
  · refine rf_br ?_ ?_
    · refine rf_br ?_ ?_
      · exact (yb_Ma_test_94 R_u18)
      · exact (yb_Ma_test_94 R_u18)
    · refine rf_br ?_ ?_
      · refine rf_br ?_ ?_
        · exact (yb_Ma_test_119 R_u18)
        · refine rf_br ?_ ?_
          · exact (yb_Ma_test_119 R_u18)
          · exact (yb_Ma_test_124 R_u18)
      · refine rf_br ?_ ?_
        · refine rf_br ?_ ?_
          · exact (yb_Ma_test_146 R_u18)
          · exact (yb_Ma_test_146 R_u18)
        · refine rf_br ?_ ?_
          · refine rf_br ?_ ?_
            · exact (yb_Ma_test_168 R_u18)
            · exact (yb_Ma_test_168 R_u18)
          · refine rf_br ?_ ?_
            · refine rf_br ?_ ?_
              · exact (yb_Ma_test_190 R_u18)
              · exact (yb_Ma_test_190 R_u18)
            · refine rf_br ?_ ?_
              · refine rf_br ?_ ?_
                · exact (yb_Ma_test_212 R_u18)
                · exact (yb_Ma_test_212 R_u18)
              · refine rf_ck (ox_55 R_u18) ?_
                refine rf_ck (all1 (okR_s R_u18 (by decide))) ?_
                refine rf_bx (rf_gw (ym_Ma_part R_u18)) (by unfold zle; omega) (fun c_u19 u19' u19 r19 r19' R_u19 E_u19 v_u19 => ?_)
                cases v_u19
                refine rf_gw ?_
                exact (yb_Ma_test_229 R_u19)
theorem ym_Ma_test {N : Nat} {p : Nat} {c : Nat → Nat} {m : MS} {u : CS} (R : RP (some p) c m u) {v1 : Int32} : RF 1 (some p) VE c u (fm_Ma_test N u 55 v1) (hm_Ma_test N m p v1) := yb_Ma_test_0 (N := N) R
theorem yb_Ma_alone_309 {N : Nat} {p : Nat} {c : Nat → Nat} {m : MS} {u : CS} (R : RP (some p) c m u) : RF 1 (some p) VE c u (fb_Ma_alone_309 N () u) (hb_Ma_alone_309 N () m p) := by
  unfold fb_Ma_alone_309 hb_Ma_alone_309
  exact rf_ret R rfl
theorem yb_Ma_alone_216 {N : Nat} {p : Nat} {c : Nat → Nat} {m : MS} {u : CS} (R : RP (some p) c m u) {t0 : Nat} {t0' : Nat} {t1 : Int32} (h_t0 : PVn c t0 t0') : RF 1 (some p) VE c u (fb_Ma_alone_216 N () u (some t0) t1) (hb_Ma_alone_216 N () m p t0' t1) := by
  unfold fb_Ma_alone_216 hb_Ma_alone_216
  refine rf_so ?_
  refine rf_ckk ?_
  refine rf_w (wq_11 R h_t0) (fun w2' w2 R_w2 => ?_)
  exact (yb_Ma_alone_309 R_w2)
theorem yb_Ma_alone_183 {N : Nat} {p : Nat} {c : Nat → Nat} {m : MS} {u : CS} (R : RP (some p) c m u) {v2 : Int64} : RF 1 (some p) VE c u (fb_Ma_alone_183 N () u 55 v2) (hb_Ma_alone_183 N () m p v2) := by
  unfold fb_Ma_alone_183 hb_Ma_alone_183
  refine rf_bo (gR_M3 R) ?_
  refine rf_soP R.md (fun j4 h_j4 => ?_)
  refine rf_bo (gq_11 R h_j4) ?_
  refine rf_bx0 (rf_gz (ym_Ma_truth R) (by omega)) (fun u6' u6 r6 R_u6 => ?_)
  refine rf_gw ?_
  refine rf_ck (ox_55 R_u6) ?_
  refine rf_ck (all1 (okR_s R_u6 (by decide))) ?_
  refine rf_bx (rf_gw (ym_Ma_answer R_u6)) (by unfold zle; omega) (fun c_u7 u7' u7 r7 r7' R_u7 E_u7 v_u7 => ?_)
  cases v_u7
  refine rf_gw ?_
  refine rf_bo (gR_M3 R_u7) ?_
  refine rf_bx0 (rf_gz (ym_Ma_atom R_u7) (by omega)) (fun u9' u9 r9 R_u9 => ?_)
  refine rf_gw ?_
  refine rf_br ?_ ?_
  · exact (yb_Ma_alone_216 R_u9 ⟨R_u9.md, rfl⟩)
  · exact (yb_Ma_alone_216 R_u9 ⟨R_u9.md, rfl⟩)
theorem yb_Ma_alone_0 {N : Nat} {p : Nat} {c : Nat → Nat} {m : MS} {u : CS} (R : RP (some p) c m u) {v1 : Int32} : RF 1 (some p) VE c u (fb_Ma_alone_0 N () u 55 v1) (hb_Ma_alone_0 N () m p v1) := by
  unfold fb_Ma_alone_0 hb_Ma_alone_0
  refine rf_bo (gR_M4 R) ?_
  refine rf_soF R.md (fun j12 h_j12 => ?_)
  refine rf_ck (io_F R h_j12) ?_
  refine rf_bx0 (rf_gz (ym_Fr_below R h_j12) (by omega)) (fun u11' u11 r11 R_u11 => ?_)
  refine rf_gw ?_
  refine rf_br ?_ ?_
  · refine rf_bo (gR_M3 R_u11) ?_
    refine rf_soP R_u11.md (fun j14 h_j14 => ?_)
    refine rf_bo (gI_P0 R_u11 h_j14) ?_
    refine rf_bx0 (rf_gz (ym_Te_make R_u11) (by omega)) (fun u16' u16 r16 R_u16 => ?_)
    refine rf_gw ?_
    refine rf_ck (ox_55 R_u16) ?_
    refine rf_ck (all1 (okR_s R_u16 (by decide))) ?_
    refine rf_bx (rf_gw (ym_Ma_answer R_u16)) (by unfold zle; omega) (fun c_u17 u17' u17 r17 r17' R_u17 E_u17 v_u17 => ?_)
    cases v_u17
    refine rf_gw ?_
    exact (yb_Ma_alone_309 R_u17)
  · refine rf_br ?_ ?_
    · refine rf_ck (ox_55 R_u11) ?_
      refine rf_bx0 (rf_gz (ym_Ma_wrong R_u11) (by omega)) (fun u18' u18 r18 R_u18 => ?_)
      refine rf_gw ?_
      exact (yb_Ma_alone_309 R_u18)
    · refine rf_br ?_ ?_
      · refine rf_ck (ox_55 R_u11) ?_
        refine rf_bx0 (rf_gz (ym_Ma_wrong R_u11) (by omega)) (fun u19' u19 r19 R_u19 => ?_)
        refine rf_gw ?_
        exact (yb_Ma_alone_309 R_u19)
      · refine rf_br ?_ ?_
        · refine rf_ck (ox_55 R_u11) ?_
          refine rf_bx0 (rf_gz (ym_Ma_wrong R_u11) (by omega)) (fun u20' u20 r20 R_u20 => ?_)
          refine rf_gw ?_
          exact (yb_Ma_alone_309 R_u20)
        · refine rf_br ?_ ?_
          · refine rf_ck (ox_55 R_u11) ?_
            refine rf_bx0 (rf_gz (ym_Ma_wrong R_u11) (by omega)) (fun u21' u21 r21 R_u21 => ?_)
            refine rf_gw ?_
            exact (yb_Ma_alone_309 R_u21)
          · refine rf_br ?_ ?_
            · refine rf_bx0 (rf_gz (ym_Te_tag R_u11) (by omega)) (fun u22' u22 r22 R_u22 => ?_)
              refine rf_gw ?_
              refine rf_br ?_ ?_
              · refine rf_bo (rx_55_1 R_u22) ?_
                refine rf_bo (gR_M3 R_u22) ?_
                refine rf_soP R_u22.md (fun j25 h_j25 => ?_)
                refine rf_bo (gI_P0 R_u22 h_j25) ?_
                refine rf_so ?_
                refine rf_ck (ox_47 R_u22) ?_
                refine rf_bx0 (rf_gz (ym_Wl_removeWatch R_u22) (by omega)) (fun u27' u27 r27 R_u27 => ?_)
                refine rf_gw ?_
                refine rf_bx0 (rf_gz (ym_Ma_atom R_u27) (by omega)) (fun u29' u29 r29 R_u29 => ?_)
                refine rf_gw ?_
                refine rf_ck (ox_55 R_u29) ?_
                refine rf_ck (all1 (okR_s R_u29 (by decide))) ?_
                refine rf_bx (rf_gw (ym_Ma_answer R_u29)) (by unfold zle; omega) (fun c_u30 u30' u30 r30 r30' R_u30 E_u30 v_u30 => ?_)
                cases v_u30
                refine rf_gw ?_
                exact (yb_Ma_alone_309 R_u30)
              · refine rf_ck (ox_55 R_u22) ?_
                refine rf_bx0 (rf_gz (ym_Ma_wrong R_u22) (by omega)) (fun u31' u31 r31 R_u31 => ?_)
                refine rf_gw ?_
                exact (yb_Ma_alone_309 R_u31)
            · refine rf_br ?_ ?_
              · refine rf_bx0 (rf_gz (ym_Ma_atom R_u11) (by omega)) (fun u32' u32 r32 R_u32 => ?_)
                refine rf_gw ?_
                refine rf_br ?_ ?_
                · exact (yb_Ma_alone_183 R_u32)
                · refine rf_bx0 (rf_gz (ym_Ma_atom R_u32) (by omega)) (fun u33' u33 r33 R_u33 => ?_)
                  refine rf_gw ?_
                  refine rf_br ?_ ?_
                  · exact (yb_Ma_alone_183 R_u33)
                  · refine rf_ck (ox_55 R_u33) ?_
                    refine rf_bx0 (rf_gz (ym_Ma_wrong R_u33) (by omega)) (fun u34' u34 r34 R_u34 => ?_)
                    refine rf_gw ?_
                    exact (yb_Ma_alone_309 R_u34)
              · refine rf_br ?_ ?_
                · refine rf_ck (ox_55 R_u11) ?_
                  refine rf_bx0 (rf_gz (ym_Ma_tell R_u11) (by omega)) (fun u35' u35 r35 R_u35 => ?_)
                  refine rf_gw ?_
                  exact (yb_Ma_alone_309 R_u35)
                · refine rf_br ?_ ?_
                  · refine rf_ck (ox_55 R_u11) ?_
                    refine rf_bx0 (rf_gz (ym_Ma_tell R_u11) (by omega)) (fun u36' u36 r36 R_u36 => ?_)
                    refine rf_gw ?_
                    exact (yb_Ma_alone_309 R_u36)
                  · refine rf_br ?_ ?_
                    · refine rf_ck (ox_55 R_u11) ?_
                      refine rf_bx0 (rf_gz (ym_Ma_tell R_u11) (by omega)) (fun u37' u37 r37 R_u37 => ?_)
                      refine rf_gw ?_
                      exact (yb_Ma_alone_309 R_u37)
                    · refine rf_br ?_ ?_
                      · refine rf_ck (ox_55 R_u11) ?_
                        refine rf_bx0 (rf_gz (ym_Ma_wrong R_u11) (by omega)) (fun u38' u38 r38 R_u38 => ?_)
                        refine rf_gw ?_
                        exact (yb_Ma_alone_309 R_u38)
                      · refine rf_br ?_ ?_
                        · refine rf_bo (rx_55_1 R_u11) ?_
                          refine rf_so ?_
                          refine rf_bo (gx_47_5 R_u11) ?_
                          refine rf_bx0 (rf_gz (ym_Te_make R_u11) (by omega)) (fun u42' u42 r42 R_u42 => ?_)
                          refine rf_gw ?_
                          refine rf_ck (ox_55 R_u42) ?_
                          refine rf_ck (all1 (okR_s R_u42 (by decide))) ?_
                          refine rf_bx (rf_gw (ym_Ma_answer R_u42)) (by unfold zle; omega) (fun c_u43 u43' u43 r43 r43' R_u43 E_u43 v_u43 => ?_)
                          cases v_u43
                          refine rf_gw ?_
                          refine rf_bo (rx_55_1 R_u43) ?_
                          refine rf_so ?_
                          refine rf_bo (gx_47_5 R_u43) ?_
                          refine rf_w (px_47_5 R_u43) (fun w47' w47 R_w47 => ?_)
                          exact (yb_Ma_alone_309 R_w47)
                        · refine rf_br ?_ ?_
                          · refine rf_ck (ox_55 R_u11) ?_
                            refine rf_bx0 (rf_gz (ym_Ma_wrong R_u11) (by omega)) (fun u48' u48 r48 R_u48 => ?_)
                            refine rf_gw ?_
                            exact (yb_Ma_alone_309 R_u48)
                          · refine rf_br ?_ ?_
                            · refine rf_ck (ox_55 R_u11) ?_
                              refine rf_bx0 (rf_gz (ym_Ma_wrong R_u11) (by omega)) (fun u49' u49 r49 R_u49 => ?_)
                              refine rf_gw ?_
                              exact (yb_Ma_alone_309 R_u49)
                            · refine rf_br ?_ ?_
                              · refine rf_ck (ox_55 R_u11) ?_
                                refine rf_bx0 (rf_gz (ym_Ma_wrong R_u11) (by omega)) (fun u50' u50 r50 R_u50 => ?_)
                                refine rf_gw ?_
                                exact (yb_Ma_alone_309 R_u50)
                              · refine rf_br ?_ ?_
                                · refine rf_ck (ox_55 R_u11) ?_
                                  refine rf_bx0 (rf_gz (ym_Ma_wrong R_u11) (by omega)) (fun u51' u51 r51 R_u51 => ?_)
                                  refine rf_gw ?_
                                  exact (yb_Ma_alone_309 R_u51)
                                · refine rf_br ?_ ?_
                                  · refine rf_bo (rx_55_1 R_u11) ?_
                                    refine rf_so ?_
                                    refine rf_bo (gx_47_4 R_u11) ?_
                                    refine rf_bx0 (rf_gz (ym_Te_make R_u11) (by omega)) (fun u55' u55 r55 R_u55 => ?_)
                                    refine rf_gw ?_
                                    refine rf_ck (ox_55 R_u55) ?_
                                    refine rf_ck (all1 (okR_s R_u55 (by decide))) ?_
                                    refine rf_bx (rf_gw (ym_Ma_answer R_u55)) (by unfold zle; omega) (fun c_u56 u56' u56 r56 r56' R_u56 E_u56 v_u56 => ?_)
                                    cases v_u56
                                    refine rf_gw ?_
                                    exact (yb_Ma_alone_309 R_u56)
                                  · refine rf_ck (ox_55 R_u11) ?_
                                    refine rf_bx0 (rf_gz (ym_Ma_wrong R_u11) (by omega)) (fun u57' u57 r57 R_u57 => ?_)
                                    refine rf_gw ?_
                                    exact (yb_Ma_alone_309 R_u57)
theorem ym_Ma_alone {N : Nat} {p : Nat} {c : Nat → Nat} {m : MS} {u : CS} (R : RP (some p) c m u) {v1 : Int32} : RF 1 (some p) VE c u (fm_Ma_alone N u 55 v1) (hm_Ma_alone N m p v1) := yb_Ma_alone_0 (N := N) R
theorem yb_Ma_predefined_163 {N : Nat} {p : Nat} {c : Nat → Nat} {m : MS} {u : CS} (R : RP (some p) c m u) : RF 2 (some p) VE c u (fb_Ma_predefined_163 N () u) (hb_Ma_predefined_163 N () m p) := by
  unfold fb_Ma_predefined_163 hb_Ma_predefined_163
  exact rf_ret R rfl
theorem yb_Ma_predefined_146 {N : Nat} {p : Nat} {c : Nat → Nat} {m : MS} {u : CS} (R : RP (some p) c m u) : RF 2 (some p) VE c u (fb_Ma_predefined_146 N () u 55) (hb_Ma_predefined_146 N () m p) := by
  unfold fb_Ma_predefined_146 hb_Ma_predefined_146
  refine rf_bo (gx_55_9 R) ?_
  refine rf_br ?_ ?_
  · refine rf_bo (gx_55_5 R) ?_
    refine rf_w (px_55_5 R) (fun w3' w3 R_w3 => ?_)
    exact (yb_Ma_predefined_163 R_w3)
  · exact (yb_Ma_predefined_163 R)
theorem yb_Ma_predefined_141 {N : Nat} {p : Nat} {c : Nat → Nat} {m : MS} {u : CS} (R : RP (some p) c m u) {v1 : Int32} : RF 2 (some p) VE c u (fb_Ma_predefined_141 N () u 55 v1) (hb_Ma_predefined_141 N () m p v1) := by
  unfold fb_Ma_predefined_141 hb_Ma_predefined_141
  refine rf_ck (ox_55 R) ?_
  refine rf_ck (all1 (okR_s R (by decide))) ?_
  refine rf_bx (rf_gw (ym_Ma_alone R)) (by unfold zle; omega) (fun c_u4 u4' u4 r4 r4' R_u4 E_u4 v_u4 => ?_)
  cases v_u4
  refine rf_gw ?_
  exact (yb_Ma_predefined_146 R_u4)
theorem yb_Ma_predefined_0 {N : Nat} {p : Nat} {c : Nat → Nat} {m : MS} {u : CS} (R : RP (some p) c m u) {v1 : Int32} : RF 2 (some p) VE c u (fb_Ma_predefined_0 N () u 55 v1) (hb_Ma_predefined_0 N () m p v1) := by
  unfold fb_Ma_predefined_0 hb_Ma_predefined_0
  refine rf_br ?_ ?_
  · refine rf_ck (ox_55 R) ?_
    refine rf_ck (all1 (okR_s R (by decide))) ?_
    refine rf_bx (rf_gw (ym_Ma_spawn R)) (by unfold zle; omega) (fun c_u5 u5' u5 r5 r5' R_u5 E_u5 v_u5 => ?_)
    cases v_u5
    refine rf_gw ?_
    exact (yb_Ma_predefined_146 R_u5)
  · refine rf_br ?_ ?_
    · refine rf_br ?_ ?_
      · exact (yb_Ma_predefined_141 R)
      · refine rf_br ?_ ?_
        · exact (yb_Ma_predefined_141 R)
        · refine rf_ck (ox_55 R) ?_
          refine rf_ck (all1 (okR_s R (by decide))) ?_
          refine rf_bx (rf_gw (ym_Ma_test R)) (by unfold zle; omega) (fun c_u6 u6' u6 r6 r6' R_u6 E_u6 v_u6 => ?_)
          cases v_u6
          refine rf_gw ?_
          exact (yb_Ma_predefined_146 R_u6)
    · refine rf_br ?_ ?_
      · refine rf_br ?_ ?_
        · exact (yb_Ma_predefined_141 R)
        · refine rf_br ?_ ?_
          · exact (yb_Ma_predefined_141 R)
          · refine rf_ck (ox_55 R) ?_
            refine rf_ck (all1 (okR_s R (by decide))) ?_
            refine rf_bx (rf_gw (ym_Ma_test R)) (by unfold zle; omega) (fun c_u7 u7' u7 r7 r7' R_u7 E_u7 v_u7 => ?_)
            cases v_u7
            refine rf_gw ?_
            exact (yb_Ma_predefined_146 R_u7)
      · refine rf_br ?_ ?_
        · refine rf_br ?_ ?_
          · exact (yb_Ma_predefined_141 R)
          · refine rf_br ?_ ?_
            · exact (yb_Ma_predefined_141 R)
            · refine rf_ck (ox_55 R) ?_
              refine rf_ck (all1 (okR_s R (by decide))) ?_
              refine rf_bx (rf_gw (ym_Ma_test R)) (by unfold zle; omega) (fun c_u8 u8' u8 r8 r8' R_u8 E_u8 v_u8 => ?_)
              cases v_u8
              refine rf_gw ?_
              exact (yb_Ma_predefined_146 R_u8)
        · refine rf_br ?_ ?_
          · refine rf_br ?_ ?_
            · exact (yb_Ma_predefined_141 R)
            · refine rf_br ?_ ?_
              · exact (yb_Ma_predefined_141 R)
              · refine rf_ck (ox_55 R) ?_
                refine rf_ck (all1 (okR_s R (by decide))) ?_
                refine rf_bx (rf_gw (ym_Ma_test R)) (by unfold zle; omega) (fun c_u9 u9' u9 r9 r9' R_u9 E_u9 v_u9 => ?_)
                cases v_u9
                refine rf_gw ?_
                exact (yb_Ma_predefined_146 R_u9)
          · refine rf_br ?_ ?_
            · refine rf_br ?_ ?_
              · exact (yb_Ma_predefined_141 R)
              · refine rf_br ?_ ?_
                · exact (yb_Ma_predefined_141 R)
                · refine rf_ck (ox_55 R) ?_
                  refine rf_ck (all1 (okR_s R (by decide))) ?_
                  refine rf_bx (rf_gw (ym_Ma_test R)) (by unfold zle; omega) (fun c_u10 u10' u10 r10 r10' R_u10 E_u10 v_u10 => ?_)
                  cases v_u10
                  refine rf_gw ?_
                  exact (yb_Ma_predefined_146 R_u10)
            · refine rf_br ?_ ?_
              · refine rf_br ?_ ?_
                · exact (yb_Ma_predefined_141 R)
                · refine rf_br ?_ ?_
                  · exact (yb_Ma_predefined_141 R)
                  · refine rf_ck (ox_55 R) ?_
                    refine rf_ck (all1 (okR_s R (by decide))) ?_
                    refine rf_bx (rf_gw (ym_Ma_test R)) (by unfold zle; omega) (fun c_u11 u11' u11 r11 r11' R_u11 E_u11 v_u11 => ?_)
                    cases v_u11
                    refine rf_gw ?_
                    exact (yb_Ma_predefined_146 R_u11)
              · refine rf_br ?_ ?_
                · refine rf_br ?_ ?_
                  · exact (yb_Ma_predefined_141 R)
                  · refine rf_br ?_ ?_
                    · exact (yb_Ma_predefined_141 R)
                    · refine rf_ck (ox_55 R) ?_
                      refine rf_ck (all1 (okR_s R (by decide))) ?_
                      refine rf_bx (rf_gw (ym_Ma_test R)) (by unfold zle; omega) (fun c_u12 u12' u12 r12 r12' R_u12 E_u12 v_u12 => ?_)
                      cases v_u12
                      refine rf_gw ?_
                      exact (yb_Ma_predefined_146 R_u12)
                · refine rf_br ?_ ?_
                  · refine rf_br ?_ ?_
                    · exact (yb_Ma_predefined_141 R)
                    · refine rf_br ?_ ?_
                      · exact (yb_Ma_predefined_141 R)
                      · refine rf_ck (ox_55 R) ?_
                        refine rf_ck (all1 (okR_s R (by decide))) ?_
                        refine rf_bx (rf_gw (ym_Ma_test R)) (by unfold zle; omega) (fun c_u13 u13' u13 r13 r13' R_u13 E_u13 v_u13 => ?_)
                        cases v_u13
                        refine rf_gw ?_
                        exact (yb_Ma_predefined_146 R_u13)
                  · refine rf_br ?_ ?_
                    · refine rf_bo (rx_55_1 R) ?_
                      refine rf_bo (gR_M3 R) ?_
                      refine rf_soP R.md (fun j16 h_j16 => ?_)
                      refine rf_bo (gR_P2 R h_j16) ?_
                      refine rf_bo (gR_M4 R) ?_
                      refine rf_soF R.md (fun j20 h_j20 => ?_)
                      refine rf_ck (io_F R h_j20) ?_
                      refine rf_bx0 (rf_gz (ym_Fr_below R h_j20) (by omega)) (fun u19' u19 r19 R_u19 => ?_)
                      refine rf_gw ?_
                      refine rf_so ?_
                      refine rf_ck (ox_47 R_u19) ?_
                      refine rf_bx0 (rf_gz (ym_Wl_print R_u19 ⟨_, h_j16.1, rfl, rfl⟩) (by omega)) (fun u21' u21 r21 R_u21 => ?_)
                      refine rf_gw ?_
                      refine rf_bx0 (rf_gz (ym_Ma_atom R_u21) (by omega)) (fun u23' u23 r23 R_u23 => ?_)
                      refine rf_gw ?_
                      refine rf_ck (ox_55 R_u23) ?_
                      refine rf_ck (all1 (okR_s R_u23 (by decide))) ?_
                      refine rf_bx (rf_gw (ym_Ma_answer R_u23)) (by unfold zle; omega) (fun c_u24 u24' u24 r24 r24' R_u24 E_u24 v_u24 => ?_)
                      cases v_u24
                      refine rf_gw ?_
                      exact (yb_Ma_predefined_146 R_u24)
                    · refine rf_br ?_ ?_
                      · refine rf_br ?_ ?_
                        · exact (yb_Ma_predefined_141 R)
                        · refine rf_br ?_ ?_
                          · exact (yb_Ma_predefined_141 R)
                          · refine rf_ck (ox_55 R) ?_
                            refine rf_ck (all1 (okR_s R (by decide))) ?_
                            refine rf_bx (rf_gw (ym_Ma_test R)) (by unfold zle; omega) (fun c_u25 u25' u25 r25 r25' R_u25 E_u25 v_u25 => ?_)
                            cases v_u25
                            refine rf_gw ?_
                            exact (yb_Ma_predefined_146 R_u25)
                      · refine rf_br ?_ ?_
                        · refine rf_ck (ox_55 R) ?_
                          refine rf_ck (all1 (okR_s R (by decide))) ?_
                          refine rf_bx (rf_gw (ym_Ma_naming R)) (by unfold zle; omega) (fun c_u26 u26' u26 r26 r26' R_u26 E_u26 v_u26 => ?_)
                          cases v_u26
                          refine rf_gw ?_
                          exact (yb_Ma_predefined_146 R_u26)
                        · refine rf_br ?_ ?_
                          · refine rf_ck (ox_55 R) ?_
                            refine rf_ck (all1 (okR_s R (by decide))) ?_
                            refine rf_bx (rf_gw (ym_Ma_naming R)) (by unfold zle; omega) (fun c_u27 u27' u27 r27 r27' R_u27 E_u27 v_u27 => ?_)
                            cases v_u27
                            refine rf_gw ?_
                            exact (yb_Ma_predefined_146 R_u27)
                          · refine rf_br ?_ ?_
                            · refine rf_ck (ox_55 R) ?_
                              refine rf_ck (all1 (okR_s R (by decide))) ?_
                              refine rf_bx (rf_gw (ym_Ma_naming R)) (by unfold zle; omega) (fun c_u28 u28' u28 r28 r28' R_u28 E_u28 v_u28 => ?_)
                              cases v_u28
                              refine rf_gw ?_
                              exact (yb_Ma_predefined_146 R_u28)
                            · refine rf_br ?_ ?_
                              · exact (yb_Ma_predefined_141 R)
                              · refine rf_br ?_ ?_
                                · exact (yb_Ma_predefined_141 R)
                                · refine rf_ck (ox_55 R) ?_
                                  refine rf_ck (all1 (okR_s R (by decide))) ?_
                                  refine rf_bx (rf_gw (ym_Ma_test R)) (by unfold zle; omega) (fun c_u29 u29' u29 r29 r29' R_u29 E_u29 v_u29 => ?_)
                                  cases v_u29
                                  refine rf_gw ?_
                                  exact (yb_Ma_predefined_146 R_u29)
theorem ym_Ma_predefined {N : Nat} {p : Nat} {c : Nat → Nat} {m : MS} {u : CS} (R : RP (some p) c m u) {v1 : Int32} : RF 2 (some p) VE c u (fm_Ma_predefined N u 55 v1) (hm_Ma_predefined N m p v1) := yb_Ma_predefined_0 (N := N) R
end
section
set_option maxRecDepth 100000
theorem yb_Wl_post_193 {N : Nat} {o : Option Nat} {c : Nat → Nat} {m : MS} {u : CS} (R : RP o c m u) {v1 : Nat} {v1' : Nat} {v2 : Int32} {v3 : Int32} {v11 : Int32} {v12 : Int64} (h_v1 : PVn c v1 v1') : RF 3 o VE c u (fb_Wl_post_193 N () u (some v1) v2 v3 v11 v12) (hb_Wl_post_193 N () m v1' v2 v3 v11 v12) := by
  unfold fb_Wl_post_193 hb_Wl_post_193
  refine rf_so ?_
  refine rf_bo (gR_P2 R h_v1) ?_
  refine rf_bx0 (ym_Te_make R) (fun u3' u3 r3 R_u3 => ?_)
  refine rf_so ?_
  refine rf_wk (sq_2 R_u3 h_v1.1) (fun w5' w5 R_w5 => ?_)
  refine rf_so ?_
  refine rf_bo (gR_P2 R_w5 h_v1) ?_
  refine rf_so ?_
  refine rf_wk (sq_2 R_w5 h_v1.1) (fun w9' w9 R_w9 => ?_)
  refine rf_bx0 (ym_Te_make R_w9) (fun u10' u10 r10 R_u10 => ?_)
  refine rf_so ?_
  refine rf_ck (io_P R_u10 h_v1) ?_
  refine rf_bx0 (ym_Pr_comes R_u10 h_v1) (fun u11' u11 r11 R_u11 => ?_)
  exact rf_ret R_u11 rfl
theorem yb_Wl_post_169 {N : Nat} {o : Option Nat} {c : Nat → Nat} {m : MS} {u : CS} (R : RP o c m u) {v1 : Nat} {v1' : Nat} {v2 : Int32} {v3 : Int32} {v4 : Int32} {v11 : Int32} {v12 : Int64} {t0 : Nat} {t0' : Nat} {t1 : Int32} {t2 : Int32} {t3 : Int32} (h_v1 : PVn c v1 v1') (h_t0 : CVn c t0 t0') : RF 3 o VE c u (fb_Wl_post_169 N () u (some v1) v2 v3 v4 v11 v12 (some t0) t1 t2 t3) (hb_Wl_post_169 N () m v1' v2 v3 v4 v11 v12 t0' t1 t2 t3) := by
  unfold fb_Wl_post_169 hb_Wl_post_169
  refine rf_bx0 (ym_Te_make R) (fun u13' u13 r13 R_u13 => ?_)
  refine rf_so ?_
  refine rf_wk (sq_C R_u13 h_t0) (fun w15' w15 R_w15 => ?_)
  refine rf_br ?_ ?_
  · refine rf_so ?_
    refine rf_bo (gR_P2 R_w15 h_v1) ?_
    refine rf_bx0 (ym_Te_make R_w15) (fun u18' u18 r18 R_u18 => ?_)
    refine rf_so ?_
    refine rf_wk (sq_2 R_u18 h_v1.1) (fun w20' w20 R_w20 => ?_)
    exact (yb_Wl_post_193 R_w20 h_v1)
  · exact (yb_Wl_post_193 R_w15 h_v1)
theorem yb_Wl_post_120 {N : Nat} {o : Option Nat} {c : Nat → Nat} {m : MS} {u : CS} (R : RP o c m u) {v1 : Nat} {v1' : Nat} {v2 : Int32} {v3 : Int32} {v4 : Int32} {v11 : Int32} {t0 : Int64} (h_v1 : PVn c v1 v1') : RF 3 o VE c u (fb_Wl_post_120 N () u (some v1) v2 v3 v4 v11 t0) (hb_Wl_post_120 N () m v1' v2 v3 v4 v11 t0) := by
  unfold fb_Wl_post_120 hb_Wl_post_120
  refine rf_br ?_ ?_
  · refine rf_so ?_
    refine rf_ck (io_P R h_v1) ?_
    refine rf_bx0 (ym_Pr_comes R h_v1) (fun u28' u28 r28 R_u28 => ?_)
    exact rf_ret R_u28 rfl
  · refine rf_so ?_
    refine rf_bo (gR_P2 R h_v1) ?_
    refine rf_bx0 (ym_Te_make R) (fun u23' u23 r23 R_u23 => ?_)
    refine rf_so ?_
    refine rf_wk (sq_2 R_u23 h_v1.1) (fun w25' w25 R_w25 => ?_)
    refine rf_so ?_
    refine rf_bo (gR_P2 R_w25 h_v1) ?_
    refine rf_br ?_ ?_
    · exact (yb_Wl_post_169 R_w25 h_v1 ⟨_, h_v1.1, rfl, rfl⟩)
    · exact (yb_Wl_post_169 R_w25 h_v1 ⟨_, h_v1.1, rfl, rfl⟩)
theorem yb_Wl_post_81 {N : Nat} {o : Option Nat} {c : Nat → Nat} {m : MS} {u : CS} (R : RP o c m u) {v1 : Nat} {v1' : Nat} {v2 : Int32} {v3 : Int32} {v4 : Int32} {v7 : Option Nat} {v7' : Option Nat} {t0 : Int64} (h_v1 : PVn c v1 v1') (h_v7 : PVo c v7 v7') : RF 3 o VE c u (fb_Wl_post_81 N () u (some v1) v2 v3 v4 v7 t0) (hb_Wl_post_81 N () m v1' v2 v3 v4 v7' t0) := by
  unfold fb_Wl_post_81 hb_Wl_post_81
  refine rf_so ?_
  refine rf_bo (gq_4 R h_v1) ?_
  refine rf_so ?_
  refine rf_bo (gq_4 R h_v1) ?_
  refine rf_w (wq_4 R h_v1) (fun w34' w34 R_w34 => ?_)
  refine rf_br2 (PV_n h_v7) ?_ ?_
  · exact (yb_Wl_post_120 R_w34 h_v1)
  · refine rf_boQ h_v7 (fun j35 j35' e1_j35 e2_j35 h_j35 => ?_)
    subst e1_j35
    refine rf_so ?_
    refine rf_bo (gR_P2 R_w34 h_j35) ?_
    refine rf_so ?_
    refine rf_ck (io_P R_w34 h_v1) ?_
    refine rf_bx0 (ym_Pr_copyIn R_w34 h_v1 ⟨_, h_j35.1, rfl, rfl⟩) (fun u37' u37 r37 R_u37 => ?_)
    exact (yb_Wl_post_120 R_u37 h_v1)
theorem yb_Wl_post_41 {N : Nat} {o : Option Nat} {c : Nat → Nat} {m : MS} {u : CS} (R : RP o c m u) {v1 : Nat} {v1' : Nat} {v2 : Int32} {v3 : Int32} {v4 : Int32} {v5 : Int64} {v7 : Option Nat} {v7' : Option Nat} {t0 : Int32} (h_v1 : PVn c v1 v1') (h_v7 : PVo c v7 v7') : RF 3 o VE c u (fb_Wl_post_41 N () u 47 (some v1) v2 v3 v4 v5 v7 t0) (hb_Wl_post_41 N () m v1' v2 v3 v4 v5 v7' t0) := by
  unfold fb_Wl_post_41 hb_Wl_post_41
  refine rf_so ?_
  refine rf_ck (io_P R h_v1) ?_
  refine rf_bx (ym_Pr_want R h_v1) (by unfold zle; omega) (fun c_u39 u39' u39 r39 r39' R_u39 E_u39 v_u39 => ?_)
  cases v_u39
  replace h_v1 := E_u39.P h_v1
  replace h_v7 := E_u39.Po h_v7
  refine rf_br ?_ ?_
  · refine rf_ck (ox_47 R_u39) ?_
    refine rf_bx0 (ym_Wl_endsBy R_u39 h_v1) (fun u45' u45 r45 R_u45 => ?_)
    exact rf_ret R_u45 rfl
  · refine rf_ck (okR_Po R_u39 h_v7) ?_
    refine rf_ck (okR_P R_u39 h_v1) ?_
    refine rf_br2 (PV_e R_u39 h_v7 (PV_j h_v1)) ?_ ?_
    · refine rf_so ?_
      refine rf_bo (gR_P1 R_u39 h_v1) ?_
      refine rf_soF h_v1.1 (fun j44 h_j44 => ?_)
      refine rf_ck (io_F R_u39 h_j44) ?_
      refine rf_bx0 (ym_Fr_below R_u39 h_j44) (fun u43' u43 r43 R_u43 => ?_)
      exact (yb_Wl_post_81 R_u43 h_v1 h_v7)
    · exact (yb_Wl_post_81 R_u39 h_v1 h_v7)
theorem yb_Wl_post_17 {N : Nat} {o : Option Nat} {c : Nat → Nat} {m : MS} {u : CS} (R : RP o c m u) : RF 3 o VE c u (fb_Wl_post_17 N () u) (hb_Wl_post_17 N () m) := by
  unfold fb_Wl_post_17 hb_Wl_post_17
  exact rf_ret R rfl
theorem yb_Wl_post_0 {N : Nat} {o : Option Nat} {c : Nat → Nat} {m : MS} {u : CS} (R : RP o c m u) {v1 : Nat} {v1' : Nat} {v2 : Int32} {v3 : Int32} {v4 : Int32} {v5 : Int64} {v7 : Option Nat} {v7' : Option Nat} (h_v1 : PVn c v1 v1') (h_v7 : PVo c v7 v7') : RF 3 o VE c u (fb_Wl_post_0 N () u 47 (some v1) v2 v3 v4 v5 v7) (hb_Wl_post_0 N () m v1' v2 v3 v4 v5 v7') := by
  unfold fb_Wl_post_0 hb_Wl_post_0
  refine rf_so ?_
  refine rf_bo (gq_9 R h_v1) ?_
  refine rf_br ?_ ?_
  · exact (yb_Wl_post_17 R)
  · refine rf_so ?_
    refine rf_bo (gq_7 R h_v1) ?_
    refine rf_br ?_ ?_
    · refine rf_br2 (PV_n h_v7) ?_ ?_
      · exact (yb_Wl_post_41 R h_v1 h_v7)
      · refine rf_bo (rx_47_0 R) ?_
        refine rf_boQ h_v7 (fun j51 j51' e1_j51 e2_j51 h_j51 => ?_)
        subst e1_j51
        refine rf_so ?_
        refine rf_bo (gR_P2 R h_j51) ?_
        refine rf_so ?_
        refine rf_ck (ox_43 R) ?_
        refine rf_bx0 (ym_Te_size R ⟨_, h_j51.1, rfl, rfl⟩) (fun u53' u53 r53 R_u53 => ?_)
        exact (yb_Wl_post_41 R_u53 h_v1 (PV_j h_j51))
    · exact (yb_Wl_post_17 R)
theorem ym_Wl_post {N : Nat} {o : Option Nat} {c : Nat → Nat} {m : MS} {u : CS} (R : RP o c m u) {v1 : Nat} {v1' : Nat} {v2 : Int32} {v3 : Int32} {v4 : Int32} {v5 : Int64} {v7 : Option Nat} {v7' : Option Nat} (h_v1 : PVn c v1 v1') (h_v7 : PVo c v7 v7') : RF 3 o VE c u (fm_Wl_post N u 47 (some v1) v2 v3 v4 v5 v7) (hm_Wl_post N m v1' v2 v3 v4 v5 v7') := yb_Wl_post_0 (N := N) R h_v1 h_v7
theorem yb_Wl_signal_121 {N : Nat} {o : Option Nat} {c : Nat → Nat} {m : MS} {u : CS} (R : RP o c m u) : RF 3 o VE c u (fb_Wl_signal_121 N () u) (hb_Wl_signal_121 N () m) := by
  unfold fb_Wl_signal_121 hb_Wl_signal_121
  exact rf_ret R rfl
theorem yb_Wl_signal_70 {N : Nat} {o : Option Nat} {c : Nat → Nat} {m : MS} {u : CS} (R : RP o c m u) {v2 : Nat} {v2' : Nat} {v3 : Int64} (h_v2 : PVn c v2 v2') : RF 3 o VE c u (fb_Wl_signal_70 N () u 47 (some v2) v3) (hb_Wl_signal_70 N () m v2' v3) := by
  unfold fb_Wl_signal_70 hb_Wl_signal_70
  refine rf_ck (ox_47 R) ?_
  refine rf_bx0 (ym_Wl_endsWith R h_v2 h_v2) (fun u1' u1 r1 R_u1 => ?_)
  exact (yb_Wl_signal_121 R_u1)
theorem yb_Wl_signal_59 {N : Nat} {o : Option Nat} {c : Nat → Nat} {m : MS} {u : CS} (R : RP o c m u) {v2 : Nat} {v2' : Nat} {v3 : Int64} {v5 : Option Nat} {v5' : Option Nat} (h_v2 : PVn c v2 v2') (h_v5 : PVo c v5 v5') : RF 3 o VE c u (fb_Wl_signal_59 N () u 47 (some v2) v3 v5) (hb_Wl_signal_59 N () m v2' v3 v5') := by
  unfold fb_Wl_signal_59 hb_Wl_signal_59
  refine rf_br2 (PV_n h_v5) ?_ ?_
  · exact (yb_Wl_signal_70 R h_v2)
  · refine rf_ck (okR_Po R h_v5) ?_
    refine rf_ck (okR_P R h_v2) ?_
    refine rf_br2 (PV_e R h_v5 (PV_j h_v2)) ?_ ?_
    · exact (yb_Wl_signal_70 R h_v2)
    · refine rf_boQ h_v5 (fun j2 j2' e1_j2 e2_j2 h_j2 => ?_)
      subst e1_j2
      refine rf_so ?_
      refine rf_bo (gq_9 R h_j2) ?_
      refine rf_br ?_ ?_
      · refine rf_ck (ox_47 R) ?_
        refine rf_bx0 (ym_Wl_endsWith R h_v2 h_j2) (fun u11' u11 r11 R_u11 => ?_)
        exact (yb_Wl_signal_121 R_u11)
      · refine rf_so ?_
        refine rf_w (wq_4 R h_v2) (fun w5' w5 R_w5 => ?_)
        refine rf_so ?_
        refine rf_bo (gR_P2 R_w5 h_j2) ?_
        refine rf_so ?_
        refine rf_ck (io_P R_w5 h_v2) ?_
        refine rf_bx0 (ym_Pr_copyIn R_w5 h_v2 ⟨_, h_j2.1, rfl, rfl⟩) (fun u8' u8 r8 R_u8 => ?_)
        refine rf_ck (ox_47 R_u8) ?_
        refine rf_bx0 (ym_Wl_endsWith R_u8 h_v2 h_v2) (fun u10' u10 r10 R_u10 => ?_)
        exact (yb_Wl_signal_121 R_u10)
theorem yb_Wl_signal_43 {N : Nat} {o : Option Nat} {c : Nat → Nat} {m : MS} {u : CS} (R : RP o c m u) {v1 : Int32} {v2 : Nat} {v2' : Nat} {v3 : Int64} {v5 : Option Nat} {v5' : Option Nat} {t0 : Int32} (h_v2 : PVn c v2 v2') (h_v5 : PVo c v5 v5') : RF 3 o VE c u (fb_Wl_signal_43 N () u 47 v1 (some v2) v3 v5 t0) (hb_Wl_signal_43 N () m v1 v2' v3 v5' t0) := by
  unfold fb_Wl_signal_43 hb_Wl_signal_43
  refine rf_br ?_ ?_
  · exact (yb_Wl_signal_59 R h_v2 h_v5)
  · refine rf_so ?_
    refine rf_bo (gI_P0 R h_v2) ?_
    refine rf_br ?_ ?_
    · exact (yb_Wl_signal_59 R h_v2 h_v5)
    · exact rf_ret R rfl
theorem yb_Wl_signal_0 {N : Nat} {o : Option Nat} {c : Nat → Nat} {m : MS} {u : CS} (R : RP o c m u) {v1 : Int32} {v2 : Nat} {v2' : Nat} {v3 : Int64} {v5 : Option Nat} {v5' : Option Nat} (h_v2 : PVn c v2 v2') (h_v5 : PVo c v5 v5') : RF 3 o VE c u (fb_Wl_signal_0 N () u 47 v1 (some v2) v3 v5) (hb_Wl_signal_0 N () m v1 v2' v3 v5') := by
  unfold fb_Wl_signal_0 hb_Wl_signal_0
  refine rf_so ?_
  refine rf_bo (gq_9 R h_v2) ?_
  refine rf_br ?_ ?_
  · exact rf_ret R rfl
  · refine rf_so ?_
    refine rf_bo (gq_11 R h_v2) ?_
    refine rf_br ?_ ?_
    · refine rf_bx0 (ym_Te_make R) (fun u18' u18 r18 R_u18 => ?_)
      refine rf_br ?_ ?_
      · exact (yb_Wl_signal_43 R_u18 h_v2 h_v5)
      · exact (yb_Wl_signal_43 R_u18 h_v2 h_v5)
    · refine rf_ck (ox_47 R) ?_
      refine rf_bx (ym_Wl_post R h_v2 h_v5) (by unfold zle; omega) (fun c_u19 u19' u19 r19 r19' R_u19 E_u19 v_u19 => ?_)
      cases v_u19
      exact rf_ret R_u19 rfl
theorem ym_Wl_signal {N : Nat} {o : Option Nat} {c : Nat → Nat} {m : MS} {u : CS} (R : RP o c m u) {v1 : Int32} {v2 : Nat} {v2' : Nat} {v3 : Int64} {v5 : Option Nat} {v5' : Option Nat} (h_v2 : PVn c v2 v2') (h_v5 : PVo c v5 v5') : RF 3 o VE c u (fm_Wl_signal N u 47 v1 (some v2) v3 v5) (hm_Wl_signal N m v1 v2' v3 v5') := yb_Wl_signal_0 (N := N) R h_v2 h_v5
theorem yb_Pr_removeLink_44 {N : Nat} {o : Option Nat} {c : Nat → Nat} {m : MS} {u : CS} (R : RP o c m u) : RF 0 o VE c u (fb_Pr_removeLink_44 N () u) (hb_Pr_removeLink_44 N () m) := by
  unfold fb_Pr_removeLink_44 hb_Pr_removeLink_44
  exact rf_ret R rfl
theorem yb_Pr_removeLink_0 {N : Nat} {o : Option Nat} {c : Nat → Nat} {m : MS} {u : CS} (R : RP o c m u) {v0 : Nat} {v0' : Nat} {v1 : Int32} (h_v0 : PVn c v0 v0') : RF 0 o VE c u (fb_Pr_removeLink_0 N () u v0 v1) (hb_Pr_removeLink_0 N () m v0' v1) := by
  unfold fb_Pr_removeLink_0 hb_Pr_removeLink_0
  refine rf_ck (io_P R h_v0) ?_
  refine rf_bx0 (ym_Pr_seekLink R h_v0) (fun u1' u1 r1 R_u1 => ?_)
  refine rf_br ?_ ?_
  · exact (yb_Pr_removeLink_44 R_u1)
  · refine rf_bo (gR_P14 R_u1 h_v0) ?_
    refine rf_bo (gR_P14 R_u1 h_v0) ?_
    refine rf_bo (gq_15 R_u1 h_v0) ?_
    refine rf_so ?_
    refine rf_so ?_
    refine rf_wk (cq_14 R_u1 h_v0.1) (fun w7' w7 R_w7 => ?_)
    refine rf_bo (gq_15 R_w7 h_v0) ?_
    refine rf_w (wq_15 R_w7 h_v0) (fun w9' w9 R_w9 => ?_)
    exact (yb_Pr_removeLink_44 R_w9)
theorem ym_Pr_removeLink {N : Nat} {o : Option Nat} {c : Nat → Nat} {m : MS} {u : CS} (R : RP o c m u) {v0 : Nat} {v0' : Nat} {v1 : Int32} (h_v0 : PVn c v0 v0') : RF 0 o VE c u (fm_Pr_removeLink N u v0 v1) (hm_Pr_removeLink N m v0' v1) := yb_Pr_removeLink_0 (N := N) R h_v0
theorem yb_Ma_watch_81 {N : Nat} {p : Nat} {c : Nat → Nat} {m : MS} {u : CS} (R : RP (some p) c m u) {v2 : Int32} : RF 3 (some p) VE c u (fb_Ma_watch_81 N () u v2) (hb_Ma_watch_81 N () m p v2) := by
  unfold fb_Ma_watch_81 hb_Ma_watch_81
  refine rf_bx0 (ym_Te_make R) (fun u1' u1 r1 R_u1 => ?_)
  exact rf_ret R_u1 rfl
theorem yb_Ma_watch_0 {N : Nat} {p : Nat} {c : Nat → Nat} {m : MS} {u : CS} (R : RP (some p) c m u) {v1 : Nat} {v1' : Nat} (h_v1 : PVn c v1 v1') : RF 3 (some p) VE c u (fb_Ma_watch_0 N () u 55 (some v1)) (hb_Ma_watch_0 N () m p v1') := by
  unfold fb_Ma_watch_0 hb_Ma_watch_0
  refine rf_bo (rx_55_1 R) ?_
  refine rf_so ?_
  refine rf_bo (gx_47_5 R) ?_
  refine rf_bo (rx_55_1 R) ?_
  refine rf_so ?_
  refine rf_bo (gx_47_5 R) ?_
  refine rf_w (px_47_5 R) (fun w8' w8 R_w8 => ?_)
  refine rf_so ?_
  refine rf_bo (gq_9 R_w8 h_v1) ?_
  refine rf_br ?_ ?_
  · refine rf_bo (rx_55_1 R_w8) ?_
    refine rf_bo (gR_M3 R_w8) ?_
    refine rf_so ?_
    refine rf_bo (gI_P0 R_w8 h_v1) ?_
    refine rf_bx0 (ym_Ma_atom R_w8) (fun u24' u24 r24 R_u24 => ?_)
    refine rf_so ?_
    refine rf_ck (ox_47 R_u24) ?_
    refine rf_bx (ym_Wl_post R_u24 ⟨R_u24.md, rfl⟩ PV_0) (by unfold zle; omega) (fun c_u25 u25' u25 r25 r25' R_u25 E_u25 v_u25 => ?_)
    cases v_u25
    exact (yb_Ma_watch_81 R_u25)
  · refine rf_bo (gR_M3 R_w8) ?_
    refine rf_ck (okR_P R_w8 h_v1) ?_
    refine rf_ck (okR_r R_w8 R_w8.md isR0) ?_
    refine rf_br2 (PV_e R_w8 (PV_j h_v1) (PV_s R_w8.md)) ?_ ?_
    · exact (yb_Ma_watch_81 R_w8)
    · refine rf_bo (rx_55_1 R_w8) ?_
      refine rf_bo (gR_M3 R_w8) ?_
      refine rf_soP R_w8.md (fun j14 h_j14 => ?_)
      refine rf_bo (gI_P0 R_w8 h_j14) ?_
      refine rf_so ?_
      refine rf_bo (gI_P0 R_w8 h_v1) ?_
      refine rf_so ?_
      refine rf_ck (ox_47 R_w8) ?_
      refine rf_bx0 (ym_Wl_addWatch R_w8) (fun u18' u18 r18 R_u18 => ?_)
      exact (yb_Ma_watch_81 R_u18)
theorem ym_Ma_watch {N : Nat} {p : Nat} {c : Nat → Nat} {m : MS} {u : CS} (R : RP (some p) c m u) {v1 : Nat} {v1' : Nat} (h_v1 : PVn c v1 v1') : RF 3 (some p) VE c u (fm_Ma_watch N u 55 (some v1)) (hm_Ma_watch N m p v1') := yb_Ma_watch_0 (N := N) R h_v1
theorem yb_Ma_toward_335 {N : Nat} {p : Nat} {c : Nat → Nat} {m : MS} {u : CS} (R : RP (some p) c m u) {v2 : Int32} {v5 : Int64} : RF 2 (some p) VE c u (fb_Ma_toward_335 N () u 55 v2 v5) (hb_Ma_toward_335 N () m p v2 v5) := by
  unfold fb_Ma_toward_335 hb_Ma_toward_335
  refine rf_ck (ox_55 R) ?_
  refine rf_ck (all1 (okR_s R (by decide))) ?_
  refine rf_bx (rf_gw (ym_Ma_answer R)) (by unfold zle; omega) (fun c_u1 u1' u1 r1 r1' R_u1 E_u1 v_u1 => ?_)
  cases v_u1
  refine rf_gw ?_
  refine rf_bo (gx_55_5 R_u1) ?_
  refine rf_w (px_55_5 R_u1) (fun w3' w3 R_w3 => ?_)
  exact rf_ret R_w3 rfl
theorem yb_Ma_toward_330 {N : Nat} {p : Nat} {c : Nat → Nat} {m : MS} {u : CS} (R : RP (some p) c m u) {v2 : Int32} {t0 : Int32} : RF 2 (some p) VE c u (fb_Ma_toward_330 N () u 55 v2 t0) (hb_Ma_toward_330 N () m p v2 t0) := by
  unfold fb_Ma_toward_330 hb_Ma_toward_330
  refine rf_bx0 (rf_gz (ym_Ma_truth R) (by omega)) (fun u4' u4 r4 R_u4 => ?_)
  refine rf_gw ?_
  exact (yb_Ma_toward_335 R_u4)
theorem yb_Ma_toward_95 {N : Nat} {p : Nat} {c : Nat → Nat} {m : MS} {u : CS} (R : RP (some p) c m u) {v1 : Int32} {v2 : Int32} {v3 : Option Nat} {v3' : Option Nat} (h_v3 : PVo c v3 v3') : RF 2 (some p) VE c u (fb_Ma_toward_95 N () u 55 v1 v2 v3) (hb_Ma_toward_95 N () m p v1 v2 v3') := by
  unfold fb_Ma_toward_95 hb_Ma_toward_95
  refine rf_bx0 (rf_gz (ym_Ma_atom R) (by omega)) (fun u5' u5 r5 R_u5 => ?_)
  refine rf_gw ?_
  refine rf_br ?_ ?_
  · refine rf_boQ h_v3 (fun j6 j6' e1_j6 e2_j6 h_j6 => ?_)
    subst e1_j6
    refine rf_so ?_
    refine rf_bo (gq_9 R_u5 h_j6) ?_
    refine rf_br ?_ ?_
    · refine rf_bo (rx_55_1 R_u5) ?_
      refine rf_so ?_
      refine rf_bo (gI_P0 R_u5 h_j6) ?_
      refine rf_bo (gR_M3 R_u5) ?_
      refine rf_bx0 (rf_gz (ym_Ma_atom R_u5) (by omega)) (fun u28' u28 r28 R_u28 => ?_)
      refine rf_gw ?_
      refine rf_so ?_
      refine rf_ck (ox_47 R_u28) ?_
      refine rf_bx (rf_gz (ym_Wl_signal R_u28 ⟨R_u28.md, rfl⟩ PV_0) (by omega)) (by unfold zle; omega) (fun c_u29 u29' u29 r29 r29' R_u29 E_u29 v_u29 => ?_)
      cases v_u29
      refine rf_gw ?_
      exact (yb_Ma_toward_335 R_u29)
    · refine rf_bo (gR_M3 R_u5) ?_
      refine rf_ck (okR_P R_u5 h_j6) ?_
      refine rf_ck (okR_r R_u5 R_u5.md isR0) ?_
      refine rf_br2 (PV_e R_u5 (PV_j h_j6) (PV_s R_u5.md)) ?_ ?_
      · exact (yb_Ma_toward_335 R_u5)
      · refine rf_bo (gR_M3 R_u5) ?_
        refine rf_so ?_
        refine rf_bo (gI_P0 R_u5 h_j6) ?_
        refine rf_soP R_u5.md (fun j13 h_j13 => ?_)
        refine rf_ck (io_P R_u5 h_j13) ?_
        refine rf_bx0 (rf_gz (ym_Pr_seekLink R_u5 h_j13) (by omega)) (fun u12' u12 r12 R_u12 => ?_)
        refine rf_gw ?_
        refine rf_br ?_ ?_
        · refine rf_bo (gR_M3 R_u12) ?_
          refine rf_so ?_
          refine rf_bo (gI_P0 R_u12 h_j6) ?_
          refine rf_soP R_u12.md (fun j18 h_j18 => ?_)
          refine rf_ck (io_P R_u12 h_j18) ?_
          refine rf_bx0 (rf_gz (ym_Pr_addLink R_u12 h_j18) (by omega)) (fun u17' u17 r17 R_u17 => ?_)
          refine rf_gw ?_
          refine rf_bo (gR_M3 R_u17) ?_
          refine rf_soP R_u17.md (fun j20 h_j20 => ?_)
          refine rf_bo (gI_P0 R_u17 h_j20) ?_
          refine rf_so ?_
          refine rf_ck (io_P R_u17 h_j6) ?_
          refine rf_bx0 (rf_gz (ym_Pr_addLink R_u17 h_j6) (by omega)) (fun u22' u22 r22 R_u22 => ?_)
          refine rf_gw ?_
          exact (yb_Ma_toward_335 R_u22)
        · exact (yb_Ma_toward_335 R_u12)
  · refine rf_br ?_ ?_
    · refine rf_bo (gR_M3 R_u5) ?_
      refine rf_boQ h_v3 (fun j32 j32' e1_j32 e2_j32 h_j32 => ?_)
      subst e1_j32
      refine rf_so ?_
      refine rf_bo (gI_P0 R_u5 h_j32) ?_
      refine rf_soP R_u5.md (fun j35 h_j35 => ?_)
      refine rf_ck (io_P R_u5 h_j35) ?_
      refine rf_bx0 (rf_gz (ym_Pr_removeLink R_u5 h_j35) (by omega)) (fun u34' u34 r34 R_u34 => ?_)
      refine rf_gw ?_
      refine rf_bo (gR_M3 R_u34) ?_
      refine rf_soP R_u34.md (fun j37 h_j37 => ?_)
      refine rf_bo (gI_P0 R_u34 h_j37) ?_
      refine rf_so ?_
      refine rf_ck (io_P R_u34 h_j32) ?_
      refine rf_bx0 (rf_gz (ym_Pr_removeLink R_u34 h_j32) (by omega)) (fun u39' u39 r39 R_u39 => ?_)
      refine rf_gw ?_
      exact (yb_Ma_toward_335 R_u39)
    · refine rf_br ?_ ?_
      · refine rf_ck (ox_55 R_u5) ?_
        refine rf_opt h_v3 (fun v3_j v3_q e1_v3 e2_v3 h_v3j => ?_)
        subst e1_v3
        refine rf_bx (rf_gz (ym_Ma_watch R_u5 h_v3j) (by omega)) (by unfold zle; omega) (fun c_u41 u41' u41 r41 r41' R_u41 E_u41 v_u41 => ?_)
        cases v_u41
        refine rf_gw ?_
        exact (yb_Ma_toward_335 R_u41)
      · refine rf_br ?_ ?_
        · refine rf_bo (gR_M4 R_u5) ?_
          refine rf_soF R_u5.md (fun j44 h_j44 => ?_)
          refine rf_ck (io_F R_u5 h_j44) ?_
          refine rf_bx0 (rf_gz (ym_Fr_below R_u5 h_j44) (by omega)) (fun u43' u43 r43 R_u43 => ?_)
          refine rf_gw ?_
          refine rf_bx0 (rf_gz (ym_Ma_atom R_u43) (by omega)) (fun u45' u45 r45 R_u45 => ?_)
          refine rf_gw ?_
          refine rf_br ?_ ?_
          · refine rf_bo (rx_55_1 R_u45) ?_
            refine rf_so ?_
            refine rf_ck (ox_47 R_u45) ?_
            refine rf_opt h_v3 (fun v3_j v3_q e1_v3 e2_v3 h_v3j => ?_)
            subst e1_v3
            refine rf_bx0 (rf_gz (ym_Wl_endsBy R_u45 h_v3j) (by omega)) (fun u57' u57 r57 R_u57 => ?_)
            refine rf_gw ?_
            exact (yb_Ma_toward_335 R_u57)
          · refine rf_bo (rx_55_1 R_u45) ?_
            refine rf_bo (gR_M3 R_u45) ?_
            refine rf_soP R_u45.md (fun j48 h_j48 => ?_)
            refine rf_bo (gI_P0 R_u45 h_j48) ?_
            refine rf_bo (gR_M4 R_u45) ?_
            refine rf_soF R_u45.md (fun j52 h_j52 => ?_)
            refine rf_ck (io_F R_u45 h_j52) ?_
            refine rf_bx0 (rf_gz (ym_Fr_below R_u45 h_j52) (by omega)) (fun u51' u51 r51 R_u51 => ?_)
            refine rf_gw ?_
            refine rf_bo (gR_M3 R_u51) ?_
            refine rf_so ?_
            refine rf_ck (ox_47 R_u51) ?_
            refine rf_opt h_v3 (fun v3_j v3_q e1_v3 e2_v3 h_v3j => ?_)
            subst e1_v3
            refine rf_bx (rf_gz (ym_Wl_signal R_u51 h_v3j (PV_s R_u51.md)) (by omega)) (by unfold zle; omega) (fun c_u54 u54' u54 r54 r54' R_u54 E_u54 v_u54 => ?_)
            cases v_u54
            refine rf_gw ?_
            exact (yb_Ma_toward_335 R_u54)
        · refine rf_boQ h_v3 (fun j59 j59' e1_j59 e2_j59 h_j59 => ?_)
          subst e1_j59
          refine rf_so ?_
          refine rf_bo (gq_9 R_u5 h_j59) ?_
          refine rf_br ?_ ?_
          · exact (yb_Ma_toward_330 R_u5)
          · exact (yb_Ma_toward_330 R_u5)
theorem yb_Ma_toward_88 {N : Nat} {p : Nat} {c : Nat → Nat} {m : MS} {u : CS} (R : RP (some p) c m u) : RF 2 (some p) VE c u (fb_Ma_toward_88 N () u 55) (hb_Ma_toward_88 N () m p) := by
  unfold fb_Ma_toward_88 hb_Ma_toward_88
  refine rf_ck (ox_55 R) ?_
  refine rf_bx0 (rf_gz (ym_Ma_wrong R) (by omega)) (fun u61' u61 r61 R_u61 => ?_)
  refine rf_gw ?_
  exact rf_ret R_u61 rfl
theorem yb_Ma_toward_59 {N : Nat} {p : Nat} {c : Nat → Nat} {m : MS} {u : CS} (R : RP (some p) c m u) {v1 : Int32} {v2 : Int32} {v3 : Option Nat} {v3' : Option Nat} {t0 : Int32} (h_v3 : PVo c v3 v3') : RF 2 (some p) VE c u (fb_Ma_toward_59 N () u 55 v1 v2 v3 t0) (hb_Ma_toward_59 N () m p v1 v2 v3' t0) := by
  unfold fb_Ma_toward_59 hb_Ma_toward_59
  refine rf_br2 (PV_n h_v3) ?_ ?_
  · exact (yb_Ma_toward_88 R)
  · refine rf_br ?_ ?_
    · refine rf_br ?_ ?_
      · refine rf_bo (rx_55_1 R) ?_
        refine rf_so ?_
        refine rf_bo (gx_47_10 R) ?_
        refine rf_br ?_ ?_
        · exact (yb_Ma_toward_95 R h_v3)
        · exact (yb_Ma_toward_88 R)
      · exact (yb_Ma_toward_95 R h_v3)
    · exact (yb_Ma_toward_88 R)
theorem yb_Ma_toward_58 {N : Nat} {p : Nat} {c : Nat → Nat} {m : MS} {u : CS} (R : RP (some p) c m u) {v1 : Int32} {v2 : Int32} {v3 : Option Nat} {v3' : Option Nat} (h_v3 : PVo c v3 v3') : RF 2 (some p) VE c u (fb_Ma_toward_58 N () u 55 v1 v2 v3) (hb_Ma_toward_58 N () m p v1 v2 v3') := by
  unfold fb_Ma_toward_58 hb_Ma_toward_58
  exact (yb_Ma_toward_59 R h_v3)
theorem yb_Ma_toward_11 {N : Nat} {p : Nat} {c : Nat → Nat} {m : MS} {u : CS} (R : RP (some p) c m u) {v1 : Int32} {t0 : Int32} : RF 2 (some p) VE c u (fb_Ma_toward_11 N () u 55 v1 t0) (hb_Ma_toward_11 N () m p v1 t0) := by
  unfold fb_Ma_toward_11 hb_Ma_toward_11
  refine rf_ck (ox_55 R) ?_
  refine rf_bxP (rf_gz (ym_Ma_processAt R) (by omega)) (fun u65' u65 r65 r65' R_u65 h_r65 => ?_)
  refine rf_gw ?_
  refine rf_br ?_ ?_
  · refine rf_bo (rx_55_2 R_u65) ?_
    refine rf_bo (gR_M3 R_u65) ?_
    refine rf_soP R_u65.md (fun j68 h_j68 => ?_)
    refine rf_bo (gR_P2 R_u65 h_j68) ?_
    refine rf_bo (gR_M4 R_u65) ?_
    refine rf_soF R_u65.md (fun j72 h_j72 => ?_)
    refine rf_ck (io_F R_u65 h_j72) ?_
    refine rf_bx0 (rf_gz (ym_Fr_below R_u65 h_j72) (by omega)) (fun u71' u71 r71 R_u71 => ?_)
    refine rf_gw ?_
    refine rf_so ?_
    refine rf_ck (ox_43 R_u71) ?_
    refine rf_bx0 (rf_gz (ym_Te_size R_u71 ⟨_, h_j68.1, rfl, rfl⟩) (by omega)) (fun u73' u73 r73 R_u73 => ?_)
    refine rf_gw ?_
    refine rf_br ?_ ?_
    · exact (yb_Ma_toward_58 R_u73 h_r65)
    · exact (yb_Ma_toward_59 R_u73 h_r65)
  · exact (yb_Ma_toward_58 R_u65 h_r65)
theorem yb_Ma_toward_0 {N : Nat} {p : Nat} {c : Nat → Nat} {m : MS} {u : CS} (R : RP (some p) c m u) {v1 : Int32} : RF 2 (some p) VE c u (fb_Ma_toward_0 N () u 55 v1) (hb_Ma_toward_0 N () m p v1) := by
  unfold fb_Ma_toward_0 hb_Ma_toward_0
  refine rf_br ?_ ?_
  · exact (yb_Ma_toward_11 R)
  · exact (yb_Ma_toward_11 R)
theorem ym_Ma_toward {N : Nat} {p : Nat} {c : Nat → Nat} {m : MS} {u : CS} (R : RP (some p) c m u) {v1 : Int32} : RF 2 (some p) VE c u (fm_Ma_toward N u 55 v1) (hm_Ma_toward N m p v1) := yb_Ma_toward_0 (N := N) R
theorem yb_Ma_room_0 {N : Nat} {p : Nat} {c : Nat → Nat} {m : MS} {u : CS} (R : RP (some p) c m u) {v1 : Int32} : RF 3 (some p) VE c u (fb_Ma_room_0 N () u 55 v1) (hb_Ma_room_0 N () m p v1) := by
  unfold fb_Ma_room_0 hb_Ma_room_0
  refine rf_bo (gR_M3 R) ?_
  refine rf_soP R.md (fun j3 h_j3 => ?_)
  refine rf_ck (io_P R h_j3) ?_
  refine rf_bx (ym_Pr_want R h_j3) (by unfold zle; omega) (fun c_u2 u2' u2 r2 r2' R_u2 E_u2 v_u2 => ?_)
  cases v_u2
  refine rf_br ?_ ?_
  · refine rf_bo (rx_55_1 R_u2) ?_
    refine rf_bo (gR_M3 R_u2) ?_
    refine rf_so ?_
    refine rf_ck (ox_47 R_u2) ?_
    refine rf_bx0 (ym_Wl_endsBy R_u2 ⟨R_u2.md, rfl⟩) (fun u6' u6 r6 R_u6 => ?_)
    refine rf_ckk ?_
    exact rf_ret R_u6 rfl
  · refine rf_ckk ?_
    exact rf_ret R_u2 rfl
theorem ym_Ma_room {N : Nat} {p : Nat} {c : Nat → Nat} {m : MS} {u : CS} (R : RP (some p) c m u) {v1 : Int32} : RF 3 (some p) VE c u (fm_Ma_room N u 55 v1) (hm_Ma_room N m p v1) := yb_Ma_room_0 (N := N) R
theorem yb_Ma_string_126 {N : Nat} {p : Nat} {c : Nat → Nat} {m : MS} {u : CS} {G : (CS → Nat → Int32 → Int32 → Int32 → Option (CS × Unit))} {G' : (MS → Nat → Int32 → Int32 → Int32 → Option (MS × Unit))} (hG : ∀ (c : Nat → Nat) (m : MS) (u : CS) (v1 : Int32) (v2 : Int32) (v3 : Int32), RP (some p) c m u → RF 2 (some p) VE c u (G u 55 v1 v2 v3) (G' m p v1 v2 v3)) (R : RP (some p) c m u) {v1 : Int32} {t0 : Nat} {t0' : Nat} {t1 : Int64} (h_t0 : FVn c t0 t0') : RF 2 (some p) VE c u (fb_Ma_string_126 N G u 55 v1 (some t0) t1) (hb_Ma_string_126 N G' m p v1 t0' t1) := by
  unfold fb_Ma_string_126 hb_Ma_string_126
  refine rf_so ?_
  refine rf_ck (io_F R h_t0) ?_
  refine rf_ck (all1 (okR_s R (by decide))) ?_
  refine rf_bx (rf_gw (ym_Fr_push R h_t0)) (by unfold zle; omega) (fun c_u1 u1' u1 r1 r1' R_u1 E_u1 v_u1 => ?_)
  cases v_u1
  refine rf_gw ?_
  refine rf_bo (gx_55_5 R_u1) ?_
  refine rf_w (px_55_5 R_u1) (fun w4' w4 R_w4 => ?_)
  exact rf_ret R_w4 rfl
theorem yb_Ma_string_21 {N : Nat} {p : Nat} {c : Nat → Nat} {m : MS} {u : CS} {G : (CS → Nat → Int32 → Int32 → Int32 → Option (CS × Unit))} {G' : (MS → Nat → Int32 → Int32 → Int32 → Option (MS × Unit))} (hG : ∀ (c : Nat → Nat) (m : MS) (u : CS) (v1 : Int32) (v2 : Int32) (v3 : Int32), RP (some p) c m u → RF 2 (some p) VE c u (G u 55 v1 v2 v3) (G' m p v1 v2 v3)) (R : RP (some p) c m u) {v1 : Int32} {v2 : Int32} {v3 : Int32} : RF 2 (some p) VE c u (fb_Ma_string_21 N G u 55 v1 v2 v3) (hb_Ma_string_21 N G' m p v1 v2 v3) := by
  unfold fb_Ma_string_21 hb_Ma_string_21
  refine rf_br ?_ ?_
  · refine rf_bx0 (rf_gz (ym_Te_make R) (by omega)) (fun u5' u5 r5 R_u5 => ?_)
    refine rf_gw ?_
    refine rf_ck (ox_55 R_u5) ?_
    refine rf_bx0 (rf_gz (ym_Ma_endList R_u5) (by omega)) (fun u6' u6 r6 R_u6 => ?_)
    refine rf_gw ?_
    refine rf_bo (gR_M4 R_u6) ?_
    refine rf_br ?_ ?_
    · refine rf_bx0 (rf_gz (ym_Te_make R_u6) (by omega)) (fun u9' u9 r9 R_u9 => ?_)
      refine rf_gw ?_
      exact (yb_Ma_string_126 hG R_u9 ⟨R_u9.md, rfl⟩)
    · refine rf_bx0 (rf_gz (ym_Te_make R_u6) (by omega)) (fun u8' u8 r8 R_u8 => ?_)
      refine rf_gw ?_
      exact (yb_Ma_string_126 hG R_u8 ⟨R_u8.md, rfl⟩)
  · refine rf_bo (gR_M3 R) ?_
    refine rf_soP R.md (fun j11 h_j11 => ?_)
    refine rf_bo (gR_P2 R h_j11) ?_
    refine rf_bo (rx_55_0 R) ?_
    refine rf_bo (gx_55_5 R) ?_
    refine rf_so ?_
    refine rf_ck (ox_22 R) ?_
    refine rf_bx0 (rf_gz (ym_Co_at R) (by omega)) (fun u15' u15 r15 R_u15 => ?_)
    refine rf_gw ?_
    refine rf_bx0 (rf_gz (ym_Te_make R_u15) (by omega)) (fun u17' u17 r17 R_u17 => ?_)
    refine rf_gw ?_
    refine rf_so ?_
    refine rf_wk (sq_2 R_u17 h_j11.1) (fun w19' w19 R_w19 => ?_)
    refine rf_bo (gR_M3 R_w19) ?_
    refine rf_soP R_w19.md (fun j21 h_j21 => ?_)
    refine rf_bo (gR_P2 R_w19 h_j21) ?_
    refine rf_bx0 (rf_gz (ym_Te_make R_w19) (by omega)) (fun u23' u23 r23 R_u23 => ?_)
    refine rf_gw ?_
    refine rf_so ?_
    refine rf_wk (sq_2 R_u23 h_j21.1) (fun w25' w25 R_w25 => ?_)
    exact (hG _ _ _ _ _ _ R_w25)
theorem yb_Ma_string_0 {N : Nat} {p : Nat} {c : Nat → Nat} {m : MS} {u : CS} {G : (CS → Nat → Int32 → Int32 → Int32 → Option (CS × Unit))} {G' : (MS → Nat → Int32 → Int32 → Int32 → Option (MS × Unit))} (hG : ∀ (c : Nat → Nat) (m : MS) (u : CS) (v1 : Int32) (v2 : Int32) (v3 : Int32), RP (some p) c m u → RF 2 (some p) VE c u (G u 55 v1 v2 v3) (G' m p v1 v2 v3)) (R : RP (some p) c m u) {v1 : Int32} : RF 2 (some p) VE c u (fb_Ma_string_0 N G u 55 v1) (hb_Ma_string_0 N G' m p v1) := by
  unfold fb_Ma_string_0 hb_Ma_string_0
  refine rf_ck (ox_55 R) ?_
  refine rf_bx (rf_gz (ym_Ma_room R) (by omega)) (by unfold zle; omega) (fun c_u26 u26' u26 r26 r26' R_u26 E_u26 v_u26 => ?_)
  cases v_u26
  refine rf_gw ?_
  refine rf_br ?_ ?_
  · exact rf_ret R_u26 rfl
  · refine rf_bo (gR_M3 R_u26) ?_
    refine rf_soP R_u26.md (fun j28 h_j28 => ?_)
    refine rf_bo (gq_4 R_u26 h_j28) ?_
    exact (hG _ _ _ _ _ _ R_u26)
theorem yg_Ma_string {N : Nat} {p : Nat} : ∀ n, (∀ (c : Nat → Nat) (m : MS) (u : CS) (v1 : Int32) (v2 : Int32) (v3 : Int32), RP (some p) c m u → RF 2 (some p) VE c u ((gg_Ma_string N n) u 55 v1 v2 v3) ((hg_Ma_string N n) m p v1 v2 v3)) := by
  intro n
  induction n with
  | zero => exact fun c m u v1 v2 v3 R => rf_none
  | succ n ih => exact fun c m u v1 v2 v3 R => yb_Ma_string_21 (N := N) ih R
theorem ym_Ma_string {N : Nat} {p : Nat} {c : Nat → Nat} {m : MS} {u : CS} (R : RP (some p) c m u) {v1 : Int32} : RF 2 (some p) VE c u (fm_Ma_string N u 55 v1) (hm_Ma_string N m p v1) := yb_Ma_string_0 (N := N) (yg_Ma_string (N := N) N) R
theorem yb_Ma_tuple_57 {N : Nat} {p : Nat} {c : Nat → Nat} {m : MS} {u : CS} {G : (CS → Nat → Int32 → Int32 → Int32 → Option (CS × Unit))} {G' : (MS → Nat → Int32 → Int32 → Int32 → Option (MS × Unit))} (hG : ∀ (c : Nat → Nat) (m : MS) (u : CS) (v1 : Int32) (v2 : Int32) (v3 : Int32), RP (some p) c m u → RF 2 (some p) VE c u (G u 55 v1 v2 v3) (G' m p v1 v2 v3)) (R : RP (some p) c m u) {v1 : Int32} {v2 : Int32} {v3 : Int32} : RF 2 (some p) VE c u (fb_Ma_tuple_57 N G u 55 v1 v2 v3) (hb_Ma_tuple_57 N G' m p v1 v2 v3) := by
  unfold fb_Ma_tuple_57 hb_Ma_tuple_57
  refine rf_br ?_ ?_
  · refine rf_bo (gR_M3 R) ?_
    refine rf_soP R.md (fun j2 h_j2 => ?_)
    refine rf_bo (gq_4 R h_j2) ?_
    refine rf_w (wq_4 R h_j2) (fun w4' w4 R_w4 => ?_)
    refine rf_bx0 (rf_gz (ym_Te_make R_w4) (by omega)) (fun u5' u5 r5 R_u5 => ?_)
    refine rf_gw ?_
    refine rf_ck (ox_55 R_u5) ?_
    refine rf_ck (all1 (okR_s R_u5 (by decide))) ?_
    refine rf_bx (rf_gw (ym_Ma_answer R_u5)) (by unfold zle; omega) (fun c_u6 u6' u6 r6 r6' R_u6 E_u6 v_u6 => ?_)
    cases v_u6
    refine rf_gw ?_
    refine rf_bo (gx_55_5 R_u6) ?_
    refine rf_w (px_55_5 R_u6) (fun w8' w8 R_w8 => ?_)
    exact rf_ret R_w8 rfl
  · refine rf_bo (gR_M3 R) ?_
    refine rf_soP R.md (fun j10 h_j10 => ?_)
    refine rf_bo (gR_P2 R h_j10) ?_
    refine rf_bo (gR_M4 R) ?_
    refine rf_soF R.md (fun j14 h_j14 => ?_)
    refine rf_ck (io_F R h_j14) ?_
    refine rf_bx0 (rf_gz (ym_Fr_below R h_j14) (by omega)) (fun u13' u13 r13 R_u13 => ?_)
    refine rf_gw ?_
    refine rf_so ?_
    refine rf_wk (sq_2 R_u13 h_j10.1) (fun w16' w16 R_w16 => ?_)
    exact (hG _ _ _ _ _ _ R_w16)
theorem yb_Ma_tuple_0 {N : Nat} {p : Nat} {c : Nat → Nat} {m : MS} {u : CS} {G : (CS → Nat → Int32 → Int32 → Int32 → Option (CS × Unit))} {G' : (MS → Nat → Int32 → Int32 → Int32 → Option (MS × Unit))} (hG : ∀ (c : Nat → Nat) (m : MS) (u : CS) (v1 : Int32) (v2 : Int32) (v3 : Int32), RP (some p) c m u → RF 2 (some p) VE c u (G u 55 v1 v2 v3) (G' m p v1 v2 v3)) (R : RP (some p) c m u) {v1 : Int32} : RF 2 (some p) VE c u (fb_Ma_tuple_0 N G u 55 v1) (hb_Ma_tuple_0 N G' m p v1) := by
  unfold fb_Ma_tuple_0 hb_Ma_tuple_0
  refine rf_ck (ox_55 R) ?_
  refine rf_bx0 (rf_gz (ym_Ma_sizes R) (by omega)) (fun u17' u17 r17 R_u17 => ?_)
  refine rf_gw ?_
  refine rf_br ?_ ?_
  · refine rf_ck (ox_55 R_u17) ?_
    refine rf_bx (rf_gz (ym_Ma_room R_u17) (by omega)) (by unfold zle; omega) (fun c_u18 u18' u18 r18 r18' R_u18 E_u18 v_u18 => ?_)
    cases v_u18
    refine rf_gw ?_
    refine rf_br ?_ ?_
    · exact rf_ret R_u18 rfl
    · refine rf_bo (gR_M3 R_u18) ?_
      refine rf_soP R_u18.md (fun j20 h_j20 => ?_)
      refine rf_bo (gq_4 R_u18 h_j20) ?_
      refine rf_bo (gR_M3 R_u18) ?_
      refine rf_soP R_u18.md (fun j23 h_j23 => ?_)
      refine rf_bo (gR_P2 R_u18 h_j23) ?_
      refine rf_bx0 (rf_gz (ym_Te_make R_u18) (by omega)) (fun u25' u25 r25 R_u25 => ?_)
      refine rf_gw ?_
      refine rf_so ?_
      refine rf_wk (sq_2 R_u25 h_j23.1) (fun w27' w27 R_w27 => ?_)
      exact (hG _ _ _ _ _ _ R_w27)
  · refine rf_ck (ox_55 R_u17) ?_
    refine rf_bx0 (rf_gz (ym_Ma_wrong R_u17) (by omega)) (fun u28' u28 r28 R_u28 => ?_)
    refine rf_gw ?_
    exact rf_ret R_u28 rfl
theorem yg_Ma_tuple {N : Nat} {p : Nat} : ∀ n, (∀ (c : Nat → Nat) (m : MS) (u : CS) (v1 : Int32) (v2 : Int32) (v3 : Int32), RP (some p) c m u → RF 2 (some p) VE c u ((gg_Ma_tuple N n) u 55 v1 v2 v3) ((hg_Ma_tuple N n) m p v1 v2 v3)) := by
  intro n
  induction n with
  | zero => exact fun c m u v1 v2 v3 R => rf_none
  | succ n ih => exact fun c m u v1 v2 v3 R => yb_Ma_tuple_57 (N := N) ih R
theorem ym_Ma_tuple {N : Nat} {p : Nat} {c : Nat → Nat} {m : MS} {u : CS} (R : RP (some p) c m u) {v1 : Int32} : RF 2 (some p) VE c u (fm_Ma_tuple N u 55 v1) (hm_Ma_tuple N m p v1) := yb_Ma_tuple_0 (N := N) (yg_Ma_tuple (N := N) N) R
theorem yb_Ma_list_44 {N : Nat} {p : Nat} {c : Nat → Nat} {m : MS} {u : CS} {G : (CS → Nat → Int32 → Int32 → Int32 → Option (CS × Unit))} {G' : (MS → Nat → Int32 → Int32 → Int32 → Option (MS × Unit))} (hG : ∀ (c : Nat → Nat) (m : MS) (u : CS) (v1 : Int32) (v2 : Int32) (v3 : Int32), RP (some p) c m u → RF 2 (some p) VE c u (G u 55 v1 v2 v3) (G' m p v1 v2 v3)) (R : RP (some p) c m u) {v1 : Int32} {v2 : Int32} {v3 : Int32} : RF 2 (some p) VE c u (fb_Ma_list_44 N G u 55 v1 v2 v3) (hb_Ma_list_44 N G' m p v1 v2 v3) := by
  unfold fb_Ma_list_44 hb_Ma_list_44
  refine rf_br ?_ ?_
  · refine rf_bo (gR_M4 R) ?_
    refine rf_soF R.md (fun j3 h_j3 => ?_)
    refine rf_ck (io_F R h_j3) ?_
    refine rf_bx0 (rf_gz (ym_Fr_below R h_j3) (by omega)) (fun u2' u2 r2 R_u2 => ?_)
    refine rf_gw ?_
    refine rf_ck (ox_55 R_u2) ?_
    refine rf_bx0 (rf_gz (ym_Ma_endList R_u2) (by omega)) (fun u4' u4 r4 R_u4 => ?_)
    refine rf_gw ?_
    refine rf_bx0 (rf_gz (ym_Te_make R_u4) (by omega)) (fun u5' u5 r5 R_u5 => ?_)
    refine rf_gw ?_
    refine rf_ck (ox_55 R_u5) ?_
    refine rf_ck (all1 (okR_s R_u5 (by decide))) ?_
    refine rf_bx (rf_gw (ym_Ma_answer R_u5)) (by unfold zle; omega) (fun c_u6 u6' u6 r6 r6' R_u6 E_u6 v_u6 => ?_)
    cases v_u6
    refine rf_gw ?_
    refine rf_bo (gx_55_5 R_u6) ?_
    refine rf_w (px_55_5 R_u6) (fun w8' w8 R_w8 => ?_)
    exact rf_ret R_w8 rfl
  · refine rf_bo (gR_M3 R) ?_
    refine rf_soP R.md (fun j10 h_j10 => ?_)
    refine rf_bo (gR_P2 R h_j10) ?_
    refine rf_bo (gR_M4 R) ?_
    refine rf_soF R.md (fun j14 h_j14 => ?_)
    refine rf_ck (io_F R h_j14) ?_
    refine rf_bx0 (rf_gz (ym_Fr_below R h_j14) (by omega)) (fun u13' u13 r13 R_u13 => ?_)
    refine rf_gw ?_
    refine rf_so ?_
    refine rf_wk (sq_2 R_u13 h_j10.1) (fun w16' w16 R_w16 => ?_)
    refine rf_bo (gR_M3 R_w16) ?_
    refine rf_soP R_w16.md (fun j18 h_j18 => ?_)
    refine rf_bo (gR_P2 R_w16 h_j18) ?_
    refine rf_bx0 (rf_gz (ym_Te_make R_w16) (by omega)) (fun u20' u20 r20 R_u20 => ?_)
    refine rf_gw ?_
    refine rf_so ?_
    refine rf_wk (sq_2 R_u20 h_j18.1) (fun w22' w22 R_w22 => ?_)
    exact (hG _ _ _ _ _ _ R_w22)
theorem yb_Ma_list_0 {N : Nat} {p : Nat} {c : Nat → Nat} {m : MS} {u : CS} {G : (CS → Nat → Int32 → Int32 → Int32 → Option (CS × Unit))} {G' : (MS → Nat → Int32 → Int32 → Int32 → Option (MS × Unit))} (hG : ∀ (c : Nat → Nat) (m : MS) (u : CS) (v1 : Int32) (v2 : Int32) (v3 : Int32), RP (some p) c m u → RF 2 (some p) VE c u (G u 55 v1 v2 v3) (G' m p v1 v2 v3)) (R : RP (some p) c m u) {v1 : Int32} : RF 2 (some p) VE c u (fb_Ma_list_0 N G u 55 v1) (hb_Ma_list_0 N G' m p v1) := by
  unfold fb_Ma_list_0 hb_Ma_list_0
  refine rf_ck (ox_55 R) ?_
  refine rf_bx0 (rf_gz (ym_Ma_sizes R) (by omega)) (fun u23' u23 r23 R_u23 => ?_)
  refine rf_gw ?_
  refine rf_br ?_ ?_
  · refine rf_ck (ox_55 R_u23) ?_
    refine rf_bx (rf_gz (ym_Ma_room R_u23) (by omega)) (by unfold zle; omega) (fun c_u24 u24' u24 r24 r24' R_u24 E_u24 v_u24 => ?_)
    cases v_u24
    refine rf_gw ?_
    refine rf_br ?_ ?_
    · exact rf_ret R_u24 rfl
    · refine rf_bo (gR_M3 R_u24) ?_
      refine rf_soP R_u24.md (fun j26 h_j26 => ?_)
      refine rf_bo (gq_4 R_u24 h_j26) ?_
      exact (hG _ _ _ _ _ _ R_u24)
  · refine rf_ck (ox_55 R_u23) ?_
    refine rf_bx0 (rf_gz (ym_Ma_wrong R_u23) (by omega)) (fun u28' u28 r28 R_u28 => ?_)
    refine rf_gw ?_
    exact rf_ret R_u28 rfl
theorem yg_Ma_list {N : Nat} {p : Nat} : ∀ n, (∀ (c : Nat → Nat) (m : MS) (u : CS) (v1 : Int32) (v2 : Int32) (v3 : Int32), RP (some p) c m u → RF 2 (some p) VE c u ((gg_Ma_list N n) u 55 v1 v2 v3) ((hg_Ma_list N n) m p v1 v2 v3)) := by
  intro n
  induction n with
  | zero => exact fun c m u v1 v2 v3 R => rf_none
  | succ n ih => exact fun c m u v1 v2 v3 R => yb_Ma_list_44 (N := N) ih R
theorem ym_Ma_list {N : Nat} {p : Nat} {c : Nat → Nat} {m : MS} {u : CS} (R : RP (some p) c m u) {v1 : Int32} : RF 2 (some p) VE c u (fm_Ma_list N u 55 v1) (hm_Ma_list N m p v1) := yb_Ma_list_0 (N := N) (yg_Ma_list (N := N) N) R
theorem yb_Ma_fun_144 {N : Nat} {p : Nat} {c : Nat → Nat} {m : MS} {u : CS} {G : (CS → Nat → Int32 → Int32 → Int32 → Int32 → Option (CS × Unit)) × (CS → Nat → Int32 → Int32 → Int32 → Option (CS × Unit))} {G' : (MS → Nat → Int32 → Int32 → Int32 → Int32 → Option (MS × Unit)) × (MS → Nat → Int32 → Int32 → Int32 → Option (MS × Unit))} (hG1 : ∀ (c : Nat → Nat) (m : MS) (u : CS) (v1 : Int32) (v2 : Int32) (v3 : Int32) (v4 : Int32), RP (some p) c m u → RF 2 (some p) VE c u (G.1 u 55 v1 v2 v3 v4) (G'.1 m p v1 v2 v3 v4)) (hG2 : ∀ (c : Nat → Nat) (m : MS) (u : CS) (v2 : Int32) (v4 : Int32) (v5 : Int32), RP (some p) c m u → RF 2 (some p) VE c u (G.2 u 55 v2 v4 v5) (G'.2 m p v2 v4 v5)) (R : RP (some p) c m u) {v2 : Int32} {v4 : Int32} {v5 : Int32} : RF 2 (some p) VE c u (fb_Ma_fun_144 N G u 55 v2 v4 v5) (hb_Ma_fun_144 N G' m p v2 v4 v5) := by
  unfold fb_Ma_fun_144 hb_Ma_fun_144
  refine rf_br ?_ ?_
  · refine rf_bo (gR_M3 R) ?_
    refine rf_soP R.md (fun j2 h_j2 => ?_)
    refine rf_bo (gq_4 R h_j2) ?_
    refine rf_w (wq_4 R h_j2) (fun w4' w4 R_w4 => ?_)
    refine rf_bo (gR_M4 R_w4) ?_
    refine rf_bx0 (rf_gz (ym_Te_make R_w4) (by omega)) (fun u6' u6 r6 R_u6 => ?_)
    refine rf_gw ?_
    refine rf_soF R_u6.md (fun j8 h_j8 => ?_)
    refine rf_ck (io_F R_u6 h_j8) ?_
    refine rf_ck (all1 (okR_s R_u6 (by decide))) ?_
    refine rf_bx (rf_gw (ym_Fr_push R_u6 h_j8)) (by unfold zle; omega) (fun c_u7 u7' u7 r7 r7' R_u7 E_u7 v_u7 => ?_)
    cases v_u7
    refine rf_gw ?_
    refine rf_bo (gx_55_5 R_u7) ?_
    refine rf_w (px_55_5 R_u7) (fun w10' w10 R_w10 => ?_)
    exact rf_ret R_w10 rfl
  · refine rf_bo (gR_M3 R) ?_
    refine rf_soP R.md (fun j12 h_j12 => ?_)
    refine rf_bo (gR_P2 R h_j12) ?_
    refine rf_bo (gR_M4 R) ?_
    refine rf_bo (rx_55_0 R) ?_
    refine rf_bo (gx_55_5 R) ?_
    refine rf_so ?_
    refine rf_ck (ox_22 R) ?_
    refine rf_bx0 (rf_gz (ym_Co_at R) (by omega)) (fun u17' u17 r17 R_u17 => ?_)
    refine rf_gw ?_
    refine rf_soF R_u17.md (fun j20 h_j20 => ?_)
    refine rf_ck (io_F R_u17 h_j20) ?_
    refine rf_bx0 (rf_gz (ym_Fr_termOf R_u17 h_j20) (by omega)) (fun u19' u19 r19 R_u19 => ?_)
    refine rf_gw ?_
    refine rf_so ?_
    refine rf_wk (sq_2 R_u19 h_j12.1) (fun w22' w22 R_w22 => ?_)
    exact (hG2 _ _ _ _ _ _ R_w22)
theorem yb_Ma_fun_21 {N : Nat} {p : Nat} {c : Nat → Nat} {m : MS} {u : CS} {G : (CS → Nat → Int32 → Int32 → Int32 → Int32 → Option (CS × Unit)) × (CS → Nat → Int32 → Int32 → Int32 → Option (CS × Unit))} {G' : (MS → Nat → Int32 → Int32 → Int32 → Int32 → Option (MS × Unit)) × (MS → Nat → Int32 → Int32 → Int32 → Option (MS × Unit))} (hG1 : ∀ (c : Nat → Nat) (m : MS) (u : CS) (v1 : Int32) (v2 : Int32) (v3 : Int32) (v4 : Int32), RP (some p) c m u → RF 2 (some p) VE c u (G.1 u 55 v1 v2 v3 v4) (G'.1 m p v1 v2 v3 v4)) (hG2 : ∀ (c : Nat → Nat) (m : MS) (u : CS) (v2 : Int32) (v4 : Int32) (v5 : Int32), RP (some p) c m u → RF 2 (some p) VE c u (G.2 u 55 v2 v4 v5) (G'.2 m p v2 v4 v5)) (R : RP (some p) c m u) {v1 : Int32} {v2 : Int32} {v3 : Int32} {v4 : Int32} : RF 2 (some p) VE c u (fb_Ma_fun_21 N G u 55 v1 v2 v3 v4) (hb_Ma_fun_21 N G' m p v1 v2 v3 v4) := by
  unfold fb_Ma_fun_21 hb_Ma_fun_21
  refine rf_br ?_ ?_
  · refine rf_br ?_ ?_
    · refine rf_ck (ox_55 R) ?_
      refine rf_bx (rf_gz (ym_Ma_room R) (by omega)) (by unfold zle; omega) (fun c_u23 u23' u23 r23 r23' R_u23 E_u23 v_u23 => ?_)
      cases v_u23
      refine rf_gw ?_
      refine rf_br ?_ ?_
      · exact rf_ret R_u23 rfl
      · refine rf_bo (gR_M3 R_u23) ?_
        refine rf_soP R_u23.md (fun j25 h_j25 => ?_)
        refine rf_bo (gq_4 R_u23 h_j25) ?_
        refine rf_bo (gR_M3 R_u23) ?_
        refine rf_soP R_u23.md (fun j28 h_j28 => ?_)
        refine rf_bo (gR_P2 R_u23 h_j28) ?_
        refine rf_bx0 (rf_gz (ym_Te_make R_u23) (by omega)) (fun u30' u30 r30 R_u30 => ?_)
        refine rf_gw ?_
        refine rf_so ?_
        refine rf_wk (sq_2 R_u30 h_j28.1) (fun w32' w32 R_w32 => ?_)
        refine rf_bo (gR_M3 R_w32) ?_
        refine rf_soP R_w32.md (fun j34 h_j34 => ?_)
        refine rf_bo (gR_P2 R_w32 h_j34) ?_
        refine rf_bx0 (rf_gz (ym_Te_make R_w32) (by omega)) (fun u36' u36 r36 R_u36 => ?_)
        refine rf_gw ?_
        refine rf_so ?_
        refine rf_wk (sq_2 R_u36 h_j34.1) (fun w38' w38 R_w38 => ?_)
        exact (hG2 _ _ _ _ _ _ R_w38)
    · refine rf_ck (ox_55 R) ?_
      refine rf_bx0 (rf_gz (ym_Ma_wrong R) (by omega)) (fun u39' u39 r39 R_u39 => ?_)
      refine rf_gw ?_
      exact rf_ret R_u39 rfl
  · refine rf_bo (rx_55_2 R) ?_
    refine rf_bo (gR_M3 R) ?_
    refine rf_soP R.md (fun j42 h_j42 => ?_)
    refine rf_bo (gR_P2 R h_j42) ?_
    refine rf_bo (gR_M4 R) ?_
    refine rf_bo (rx_55_0 R) ?_
    refine rf_bo (gx_55_5 R) ?_
    refine rf_so ?_
    refine rf_ck (ox_22 R) ?_
    refine rf_bx0 (rf_gz (ym_Co_at R) (by omega)) (fun u47' u47 r47 R_u47 => ?_)
    refine rf_gw ?_
    refine rf_soF R_u47.md (fun j50 h_j50 => ?_)
    refine rf_ck (io_F R_u47 h_j50) ?_
    refine rf_bx0 (rf_gz (ym_Fr_termOf R_u47 h_j50) (by omega)) (fun u49' u49 r49 R_u49 => ?_)
    refine rf_gw ?_
    refine rf_so ?_
    refine rf_ck (ox_43 R_u49) ?_
    refine rf_bx0 (rf_gz (ym_Te_size R_u49 ⟨_, h_j42.1, rfl, rfl⟩) (by omega)) (fun u51' u51 r51 R_u51 => ?_)
    refine rf_gw ?_
    exact (hG1 _ _ _ _ _ _ _ R_u51)
theorem yb_Ma_fun_0 {N : Nat} {p : Nat} {c : Nat → Nat} {m : MS} {u : CS} {G : (CS → Nat → Int32 → Int32 → Int32 → Int32 → Option (CS × Unit)) × (CS → Nat → Int32 → Int32 → Int32 → Option (CS × Unit))} {G' : (MS → Nat → Int32 → Int32 → Int32 → Int32 → Option (MS × Unit)) × (MS → Nat → Int32 → Int32 → Int32 → Option (MS × Unit))} (hG1 : ∀ (c : Nat → Nat) (m : MS) (u : CS) (v1 : Int32) (v2 : Int32) (v3 : Int32) (v4 : Int32), RP (some p) c m u → RF 2 (some p) VE c u (G.1 u 55 v1 v2 v3 v4) (G'.1 m p v1 v2 v3 v4)) (hG2 : ∀ (c : Nat → Nat) (m : MS) (u : CS) (v2 : Int32) (v4 : Int32) (v5 : Int32), RP (some p) c m u → RF 2 (some p) VE c u (G.2 u 55 v2 v4 v5) (G'.2 m p v2 v4 v5)) (R : RP (some p) c m u) {v1 : Int32} : RF 2 (some p) VE c u (fb_Ma_fun_0 N G u 55 v1) (hb_Ma_fun_0 N G' m p v1) := by
  unfold fb_Ma_fun_0 hb_Ma_fun_0
  refine rf_bo (rx_55_0 R) ?_
  refine rf_bo (gx_55_5 R) ?_
  refine rf_so ?_
  refine rf_ck (ox_22 R) ?_
  refine rf_bx0 (rf_gz (ym_Co_at R) (by omega)) (fun u55' u55 r55 R_u55 => ?_)
  refine rf_gw ?_
  exact (hG1 _ _ _ _ _ _ _ R_u55)
theorem yg_Ma_fun {N : Nat} {p : Nat} : ∀ n, (∀ (c : Nat → Nat) (m : MS) (u : CS) (v1 : Int32) (v2 : Int32) (v3 : Int32) (v4 : Int32), RP (some p) c m u → RF 2 (some p) VE c u ((gg_Ma_fun N n).1 u 55 v1 v2 v3 v4) ((hg_Ma_fun N n).1 m p v1 v2 v3 v4)) ∧ (∀ (c : Nat → Nat) (m : MS) (u : CS) (v2 : Int32) (v4 : Int32) (v5 : Int32), RP (some p) c m u → RF 2 (some p) VE c u ((gg_Ma_fun N n).2 u 55 v2 v4 v5) ((hg_Ma_fun N n).2 m p v2 v4 v5)) := by
  intro n
  induction n with
  | zero => exact ⟨fun c m u v1 v2 v3 v4 R => rf_none, fun c m u v2 v4 v5 R => rf_none⟩
  | succ n ih => exact ⟨fun c m u v1 v2 v3 v4 R => yb_Ma_fun_21 (N := N) ih.1 ih.2 R, fun c m u v2 v4 v5 R => yb_Ma_fun_144 (N := N) ih.1 ih.2 R⟩
theorem ym_Ma_fun {N : Nat} {p : Nat} {c : Nat → Nat} {m : MS} {u : CS} (R : RP (some p) c m u) {v1 : Int32} : RF 2 (some p) VE c u (fm_Ma_fun N u 55 v1) (hm_Ma_fun N m p v1) := yb_Ma_fun_0 (N := N) (yg_Ma_fun (N := N) N).1 (yg_Ma_fun (N := N) N).2 R
theorem yb_Ma_funOf_0 {N : Nat} {p : Nat} {c : Nat → Nat} {m : MS} {u : CS} (R : RP (some p) c m u) {v1 : Int32} : RF 2 (some p) VE c u (fb_Ma_funOf_0 N () u 55 v1) (hb_Ma_funOf_0 N () m p v1) := by
  unfold fb_Ma_funOf_0 hb_Ma_funOf_0
  refine rf_ck (ox_55 R) ?_
  refine rf_bx (rf_gz (ym_Ma_room R) (by omega)) (by unfold zle; omega) (fun c_u1 u1' u1 r1 r1' R_u1 E_u1 v_u1 => ?_)
  cases v_u1
  refine rf_gw ?_
  refine rf_br ?_ ?_
  · exact rf_ret R_u1 rfl
  · refine rf_bo (gR_M3 R_u1) ?_
    refine rf_soP R_u1.md (fun j3 h_j3 => ?_)
    refine rf_bo (gq_4 R_u1 h_j3) ?_
    refine rf_bo (gR_M3 R_u1) ?_
    refine rf_soP R_u1.md (fun j6 h_j6 => ?_)
    refine rf_bo (gR_P2 R_u1 h_j6) ?_
    refine rf_bx0 (rf_gz (ym_Te_make R_u1) (by omega)) (fun u8' u8 r8 R_u8 => ?_)
    refine rf_gw ?_
    refine rf_so ?_
    refine rf_wk (sq_2 R_u8 h_j6.1) (fun w10' w10 R_w10 => ?_)
    refine rf_bo (gR_M3 R_w10) ?_
    refine rf_soP R_w10.md (fun j12 h_j12 => ?_)
    refine rf_bo (gR_P2 R_w10 h_j12) ?_
    refine rf_bx0 (rf_gz (ym_Te_make R_w10) (by omega)) (fun u14' u14 r14 R_u14 => ?_)
    refine rf_gw ?_
    refine rf_so ?_
    refine rf_wk (sq_2 R_u14 h_j12.1) (fun w16' w16 R_w16 => ?_)
    refine rf_bo (gR_M3 R_w16) ?_
    refine rf_soP R_w16.md (fun j18 h_j18 => ?_)
    refine rf_bo (gq_4 R_w16 h_j18) ?_
    refine rf_w (wq_4 R_w16 h_j18) (fun w20' w20 R_w20 => ?_)
    refine rf_bo (gR_M4 R_w20) ?_
    refine rf_bx0 (rf_gz (ym_Te_make R_w20) (by omega)) (fun u22' u22 r22 R_u22 => ?_)
    refine rf_gw ?_
    refine rf_soF R_u22.md (fun j24 h_j24 => ?_)
    refine rf_ck (io_F R_u22 h_j24) ?_
    refine rf_ck (all1 (okR_s R_u22 (by decide))) ?_
    refine rf_bx (rf_gw (ym_Fr_push R_u22 h_j24)) (by unfold zle; omega) (fun c_u23 u23' u23 r23 r23' R_u23 E_u23 v_u23 => ?_)
    cases v_u23
    refine rf_gw ?_
    refine rf_bo (gx_55_5 R_u23) ?_
    refine rf_w (px_55_5 R_u23) (fun w26' w26 R_w26 => ?_)
    exact rf_ret R_w26 rfl
theorem ym_Ma_funOf {N : Nat} {p : Nat} {c : Nat → Nat} {m : MS} {u : CS} (R : RP (some p) c m u) {v1 : Int32} : RF 2 (some p) VE c u (fm_Ma_funOf N u 55 v1) (hm_Ma_funOf N m p v1) := yb_Ma_funOf_0 (N := N) R
theorem yb_Ma_making_166 {N : Nat} {p : Nat} {c : Nat → Nat} {m : MS} {u : CS} (R : RP (some p) c m u) : RF 2 (some p) VE c u (fb_Ma_making_166 N () u) (hb_Ma_making_166 N () m p) := by
  unfold fb_Ma_making_166 hb_Ma_making_166
  exact rf_ret R rfl
theorem yb_Ma_making_0 {N : Nat} {p : Nat} {c : Nat → Nat} {m : MS} {u : CS} (R : RP (some p) c m u) {v1 : Int32} : RF 2 (some p) VE c u (fb_Ma_making_0 N () u 55 v1) (hb_Ma_making_0 N () m p v1) := by
  unfold fb_Ma_making_0 hb_Ma_making_0
  refine rf_bo (rx_55_0 R) ?_
  refine rf_bo (gx_55_5 R) ?_
  refine rf_so ?_
  refine rf_ck (ox_22 R) ?_
  refine rf_bx0 (rf_gz (ym_Co_at R) (by omega)) (fun u3' u3 r3 R_u3 => ?_)
  refine rf_gw ?_
  refine rf_br ?_ ?_
  · refine rf_bo (gR_M4 R_u3) ?_
    refine rf_bo (rx_55_0 R_u3) ?_
    refine rf_bo (gx_55_5 R_u3) ?_
    refine rf_so ?_
    refine rf_ck (ox_22 R_u3) ?_
    refine rf_bx0 (rf_gz (ym_Co_at R_u3) (by omega)) (fun u8' u8 r8 R_u8 => ?_)
    refine rf_gw ?_
    refine rf_bx0 (rf_gz (ym_Te_make R_u8) (by omega)) (fun u10' u10 r10 R_u10 => ?_)
    refine rf_gw ?_
    refine rf_soF R_u10.md (fun j12 h_j12 => ?_)
    refine rf_ck (io_F R_u10 h_j12) ?_
    refine rf_ck (all1 (okR_s R_u10 (by decide))) ?_
    refine rf_bx (rf_gw (ym_Fr_push R_u10 h_j12)) (by unfold zle; omega) (fun c_u11 u11' u11 r11 r11' R_u11 E_u11 v_u11 => ?_)
    cases v_u11
    refine rf_gw ?_
    refine rf_bo (gx_55_5 R_u11) ?_
    refine rf_w (px_55_5 R_u11) (fun w14' w14 R_w14 => ?_)
    exact (yb_Ma_making_166 R_w14)
  · refine rf_br ?_ ?_
    · refine rf_ck (ox_55 R_u3) ?_
      refine rf_ck (all1 (okR_s R_u3 (by decide))) ?_
      refine rf_bx (rf_gw (ym_Ma_string R_u3)) (by unfold zle; omega) (fun c_u15 u15' u15 r15 r15' R_u15 E_u15 v_u15 => ?_)
      cases v_u15
      refine rf_gw ?_
      exact (yb_Ma_making_166 R_u15)
    · refine rf_br ?_ ?_
      · refine rf_bo (gR_M4 R_u3) ?_
        refine rf_bo (gR_M4 R_u3) ?_
        refine rf_soF R_u3.md (fun j19 h_j19 => ?_)
        refine rf_ck (io_F R_u3 h_j19) ?_
        refine rf_bx0 (rf_gz (ym_Fr_termOf R_u3 h_j19) (by omega)) (fun u18' u18 r18 R_u18 => ?_)
        refine rf_gw ?_
        refine rf_soF R_u18.md (fun j21 h_j21 => ?_)
        refine rf_ck (io_F R_u18 h_j21) ?_
        refine rf_ck (all1 (okR_s R_u18 (by decide))) ?_
        refine rf_bx (rf_gw (ym_Fr_push R_u18 h_j21)) (by unfold zle; omega) (fun c_u20 u20' u20 r20 r20' R_u20 E_u20 v_u20 => ?_)
        cases v_u20
        refine rf_gw ?_
        refine rf_bo (gx_55_5 R_u20) ?_
        refine rf_w (px_55_5 R_u20) (fun w23' w23 R_w23 => ?_)
        exact (yb_Ma_making_166 R_w23)
      · refine rf_br ?_ ?_
        · refine rf_ck (ox_55 R_u3) ?_
          refine rf_ck (all1 (okR_s R_u3 (by decide))) ?_
          refine rf_bx (rf_gw (ym_Ma_tuple R_u3)) (by unfold zle; omega) (fun c_u24 u24' u24 r24 r24' R_u24 E_u24 v_u24 => ?_)
          cases v_u24
          refine rf_gw ?_
          exact (yb_Ma_making_166 R_u24)
        · refine rf_br ?_ ?_
          · refine rf_ck (ox_55 R_u3) ?_
            refine rf_ck (all1 (okR_s R_u3 (by decide))) ?_
            refine rf_bx (rf_gw (ym_Ma_list R_u3)) (by unfold zle; omega) (fun c_u25 u25' u25 r25 r25' R_u25 E_u25 v_u25 => ?_)
            cases v_u25
            refine rf_gw ?_
            exact (yb_Ma_making_166 R_u25)
          · refine rf_br ?_ ?_
            · refine rf_ck (ox_55 R_u3) ?_
              refine rf_ck (all1 (okR_s R_u3 (by decide))) ?_
              refine rf_bx (rf_gw (ym_Ma_fun R_u3)) (by unfold zle; omega) (fun c_u26 u26' u26 r26 r26' R_u26 E_u26 v_u26 => ?_)
              cases v_u26
              refine rf_gw ?_
              exact (yb_Ma_making_166 R_u26)
            · refine rf_br ?_ ?_
              · refine rf_ck (ox_55 R_u3) ?_
                refine rf_ck (all1 (okR_s R_u3 (by decide))) ?_
                refine rf_bx (rf_gw (ym_Ma_funOf R_u3)) (by unfold zle; omega) (fun c_u27 u27' u27 r27 r27' R_u27 E_u27 v_u27 => ?_)
                cases v_u27
                refine rf_gw ?_
                exact (yb_Ma_making_166 R_u27)
              · refine rf_w (px_55_8 R_u3) (fun w28' w28 R_w28 => ?_)
                exact (yb_Ma_making_166 R_w28)
theorem ym_Ma_making {N : Nat} {p : Nat} {c : Nat → Nat} {m : MS} {u : CS} (R : RP (some p) c m u) {v1 : Int32} : RF 2 (some p) VE c u (fm_Ma_making N u 55 v1) (hm_Ma_making N m p v1) := yb_Ma_making_0 (N := N) R
theorem yb_Te_orderAlone_107 {N : Nat} {o : Option Nat} {c : Nat → Nat} {m : MS} {u : CS} (R : RP o c m u) {t0 : Int32} : RF 0 o VE c u (fb_Te_orderAlone_107 N () u t0) (hb_Te_orderAlone_107 N () m t0) := by
  unfold fb_Te_orderAlone_107 hb_Te_orderAlone_107
  exact rf_ret R rfl
theorem yb_Te_orderAlone_75 {N : Nat} {o : Option Nat} {c : Nat → Nat} {m : MS} {u : CS} (R : RP o c m u) {v1 : Nat} {v1' : Nat} {v7 : Int32} {v8 : Int32} (h_v1 : CVn c v1 v1') : RF 0 o VE c u (fb_Te_orderAlone_75 N () u (some v1) v7 v8) (hb_Te_orderAlone_75 N () m v1' v7 v8) := by
  unfold fb_Te_orderAlone_75 hb_Te_orderAlone_75
  refine rf_so ?_
  refine rf_ai (aq_C R h_v1) ?_
  refine rf_so ?_
  refine rf_ai (aq_C R h_v1) ?_
  refine rf_bx0 (ym_JI_compare R) (fun u5' u5 r5 R_u5 => ?_)
  exact rf_ret R_u5 rfl
theorem yb_Te_orderAlone_62 {N : Nat} {o : Option Nat} {c : Nat → Nat} {m : MS} {u : CS} (R : RP o c m u) {t0 : Int32} : RF 0 o VE c u (fb_Te_orderAlone_62 N () u t0) (hb_Te_orderAlone_62 N () m t0) := by
  unfold fb_Te_orderAlone_62 hb_Te_orderAlone_62
  exact rf_ret R rfl
theorem yb_Te_orderAlone_0 {N : Nat} {o : Option Nat} {c : Nat → Nat} {m : MS} {u : CS} (R : RP o c m u) {v1 : Nat} {v1' : Nat} {v2 : Int64} {v4 : Int64} (h_v1 : CVn c v1 v1') : RF 0 o VE c u (fb_Te_orderAlone_0 N () u 43 (some v1) v2 v4) (hb_Te_orderAlone_0 N () m v1' v2 v4) := by
  unfold fb_Te_orderAlone_0 hb_Te_orderAlone_0
  refine rf_bx0 (ym_Te_tag R) (fun u6' u6 r6 R_u6 => ?_)
  refine rf_bx0 (ym_Te_tag R_u6) (fun u7' u7 r7 R_u7 => ?_)
  refine rf_br ?_ ?_
  · refine rf_br ?_ ?_
    · refine rf_br ?_ ?_
      · exact (yb_Te_orderAlone_62 R_u7)
      · refine rf_bo (rx_43_3 R_u7) ?_
        refine rf_so ?_
        refine rf_ck (ox_1 R_u7) ?_
        refine rf_bx0 (ym_Wo_order R_u7 (by unfold isWd; omega)) (fun u10' u10 r10 R_u10 => ?_)
        exact (yb_Te_orderAlone_62 R_u10)
    · refine rf_br ?_ ?_
      · exact (yb_Te_orderAlone_75 R_u7 h_v1)
      · refine rf_br ?_ ?_
        · exact (yb_Te_orderAlone_75 R_u7 h_v1)
        · refine rf_br ?_ ?_
          · exact (yb_Te_orderAlone_107 R_u7)
          · refine rf_bx0 (ym_JI_compare R_u7) (fun u8' u8 r8 R_u8 => ?_)
            exact (yb_Te_orderAlone_107 R_u8)
  · refine rf_bx0 (ym_Te_tag R_u7) (fun u12' u12 r12 R_u12 => ?_)
    exact rf_ret R_u12 rfl
theorem ym_Te_orderAlone {N : Nat} {o : Option Nat} {c : Nat → Nat} {m : MS} {u : CS} (R : RP o c m u) {v1 : Nat} {v1' : Nat} {v2 : Int64} {v4 : Int64} (h_v1 : CVn c v1 v1') : RF 0 o VE c u (fm_Te_orderAlone N u 43 (some v1) v2 v4) (hm_Te_orderAlone N m v1' v2 v4) := yb_Te_orderAlone_0 (N := N) R h_v1
theorem yb_Te_order_179 {N : Nat} {o : Option Nat} {c : Nat → Nat} {m : MS} {u : CS} {G : (CS → Nat → Option Nat → Int32 → Int32 → Option (CS × Int32)) × (CS → Nat → Option Nat → Int32 → Int32 → Int32 → Int32 → Int32 → Int32 → Option (CS × Int32))} {G' : (MS → Nat → Int32 → Int32 → Option (MS × Int32)) × (MS → Nat → Int32 → Int32 → Int32 → Int32 → Int32 → Int32 → Option (MS × Int32))} (hG1 : ∀ (c : Nat → Nat) (m : MS) (u : CS) (v1 : Nat) (v1' : Nat) (v6 : Int32) (v7 : Int32), RP o c m u → CVn c v1 v1' → RF 0 o VE c u (G.1 u 43 (some v1) v6 v7) (G'.1 m v1' v6 v7)) (hG2 : ∀ (c : Nat → Nat) (m : MS) (u : CS) (v1 : Nat) (v1' : Nat) (v6 : Int32) (v7 : Int32) (v9 : Int32) (v10 : Int32) (v12 : Int32) (v13 : Int32), RP o c m u → CVn c v1 v1' → RF 0 o VE c u (G.2 u 43 (some v1) v6 v7 v9 v10 v12 v13) (G'.2 m v1' v6 v7 v9 v10 v12 v13)) (R : RP o c m u) : RF 0 o VE c u (fb_Te_order_179 N G u) (hb_Te_order_179 N G' m) := by
  unfold fb_Te_order_179 hb_Te_order_179
  exact rf_ret R rfl
theorem yb_Te_order_173 {N : Nat} {o : Option Nat} {c : Nat → Nat} {m : MS} {u : CS} {G : (CS → Nat → Option Nat → Int32 → Int32 → Option (CS × Int32)) × (CS → Nat → Option Nat → Int32 → Int32 → Int32 → Int32 → Int32 → Int32 → Option (CS × Int32))} {G' : (MS → Nat → Int32 → Int32 → Option (MS × Int32)) × (MS → Nat → Int32 → Int32 → Int32 → Int32 → Int32 → Int32 → Option (MS × Int32))} (hG1 : ∀ (c : Nat → Nat) (m : MS) (u : CS) (v1 : Nat) (v1' : Nat) (v6 : Int32) (v7 : Int32), RP o c m u → CVn c v1 v1' → RF 0 o VE c u (G.1 u 43 (some v1) v6 v7) (G'.1 m v1' v6 v7)) (hG2 : ∀ (c : Nat → Nat) (m : MS) (u : CS) (v1 : Nat) (v1' : Nat) (v6 : Int32) (v7 : Int32) (v9 : Int32) (v10 : Int32) (v12 : Int32) (v13 : Int32), RP o c m u → CVn c v1 v1' → RF 0 o VE c u (G.2 u 43 (some v1) v6 v7 v9 v10 v12 v13) (G'.2 m v1' v6 v7 v9 v10 v12 v13)) (R : RP o c m u) {v1 : Nat} {v1' : Nat} {v6 : Int32} {v7 : Int32} (h_v1 : CVn c v1 v1') : RF 0 o VE c u (fb_Te_order_173 N G u 43 (some v1) v6 v7) (hb_Te_order_173 N G' m v1' v6 v7) := by
  unfold fb_Te_order_173 hb_Te_order_173
  exact (hG1 _ _ _ _ _ _ _ R h_v1)
theorem yb_Te_order_121 {N : Nat} {o : Option Nat} {c : Nat → Nat} {m : MS} {u : CS} {G : (CS → Nat → Option Nat → Int32 → Int32 → Option (CS × Int32)) × (CS → Nat → Option Nat → Int32 → Int32 → Int32 → Int32 → Int32 → Int32 → Option (CS × Int32))} {G' : (MS → Nat → Int32 → Int32 → Option (MS × Int32)) × (MS → Nat → Int32 → Int32 → Int32 → Int32 → Int32 → Int32 → Option (MS × Int32))} (hG1 : ∀ (c : Nat → Nat) (m : MS) (u : CS) (v1 : Nat) (v1' : Nat) (v6 : Int32) (v7 : Int32), RP o c m u → CVn c v1 v1' → RF 0 o VE c u (G.1 u 43 (some v1) v6 v7) (G'.1 m v1' v6 v7)) (hG2 : ∀ (c : Nat → Nat) (m : MS) (u : CS) (v1 : Nat) (v1' : Nat) (v6 : Int32) (v7 : Int32) (v9 : Int32) (v10 : Int32) (v12 : Int32) (v13 : Int32), RP o c m u → CVn c v1 v1' → RF 0 o VE c u (G.2 u 43 (some v1) v6 v7 v9 v10 v12 v13) (G'.2 m v1' v6 v7 v9 v10 v12 v13)) (R : RP o c m u) {v1 : Nat} {v1' : Nat} {v6 : Int32} {v7 : Int32} {v9 : Int32} {v10 : Int32} {v12 : Int32} {v13 : Int32} (h_v1 : CVn c v1 v1') : RF 0 o VE c u (fb_Te_order_121 N G u 43 (some v1) v6 v7 v9 v10 v12 v13) (hb_Te_order_121 N G' m v1' v6 v7 v9 v10 v12 v13) := by
  unfold fb_Te_order_121 hb_Te_order_121
  refine rf_br ?_ ?_
  · exact (yb_Te_order_173 hG1 hG2 R h_v1)
  · refine rf_br ?_ ?_
    · exact (yb_Te_order_173 hG1 hG2 R h_v1)
    · refine rf_bo (rx_43_1 R) ?_
      refine rf_so ?_
      refine rf_ai (aq_C R h_v1) ?_
      refine rf_so ?_
      refine rf_wk (sx_45 R) (fun w5' w5 R_w5 => ?_)
      refine rf_bo (rx_43_2 R_w5) ?_
      refine rf_so ?_
      refine rf_ai (aq_C R_w5 h_v1) ?_
      refine rf_so ?_
      refine rf_wk (sx_46 R_w5) (fun w10' w10 R_w10 => ?_)
      exact (hG2 _ _ _ _ _ _ _ _ _ _ _ R_w10 h_v1)
theorem yb_Te_order_21 {N : Nat} {o : Option Nat} {c : Nat → Nat} {m : MS} {u : CS} {G : (CS → Nat → Option Nat → Int32 → Int32 → Option (CS × Int32)) × (CS → Nat → Option Nat → Int32 → Int32 → Int32 → Int32 → Int32 → Int32 → Option (CS × Int32))} {G' : (MS → Nat → Int32 → Int32 → Option (MS × Int32)) × (MS → Nat → Int32 → Int32 → Int32 → Int32 → Int32 → Int32 → Option (MS × Int32))} (hG1 : ∀ (c : Nat → Nat) (m : MS) (u : CS) (v1 : Nat) (v1' : Nat) (v6 : Int32) (v7 : Int32), RP o c m u → CVn c v1 v1' → RF 0 o VE c u (G.1 u 43 (some v1) v6 v7) (G'.1 m v1' v6 v7)) (hG2 : ∀ (c : Nat → Nat) (m : MS) (u : CS) (v1 : Nat) (v1' : Nat) (v6 : Int32) (v7 : Int32) (v9 : Int32) (v10 : Int32) (v12 : Int32) (v13 : Int32), RP o c m u → CVn c v1 v1' → RF 0 o VE c u (G.2 u 43 (some v1) v6 v7 v9 v10 v12 v13) (G'.2 m v1' v6 v7 v9 v10 v12 v13)) (R : RP o c m u) {v1 : Nat} {v1' : Nat} {v6 : Int32} {v7 : Int32} (h_v1 : CVn c v1 v1') : RF 0 o VE c u (fb_Te_order_21 N G u 43 (some v1) v6 v7) (hb_Te_order_21 N G' m v1' v6 v7) := by
  unfold fb_Te_order_21 hb_Te_order_21
  refine rf_br ?_ ?_
  · exact (yb_Te_order_179 hG1 hG2 R)
  · refine rf_br ?_ ?_
    · exact (yb_Te_order_179 hG1 hG2 R)
    · refine rf_bo (rx_43_1 R) ?_
      refine rf_so ?_
      refine rf_ai (ax_45 R) ?_
      refine rf_bo (rx_43_2 R) ?_
      refine rf_so ?_
      refine rf_ai (ax_46 R) ?_
      refine rf_ck (ox_43 R) ?_
      refine rf_bx0 (ym_Te_orderAlone R h_v1) (fun u17' u17 r17 R_u17 => ?_)
      refine rf_br ?_ ?_
      · refine rf_bo (rx_43_1 R_u17) ?_
        refine rf_so ?_
        refine rf_ai (ax_45 R_u17) ?_
        refine rf_bo (rx_43_2 R_u17) ?_
        refine rf_so ?_
        refine rf_ai (ax_46 R_u17) ?_
        refine rf_bo (rx_43_1 R_u17) ?_
        refine rf_so ?_
        refine rf_ai (ax_45 R_u17) ?_
        refine rf_bx0 (ym_Te_cellsAt R_u17 h_v1) (fun u27' u27 r27 R_u27 => ?_)
        refine rf_bo (rx_43_1 R_u27) ?_
        refine rf_so ?_
        refine rf_ai (ax_45 R_u27) ?_
        refine rf_bx0 (ym_Te_partsOf R_u27) (fun u31' u31 r31 R_u31 => ?_)
        exact (hG2 _ _ _ _ _ _ _ _ _ _ _ R_u31 h_v1)
      · exact rf_ret R_u17 rfl
theorem yb_Te_order_0 {N : Nat} {o : Option Nat} {c : Nat → Nat} {m : MS} {u : CS} {G : (CS → Nat → Option Nat → Int32 → Int32 → Option (CS × Int32)) × (CS → Nat → Option Nat → Int32 → Int32 → Int32 → Int32 → Int32 → Int32 → Option (CS × Int32))} {G' : (MS → Nat → Int32 → Int32 → Option (MS × Int32)) × (MS → Nat → Int32 → Int32 → Int32 → Int32 → Int32 → Int32 → Option (MS × Int32))} (hG1 : ∀ (c : Nat → Nat) (m : MS) (u : CS) (v1 : Nat) (v1' : Nat) (v6 : Int32) (v7 : Int32), RP o c m u → CVn c v1 v1' → RF 0 o VE c u (G.1 u 43 (some v1) v6 v7) (G'.1 m v1' v6 v7)) (hG2 : ∀ (c : Nat → Nat) (m : MS) (u : CS) (v1 : Nat) (v1' : Nat) (v6 : Int32) (v7 : Int32) (v9 : Int32) (v10 : Int32) (v12 : Int32) (v13 : Int32), RP o c m u → CVn c v1 v1' → RF 0 o VE c u (G.2 u 43 (some v1) v6 v7 v9 v10 v12 v13) (G'.2 m v1' v6 v7 v9 v10 v12 v13)) (R : RP o c m u) {v1 : Nat} {v1' : Nat} {v2 : Int64} {v4 : Int64} (h_v1 : CVn c v1 v1') : RF 0 o VE c u (fb_Te_order_0 N G u 43 (some v1) v2 v4) (hb_Te_order_0 N G' m v1' v2 v4) := by
  unfold fb_Te_order_0 hb_Te_order_0
  refine rf_bo (rx_43_1 R) ?_
  refine rf_so ?_
  refine rf_wk (sx_45 R) (fun w34' w34 R_w34 => ?_)
  refine rf_bo (rx_43_2 R_w34) ?_
  refine rf_so ?_
  refine rf_wk (sx_46 R_w34) (fun w37' w37 R_w37 => ?_)
  exact (hG1 _ _ _ _ _ _ _ R_w37 h_v1)
theorem yg_Te_order {N : Nat} {o : Option Nat} : ∀ n, (∀ (c : Nat → Nat) (m : MS) (u : CS) (v1 : Nat) (v1' : Nat) (v6 : Int32) (v7 : Int32), RP o c m u → CVn c v1 v1' → RF 0 o VE c u ((gg_Te_order N n).1 u 43 (some v1) v6 v7) ((hg_Te_order N n).1 m v1' v6 v7)) ∧ (∀ (c : Nat → Nat) (m : MS) (u : CS) (v1 : Nat) (v1' : Nat) (v6 : Int32) (v7 : Int32) (v9 : Int32) (v10 : Int32) (v12 : Int32) (v13 : Int32), RP o c m u → CVn c v1 v1' → RF 0 o VE c u ((gg_Te_order N n).2 u 43 (some v1) v6 v7 v9 v10 v12 v13) ((hg_Te_order N n).2 m v1' v6 v7 v9 v10 v12 v13)) := by
  intro n
  induction n with
  | zero => exact ⟨fun c m u v1 v1' v6 v7 R h_v1 => rf_none, fun c m u v1 v1' v6 v7 v9 v10 v12 v13 R h_v1 => rf_none⟩
  | succ n ih => exact ⟨fun c m u v1 v1' v6 v7 R h_v1 => yb_Te_order_21 (N := N) ih.1 ih.2 R h_v1, fun c m u v1 v1' v6 v7 v9 v10 v12 v13 R h_v1 => yb_Te_order_121 (N := N) ih.1 ih.2 R h_v1⟩
theorem ym_Te_order {N : Nat} {o : Option Nat} {c : Nat → Nat} {m : MS} {u : CS} (R : RP o c m u) {v1 : Nat} {v1' : Nat} {v2 : Int64} {v4 : Int64} (h_v1 : CVn c v1 v1') : RF 0 o VE c u (fm_Te_order N u 43 (some v1) v2 v4) (hm_Te_order N m v1' v2 v4) := yb_Te_order_0 (N := N) (yg_Te_order (N := N) N).1 (yg_Te_order (N := N) N).2 R h_v1
end
section
set_option maxRecDepth 100000
theorem yb_Ma_number_0 {N : Nat} {p : Nat} {c : Nat → Nat} {m : MS} {u : CS} (R : RP (some p) c m u) {v1 : Int32} {v2 : Int64} {v4 : Int32} : RF 1 (some p) VE c u (fb_Ma_number_0 N () u 55 v1 v2 v4) (hb_Ma_number_0 N () m p v1 v2 v4) := by
  unfold fb_Ma_number_0 hb_Ma_number_0
  refine rf_br ?_ ?_
  · refine rf_bx0 (rf_gz (ym_Te_make R) (by omega)) (fun u1' u1 r1 R_u1 => ?_)
    refine rf_gw ?_
    refine rf_ck (ox_55 R_u1) ?_
    refine rf_ck (all1 (okR_s R_u1 (by decide))) ?_
    refine rf_bx (rf_gw (ym_Ma_answer R_u1)) (by unfold zle; omega) (fun c_u2 u2' u2 r2 r2' R_u2 E_u2 v_u2 => ?_)
    cases v_u2
    refine rf_gw ?_
    refine rf_bo (gx_55_5 R_u2) ?_
    refine rf_w (px_55_5 R_u2) (fun w4' w4 R_w4 => ?_)
    exact rf_ret R_w4 rfl
  · refine rf_ck (ox_55 R) ?_
    refine rf_bx0 (rf_gz (ym_Ma_wrong R) (by omega)) (fun u5' u5 r5 R_u5 => ?_)
    refine rf_gw ?_
    exact rf_ret R_u5 rfl
theorem ym_Ma_number {N : Nat} {p : Nat} {c : Nat → Nat} {m : MS} {u : CS} (R : RP (some p) c m u) {v1 : Int32} {v2 : Int64} {v4 : Int32} : RF 1 (some p) VE c u (fm_Ma_number N u 55 v1 v2 v4) (hm_Ma_number N m p v1 v2 v4) := yb_Ma_number_0 (N := N) R
theorem yb_Ma_arithmetic_208 {N : Nat} {p : Nat} {c : Nat → Nat} {m : MS} {u : CS} (R : RP (some p) c m u) {v8 : Int64} : RF 1 (some p) VE c u (fb_Ma_arithmetic_208 N () u 55 v8) (hb_Ma_arithmetic_208 N () m p v8) := by
  unfold fb_Ma_arithmetic_208 hb_Ma_arithmetic_208
  refine rf_ck (ox_55 R) ?_
  refine rf_ck (all1 (okR_s R (by decide))) ?_
  refine rf_bx (rf_gw (ym_Ma_number R)) (by unfold zle; omega) (fun c_u1 u1' u1 r1 r1' R_u1 E_u1 v_u1 => ?_)
  cases v_u1
  refine rf_gw ?_
  exact rf_ret R_u1 rfl
theorem yb_Ma_arithmetic_206 {N : Nat} {p : Nat} {c : Nat → Nat} {m : MS} {u : CS} (R : RP (some p) c m u) {t0 : Int64} : RF 1 (some p) VE c u (fb_Ma_arithmetic_206 N () u 55 t0) (hb_Ma_arithmetic_206 N () m p t0) := by
  unfold fb_Ma_arithmetic_206 hb_Ma_arithmetic_206
  exact (yb_Ma_arithmetic_208 R)
theorem yb_Ma_arithmetic_186 {N : Nat} {p : Nat} {c : Nat → Nat} {m : MS} {u : CS} (R : RP (some p) c m u) {t0 : Int64} : RF 1 (some p) VE c u (fb_Ma_arithmetic_186 N () u 55 t0) (hb_Ma_arithmetic_186 N () m p t0) := by
  unfold fb_Ma_arithmetic_186 hb_Ma_arithmetic_186
  exact (yb_Ma_arithmetic_208 R)
theorem yb_Ma_arithmetic_99 {N : Nat} {p : Nat} {c : Nat → Nat} {m : MS} {u : CS} (R : RP (some p) c m u) {v1 : Int32} {v3 : Int64} {v5 : Int64} : RF 1 (some p) VE c u (fb_Ma_arithmetic_99 N () u 55 v1 v3 v5) (hb_Ma_arithmetic_99 N () m p v1 v3 v5) := by
  unfold fb_Ma_arithmetic_99 hb_Ma_arithmetic_99
  refine rf_br ?_ ?_
  · refine rf_br ?_ ?_
    · exact (yb_Ma_arithmetic_186 R)
    · refine rf_ckk ?_
      exact (yb_Ma_arithmetic_186 R)
  · refine rf_br ?_ ?_
    · exact (yb_Ma_arithmetic_208 R)
    · refine rf_br ?_ ?_
      · exact (yb_Ma_arithmetic_208 R)
      · refine rf_br ?_ ?_
        · exact (yb_Ma_arithmetic_208 R)
        · refine rf_br ?_ ?_
          · exact (yb_Ma_arithmetic_206 R)
          · refine rf_ckk ?_
            exact (yb_Ma_arithmetic_206 R)
theorem yb_Ma_arithmetic_92 {N : Nat} {p : Nat} {c : Nat → Nat} {m : MS} {u : CS} (R : RP (some p) c m u) : RF 1 (some p) VE c u (fb_Ma_arithmetic_92 N () u 55) (hb_Ma_arithmetic_92 N () m p) := by
  unfold fb_Ma_arithmetic_92 hb_Ma_arithmetic_92
  refine rf_ck (ox_55 R) ?_
  refine rf_bx0 (rf_gz (ym_Ma_wrong R) (by omega)) (fun u2' u2 r2 R_u2 => ?_)
  refine rf_gw ?_
  exact rf_ret R_u2 rfl
theorem yb_Ma_arithmetic_74 {N : Nat} {p : Nat} {c : Nat → Nat} {m : MS} {u : CS} (R : RP (some p) c m u) {v1 : Int32} {v2 : Int32} {v3 : Int64} {v5 : Int64} {t0 : Int32} : RF 1 (some p) VE c u (fb_Ma_arithmetic_74 N () u 55 v1 v2 v3 v5 t0) (hb_Ma_arithmetic_74 N () m p v1 v2 v3 v5 t0) := by
  unfold fb_Ma_arithmetic_74 hb_Ma_arithmetic_74
  refine rf_br ?_ ?_
  · exact (yb_Ma_arithmetic_92 R)
  · refine rf_br ?_ ?_
    · exact (yb_Ma_arithmetic_99 R)
    · refine rf_br ?_ ?_
      · exact (yb_Ma_arithmetic_92 R)
      · exact (yb_Ma_arithmetic_99 R)
theorem yb_Ma_arithmetic_69 {N : Nat} {p : Nat} {c : Nat → Nat} {m : MS} {u : CS} (R : RP (some p) c m u) {v1 : Int32} {v2 : Int32} {v3 : Int64} {v5 : Int64} : RF 1 (some p) VE c u (fb_Ma_arithmetic_69 N () u 55 v1 v2 v3 v5) (hb_Ma_arithmetic_69 N () m p v1 v2 v3 v5) := by
  unfold fb_Ma_arithmetic_69 hb_Ma_arithmetic_69
  exact (yb_Ma_arithmetic_74 R)
theorem yb_Ma_arithmetic_33 {N : Nat} {p : Nat} {c : Nat → Nat} {m : MS} {u : CS} (R : RP (some p) c m u) {v1 : Int32} {t0 : Int32} : RF 1 (some p) VE c u (fb_Ma_arithmetic_33 N () u 55 v1 t0) (hb_Ma_arithmetic_33 N () m p v1 t0) := by
  unfold fb_Ma_arithmetic_33 hb_Ma_arithmetic_33
  refine rf_bo (gR_M4 R) ?_
  refine rf_soF R.md (fun j5 h_j5 => ?_)
  refine rf_ck (io_F R h_j5) ?_
  refine rf_bx0 (rf_gz (ym_Fr_below R h_j5) (by omega)) (fun u4' u4 r4 R_u4 => ?_)
  refine rf_gw ?_
  refine rf_bo (gR_M4 R_u4) ?_
  refine rf_soF R_u4.md (fun j8 h_j8 => ?_)
  refine rf_ck (io_F R_u4 h_j8) ?_
  refine rf_bx0 (rf_gz (ym_Fr_below R_u4 h_j8) (by omega)) (fun u7' u7 r7 R_u7 => ?_)
  refine rf_gw ?_
  refine rf_br ?_ ?_
  · exact (yb_Ma_arithmetic_69 R_u7)
  · refine rf_br ?_ ?_
    · exact (yb_Ma_arithmetic_69 R_u7)
    · exact (yb_Ma_arithmetic_74 R_u7)
theorem yb_Ma_arithmetic_32 {N : Nat} {p : Nat} {c : Nat → Nat} {m : MS} {u : CS} (R : RP (some p) c m u) {v1 : Int32} : RF 1 (some p) VE c u (fb_Ma_arithmetic_32 N () u 55 v1) (hb_Ma_arithmetic_32 N () m p v1) := by
  unfold fb_Ma_arithmetic_32 hb_Ma_arithmetic_32
  exact (yb_Ma_arithmetic_33 R)
theorem yb_Ma_arithmetic_0 {N : Nat} {p : Nat} {c : Nat → Nat} {m : MS} {u : CS} (R : RP (some p) c m u) {v1 : Int32} : RF 1 (some p) VE c u (fb_Ma_arithmetic_0 N () u 55 v1) (hb_Ma_arithmetic_0 N () m p v1) := by
  unfold fb_Ma_arithmetic_0 hb_Ma_arithmetic_0
  refine rf_bo (gR_M4 R) ?_
  refine rf_soF R.md (fun j11 h_j11 => ?_)
  refine rf_ck (io_F R h_j11) ?_
  refine rf_bx0 (rf_gz (ym_Fr_below R h_j11) (by omega)) (fun u10' u10 r10 R_u10 => ?_)
  refine rf_gw ?_
  refine rf_bx0 (rf_gz (ym_Te_tag R_u10) (by omega)) (fun u12' u12 r12 R_u12 => ?_)
  refine rf_gw ?_
  refine rf_br ?_ ?_
  · refine rf_bo (gR_M4 R_u12) ?_
    refine rf_soF R_u12.md (fun j15 h_j15 => ?_)
    refine rf_ck (io_F R_u12 h_j15) ?_
    refine rf_bx0 (rf_gz (ym_Fr_below R_u12 h_j15) (by omega)) (fun u14' u14 r14 R_u14 => ?_)
    refine rf_gw ?_
    refine rf_bx0 (rf_gz (ym_Te_tag R_u14) (by omega)) (fun u16' u16 r16 R_u16 => ?_)
    refine rf_gw ?_
    refine rf_br ?_ ?_
    · exact (yb_Ma_arithmetic_33 R_u16)
    · exact (yb_Ma_arithmetic_32 R_u16)
  · exact (yb_Ma_arithmetic_32 R_u12)
theorem ym_Ma_arithmetic {N : Nat} {p : Nat} {c : Nat → Nat} {m : MS} {u : CS} (R : RP (some p) c m u) {v1 : Int32} : RF 1 (some p) VE c u (fm_Ma_arithmetic N u 55 v1) (hm_Ma_arithmetic N m p v1) := yb_Ma_arithmetic_0 (N := N) R
theorem yb_Ma_negate_0 {N : Nat} {p : Nat} {c : Nat → Nat} {m : MS} {u : CS} (R : RP (some p) c m u) : RF 1 (some p) VE c u (fb_Ma_negate_0 N () u 55) (hb_Ma_negate_0 N () m p) := by
  unfold fb_Ma_negate_0 hb_Ma_negate_0
  refine rf_bo (gR_M4 R) ?_
  refine rf_soF R.md (fun j3 h_j3 => ?_)
  refine rf_ck (io_F R h_j3) ?_
  refine rf_bx0 (rf_gz (ym_Fr_below R h_j3) (by omega)) (fun u2' u2 r2 R_u2 => ?_)
  refine rf_gw ?_
  refine rf_bx0 (rf_gz (ym_Te_tag R_u2) (by omega)) (fun u4' u4 r4 R_u4 => ?_)
  refine rf_gw ?_
  refine rf_br ?_ ?_
  · refine rf_bo (gR_M4 R_u4) ?_
    refine rf_soF R_u4.md (fun j7 h_j7 => ?_)
    refine rf_ck (io_F R_u4 h_j7) ?_
    refine rf_bx0 (rf_gz (ym_Fr_below R_u4 h_j7) (by omega)) (fun u6' u6 r6 R_u6 => ?_)
    refine rf_gw ?_
    refine rf_ck (ox_55 R_u6) ?_
    refine rf_ck (all1 (okR_s R_u6 (by decide))) ?_
    refine rf_bx (rf_gw (ym_Ma_number R_u6)) (by unfold zle; omega) (fun c_u8 u8' u8 r8 r8' R_u8 E_u8 v_u8 => ?_)
    cases v_u8
    refine rf_gw ?_
    exact rf_ret R_u8 rfl
  · refine rf_ck (ox_55 R_u4) ?_
    refine rf_bx0 (rf_gz (ym_Ma_wrong R_u4) (by omega)) (fun u9' u9 r9 R_u9 => ?_)
    refine rf_gw ?_
    exact rf_ret R_u9 rfl
theorem ym_Ma_negate {N : Nat} {p : Nat} {c : Nat → Nat} {m : MS} {u : CS} (R : RP (some p) c m u) : RF 1 (some p) VE c u (fm_Ma_negate N u 55) (hm_Ma_negate N m p) := yb_Ma_negate_0 (N := N) R
theorem yb_Ma_not_50 {N : Nat} {p : Nat} {c : Nat → Nat} {m : MS} {u : CS} (R : RP (some p) c m u) {t1 : Int32} {t2 : Int32} : RF 1 (some p) VE c u (fb_Ma_not_50 N () u 55 55 t1 t2) (hb_Ma_not_50 N () m p t1 t2) := by
  unfold fb_Ma_not_50 hb_Ma_not_50
  refine rf_bx0 (rf_gz (ym_Ma_truth R) (by omega)) (fun u1' u1 r1 R_u1 => ?_)
  refine rf_gw ?_
  refine rf_ck (ox_55 R_u1) ?_
  refine rf_ck (all1 (okR_s R_u1 (by decide))) ?_
  refine rf_bx (rf_gw (ym_Ma_answer R_u1)) (by unfold zle; omega) (fun c_u2 u2' u2 r2 r2' R_u2 E_u2 v_u2 => ?_)
  cases v_u2
  refine rf_gw ?_
  refine rf_bo (gx_55_5 R_u2) ?_
  refine rf_w (px_55_5 R_u2) (fun w4' w4 R_w4 => ?_)
  exact rf_ret R_w4 rfl
theorem yb_Ma_not_34 {N : Nat} {p : Nat} {c : Nat → Nat} {m : MS} {u : CS} (R : RP (some p) c m u) {v1 : Int64} : RF 1 (some p) VE c u (fb_Ma_not_34 N () u 55 v1) (hb_Ma_not_34 N () m p v1) := by
  unfold fb_Ma_not_34 hb_Ma_not_34
  refine rf_bx0 (rf_gz (ym_Ma_atom R) (by omega)) (fun u5' u5 r5 R_u5 => ?_)
  refine rf_gw ?_
  refine rf_br ?_ ?_
  · exact (yb_Ma_not_50 R_u5)
  · exact (yb_Ma_not_50 R_u5)
theorem yb_Ma_not_0 {N : Nat} {p : Nat} {c : Nat → Nat} {m : MS} {u : CS} (R : RP (some p) c m u) : RF 1 (some p) VE c u (fb_Ma_not_0 N () u 55) (hb_Ma_not_0 N () m p) := by
  unfold fb_Ma_not_0 hb_Ma_not_0
  refine rf_bo (gR_M4 R) ?_
  refine rf_soF R.md (fun j8 h_j8 => ?_)
  refine rf_ck (io_F R h_j8) ?_
  refine rf_bx0 (rf_gz (ym_Fr_below R h_j8) (by omega)) (fun u7' u7 r7 R_u7 => ?_)
  refine rf_gw ?_
  refine rf_bx0 (rf_gz (ym_Ma_atom R_u7) (by omega)) (fun u9' u9 r9 R_u9 => ?_)
  refine rf_gw ?_
  refine rf_br ?_ ?_
  · exact (yb_Ma_not_34 R_u9)
  · refine rf_bx0 (rf_gz (ym_Ma_atom R_u9) (by omega)) (fun u10' u10 r10 R_u10 => ?_)
    refine rf_gw ?_
    refine rf_br ?_ ?_
    · exact (yb_Ma_not_34 R_u10)
    · refine rf_ck (ox_55 R_u10) ?_
      refine rf_bx0 (rf_gz (ym_Ma_wrong R_u10) (by omega)) (fun u11' u11 r11 R_u11 => ?_)
      refine rf_gw ?_
      exact rf_ret R_u11 rfl
theorem ym_Ma_not {N : Nat} {p : Nat} {c : Nat → Nat} {m : MS} {u : CS} (R : RP (some p) c m u) : RF 1 (some p) VE c u (fm_Ma_not N u 55) (hm_Ma_not N m p) := yb_Ma_not_0 (N := N) R
theorem yb_Ma_hinge_71 {N : Nat} {p : Nat} {c : Nat → Nat} {m : MS} {u : CS} (R : RP (some p) c m u) : RF 0 (some p) VE c u (fb_Ma_hinge_71 N () u) (hb_Ma_hinge_71 N () m p) := by
  unfold fb_Ma_hinge_71 hb_Ma_hinge_71
  exact rf_ret R rfl
theorem yb_Ma_hinge_36 {N : Nat} {p : Nat} {c : Nat → Nat} {m : MS} {u : CS} (R : RP (some p) c m u) {v1 : Int32} {v2 : Int32} {v3 : Int64} : RF 0 (some p) VE c u (fb_Ma_hinge_36 N () u 55 v1 v2 v3) (hb_Ma_hinge_36 N () m p v1 v2 v3) := by
  unfold fb_Ma_hinge_36 hb_Ma_hinge_36
  refine rf_bx0 (ym_Ma_truth R) (fun u1' u1 r1 R_u1 => ?_)
  refine rf_br ?_ ?_
  · refine rf_bo (gR_M4 R_u1) ?_
    refine rf_soF R_u1.md (fun j5 h_j5 => ?_)
    refine rf_ck (io_F R_u1 h_j5) ?_
    refine rf_bx0 (ym_Fr_drop R_u1 h_j5) (fun u4' u4 r4 R_u4 => ?_)
    refine rf_bo (gx_55_5 R_u4) ?_
    refine rf_w (px_55_5 R_u4) (fun w7' w7 R_w7 => ?_)
    exact (yb_Ma_hinge_71 R_w7)
  · refine rf_w (px_55_5 R_u1) (fun w2' w2 R_w2 => ?_)
    exact (yb_Ma_hinge_71 R_w2)
theorem yb_Ma_hinge_0 {N : Nat} {p : Nat} {c : Nat → Nat} {m : MS} {u : CS} (R : RP (some p) c m u) {v1 : Int32} {v2 : Int32} : RF 0 (some p) VE c u (fb_Ma_hinge_0 N () u 55 v1 v2) (hb_Ma_hinge_0 N () m p v1 v2) := by
  unfold fb_Ma_hinge_0 hb_Ma_hinge_0
  refine rf_bo (gR_M4 R) ?_
  refine rf_soF R.md (fun j10 h_j10 => ?_)
  refine rf_ck (io_F R h_j10) ?_
  refine rf_bx0 (ym_Fr_below R h_j10) (fun u9' u9 r9 R_u9 => ?_)
  refine rf_bx0 (ym_Ma_atom R_u9) (fun u11' u11 r11 R_u11 => ?_)
  refine rf_br ?_ ?_
  · exact (yb_Ma_hinge_36 R_u11)
  · refine rf_bx0 (ym_Ma_atom R_u11) (fun u12' u12 r12 R_u12 => ?_)
    refine rf_br ?_ ?_
    · exact (yb_Ma_hinge_36 R_u12)
    · refine rf_ck (ox_55 R_u12) ?_
      refine rf_bx0 (ym_Ma_wrong R_u12) (fun u13' u13 r13 R_u13 => ?_)
      exact (yb_Ma_hinge_71 R_u13)
theorem ym_Ma_hinge {N : Nat} {p : Nat} {c : Nat → Nat} {m : MS} {u : CS} (R : RP (some p) c m u) {v1 : Int32} {v2 : Int32} : RF 0 (some p) VE c u (fm_Ma_hinge N u 55 v1 v2) (hm_Ma_hinge N m p v1 v2) := yb_Ma_hinge_0 (N := N) R
theorem yb_Fr_forget_0 {N : Nat} {o : Option Nat} {c : Nat → Nat} {m : MS} {u : CS} (R : RP o c m u) {v0 : Nat} {v0' : Nat} {v1 : Int32} (h_v0 : FVn c v0 v0') : RF 0 o VE c u (fb_Fr_forget_0 N () u v0 v1) (hb_Fr_forget_0 N () m v0' v1) := by
  unfold fb_Fr_forget_0 hb_Fr_forget_0
  refine rf_bo (gf_4 R h_v0) ?_
  refine rf_lt ?_
  refine rf_w (wf_4 R h_v0) (fun w3' w3 R_w3 => ?_)
  exact rf_ret R_w3 rfl
theorem ym_Fr_forget {N : Nat} {o : Option Nat} {c : Nat → Nat} {m : MS} {u : CS} (R : RP o c m u) {v0 : Nat} {v0' : Nat} {v1 : Int32} (h_v0 : FVn c v0 v0') : RF 0 o VE c u (fm_Fr_forget N u v0 v1) (hm_Fr_forget N m v0' v1) := yb_Fr_forget_0 (N := N) R h_v0
theorem yb_Ma_sendTo_34 {N : Nat} {p : Nat} {c : Nat → Nat} {m : MS} {u : CS} (R : RP (some p) c m u) {t0 : Option Nat} {t0' : Option Nat} (h_t0 : PVo c t0 t0') : RF 2 (some p) VE c u (fb_Ma_sendTo_34 N () u 55 t0) (hb_Ma_sendTo_34 N () m p t0') := by
  unfold fb_Ma_sendTo_34 hb_Ma_sendTo_34
  refine rf_br2 (PV_n h_t0) ?_ ?_
  · refine rf_ck (ox_55 R) ?_
    refine rf_bx0 (rf_gz (ym_Ma_wrong R) (by omega)) (fun u17' u17 r17 R_u17 => ?_)
    refine rf_gw ?_
    exact rf_ret R_u17 rfl
  · refine rf_bo (rx_55_1 R) ?_
    refine rf_bo (gR_M3 R) ?_
    refine rf_soP R.md (fun j3 h_j3 => ?_)
    refine rf_bo (gI_P0 R h_j3) ?_
    refine rf_bo (gR_M4 R) ?_
    refine rf_soF R.md (fun j7 h_j7 => ?_)
    refine rf_ck (io_F R h_j7) ?_
    refine rf_bx0 (rf_gz (ym_Fr_below R h_j7) (by omega)) (fun u6' u6 r6 R_u6 => ?_)
    refine rf_gw ?_
    refine rf_bo (gR_M3 R_u6) ?_
    refine rf_so ?_
    refine rf_ck (ox_47 R_u6) ?_
    refine rf_opt h_t0 (fun t0_j t0_q e1_t0 e2_t0 h_t0j => ?_)
    subst e1_t0
    refine rf_bx (rf_gz (ym_Wl_post R_u6 h_t0j (PV_s R_u6.md)) (by omega)) (by unfold zle; omega) (fun c_u9 u9' u9 r9 r9' R_u9 E_u9 v_u9 => ?_)
    cases v_u9
    replace h_t0j := E_u9.P h_t0j
    refine rf_gw ?_
    refine rf_bo (gR_M4 R_u9) ?_
    refine rf_soF R_u9.md (fun j13 h_j13 => ?_)
    refine rf_ck (io_F R_u9 h_j13) ?_
    refine rf_bx0 (rf_gz (ym_Fr_below R_u9 h_j13) (by omega)) (fun u12' u12 r12 R_u12 => ?_)
    refine rf_gw ?_
    refine rf_ck (ox_55 R_u12) ?_
    refine rf_ck (all2 (okR_P R_u12 h_t0j) (okR_s R_u12 (by decide))) ?_
    refine rf_bx (rf_gw (ym_Ma_answer R_u12)) (by unfold zle; omega) (fun c_u14 u14' u14 r14 r14' R_u14 E_u14 v_u14 => ?_)
    cases v_u14
    refine rf_gw ?_
    refine rf_bo (gx_55_5 R_u14) ?_
    refine rf_w (px_55_5 R_u14) (fun w16' w16 R_w16 => ?_)
    exact rf_ret R_w16 rfl
theorem yb_Ma_sendTo_0 {N : Nat} {p : Nat} {c : Nat → Nat} {m : MS} {u : CS} (R : RP (some p) c m u) : RF 2 (some p) VE c u (fb_Ma_sendTo_0 N () u 55) (hb_Ma_sendTo_0 N () m p) := by
  unfold fb_Ma_sendTo_0 hb_Ma_sendTo_0
  refine rf_bo (gR_M4 R) ?_
  refine rf_soF R.md (fun j20 h_j20 => ?_)
  refine rf_ck (io_F R h_j20) ?_
  refine rf_bx0 (rf_gz (ym_Fr_below R h_j20) (by omega)) (fun u19' u19 r19 R_u19 => ?_)
  refine rf_gw ?_
  refine rf_bx0 (rf_gz (ym_Te_tag R_u19) (by omega)) (fun u21' u21 r21 R_u21 => ?_)
  refine rf_gw ?_
  refine rf_br ?_ ?_
  · refine rf_bo (rx_55_1 R_u21) ?_
    refine rf_so ?_
    refine rf_ck (ox_47 R_u21) ?_
    refine rf_bxP (rf_gz (ym_Wl_named R_u21) (by omega)) (fun u24' u24 r24 r24' R_u24 h_r24 => ?_)
    refine rf_gw ?_
    exact (yb_Ma_sendTo_34 R_u24 h_r24)
  · refine rf_ck (ox_55 R_u21) ?_
    refine rf_bxP (rf_gz (ym_Ma_processAt R_u21) (by omega)) (fun u22' u22 r22 r22' R_u22 h_r22 => ?_)
    refine rf_gw ?_
    exact (yb_Ma_sendTo_34 R_u22 h_r22)
theorem ym_Ma_sendTo {N : Nat} {p : Nat} {c : Nat → Nat} {m : MS} {u : CS} (R : RP (some p) c m u) : RF 2 (some p) VE c u (fm_Ma_sendTo N u 55) (hm_Ma_sendTo N m p) := yb_Ma_sendTo_0 (N := N) R
theorem yb_Ma_join_106 {N : Nat} {p : Nat} {c : Nat → Nat} {m : MS} {u : CS} {G : (CS → Nat → Int32 → Int32 → Int64 → Int32 → Option (CS × Unit))} {G' : (MS → Nat → Int32 → Int32 → Int64 → Int32 → Option (MS × Unit))} (hG : ∀ (c : Nat → Nat) (m : MS) (u : CS) (v1 : Int32) (v2 : Int32) (v3 : Int64) (v5 : Int32), RP (some p) c m u → RF 2 (some p) VE c u (G u 55 v1 v2 v3 v5) (G' m p v1 v2 v3 v5)) (R : RP (some p) c m u) {v1 : Int32} {v2 : Int32} {v3 : Int64} {v5 : Int32} : RF 2 (some p) VE c u (fb_Ma_join_106 N G u 55 v1 v2 v3 v5) (hb_Ma_join_106 N G' m p v1 v2 v3 v5) := by
  unfold fb_Ma_join_106 hb_Ma_join_106
  refine rf_br ?_ ?_
  · refine rf_bo (gR_M4 R) ?_
    refine rf_soF R.md (fun j3 h_j3 => ?_)
    refine rf_ck (io_F R h_j3) ?_
    refine rf_bx0 (rf_gz (ym_Fr_below R h_j3) (by omega)) (fun u2' u2 r2 R_u2 => ?_)
    refine rf_gw ?_
    refine rf_ck (ox_55 R_u2) ?_
    refine rf_bx0 (rf_gz (ym_Ma_endList R_u2) (by omega)) (fun u4' u4 r4 R_u4 => ?_)
    refine rf_gw ?_
    refine rf_bx0 (rf_gz (ym_Te_make R_u4) (by omega)) (fun u5' u5 r5 R_u5 => ?_)
    refine rf_gw ?_
    refine rf_ck (ox_55 R_u5) ?_
    refine rf_ck (all1 (okR_s R_u5 (by decide))) ?_
    refine rf_bx (rf_gw (ym_Ma_answer R_u5)) (by unfold zle; omega) (fun c_u6 u6' u6 r6 r6' R_u6 E_u6 v_u6 => ?_)
    cases v_u6
    refine rf_gw ?_
    refine rf_bo (gx_55_5 R_u6) ?_
    refine rf_w (px_55_5 R_u6) (fun w8' w8 R_w8 => ?_)
    exact rf_ret R_w8 rfl
  · refine rf_bo (gR_M3 R) ?_
    refine rf_soP R.md (fun j10 h_j10 => ?_)
    refine rf_bo (gR_P2 R h_j10) ?_
    refine rf_bo (gR_M3 R) ?_
    refine rf_soP R.md (fun j13 h_j13 => ?_)
    refine rf_bo (gR_P2 R h_j13) ?_
    refine rf_so ?_
    refine rf_ai (aq_2 R h_j13.1) ?_
    refine rf_so ?_
    refine rf_wk (sq_2 R h_j10.1) (fun w18' w18 R_w18 => ?_)
    refine rf_bo (gR_M3 R_w18) ?_
    refine rf_soP R_w18.md (fun j20 h_j20 => ?_)
    refine rf_bo (gR_P2 R_w18 h_j20) ?_
    refine rf_bx0 (rf_gz (ym_Te_make R_w18) (by omega)) (fun u22' u22 r22 R_u22 => ?_)
    refine rf_gw ?_
    refine rf_so ?_
    refine rf_wk (sq_2 R_u22 h_j20.1) (fun w24' w24 R_w24 => ?_)
    refine rf_bo (gR_M3 R_w24) ?_
    refine rf_soP R_w24.md (fun j26 h_j26 => ?_)
    refine rf_bo (gR_P2 R_w24 h_j26) ?_
    refine rf_so ?_
    refine rf_ai (aq_2 R_w24 h_j26.1) ?_
    exact (hG _ _ _ _ _ _ _ R_w24)
theorem yb_Ma_join_68 {N : Nat} {p : Nat} {c : Nat → Nat} {m : MS} {u : CS} {G : (CS → Nat → Int32 → Int32 → Int64 → Int32 → Option (CS × Unit))} {G' : (MS → Nat → Int32 → Int32 → Int64 → Int32 → Option (MS × Unit))} (hG : ∀ (c : Nat → Nat) (m : MS) (u : CS) (v1 : Int32) (v2 : Int32) (v3 : Int64) (v5 : Int32), RP (some p) c m u → RF 2 (some p) VE c u (G u 55 v1 v2 v3 v5) (G' m p v1 v2 v3 v5)) (R : RP (some p) c m u) : RF 2 (some p) VE c u (fb_Ma_join_68 N G u 55) (hb_Ma_join_68 N G' m p) := by
  unfold fb_Ma_join_68 hb_Ma_join_68
  refine rf_ck (ox_55 R) ?_
  refine rf_bx0 (rf_gz (ym_Ma_wrong R) (by omega)) (fun u30' u30 r30 R_u30 => ?_)
  refine rf_gw ?_
  exact rf_ret R_u30 rfl
theorem yb_Ma_join_0 {N : Nat} {p : Nat} {c : Nat → Nat} {m : MS} {u : CS} {G : (CS → Nat → Int32 → Int32 → Int64 → Int32 → Option (CS × Unit))} {G' : (MS → Nat → Int32 → Int32 → Int64 → Int32 → Option (MS × Unit))} (hG : ∀ (c : Nat → Nat) (m : MS) (u : CS) (v1 : Int32) (v2 : Int32) (v3 : Int64) (v5 : Int32), RP (some p) c m u → RF 2 (some p) VE c u (G u 55 v1 v2 v3 v5) (G' m p v1 v2 v3 v5)) (R : RP (some p) c m u) : RF 2 (some p) VE c u (fb_Ma_join_0 N G u 55) (hb_Ma_join_0 N G' m p) := by
  unfold fb_Ma_join_0 hb_Ma_join_0
  refine rf_bo (rx_55_2 R) ?_
  refine rf_bo (gR_M3 R) ?_
  refine rf_soP R.md (fun j33 h_j33 => ?_)
  refine rf_bo (gR_P2 R h_j33) ?_
  refine rf_bo (gR_M4 R) ?_
  refine rf_soF R.md (fun j37 h_j37 => ?_)
  refine rf_ck (io_F R h_j37) ?_
  refine rf_bx0 (rf_gz (ym_Fr_below R h_j37) (by omega)) (fun u36' u36 r36 R_u36 => ?_)
  refine rf_gw ?_
  refine rf_so ?_
  refine rf_ck (ox_43 R_u36) ?_
  refine rf_bx0 (rf_gz (ym_Te_listLength R_u36 ⟨_, h_j33.1, rfl, rfl⟩) (by omega)) (fun u38' u38 r38 R_u38 => ?_)
  refine rf_gw ?_
  refine rf_br ?_ ?_
  · refine rf_bo (gR_M4 R_u38) ?_
    refine rf_soF R_u38.md (fun j50 h_j50 => ?_)
    refine rf_ck (io_F R_u38 h_j50) ?_
    refine rf_bx0 (rf_gz (ym_Fr_below R_u38 h_j50) (by omega)) (fun u49' u49 r49 R_u49 => ?_)
    refine rf_gw ?_
    refine rf_ck (ox_55 R_u49) ?_
    refine rf_ck (all1 (okR_s R_u49 (by decide))) ?_
    refine rf_bx (rf_gw (ym_Ma_answer R_u49)) (by unfold zle; omega) (fun c_u51 u51' u51 r51 r51' R_u51 E_u51 v_u51 => ?_)
    cases v_u51
    refine rf_gw ?_
    refine rf_bo (gx_55_5 R_u51) ?_
    refine rf_w (px_55_5 R_u51) (fun w53' w53 R_w53 => ?_)
    exact rf_ret R_w53 rfl
  · refine rf_br ?_ ?_
    · exact (yb_Ma_join_68 hG R_u38)
    · refine rf_ck (ox_55 R_u38) ?_
      refine rf_bx0 (rf_gz (ym_Ma_sizes R_u38) (by omega)) (fun u40' u40 r40 R_u40 => ?_)
      refine rf_gw ?_
      refine rf_br ?_ ?_
      · refine rf_ck (ox_55 R_u40) ?_
        refine rf_bx (rf_gz (ym_Ma_room R_u40) (by omega)) (by unfold zle; omega) (fun c_u41 u41' u41 r41 r41' R_u41 E_u41 v_u41 => ?_)
        cases v_u41
        refine rf_gw ?_
        refine rf_br ?_ ?_
        · exact rf_ret R_u41 rfl
        · refine rf_bo (gR_M3 R_u41) ?_
          refine rf_soP R_u41.md (fun j43 h_j43 => ?_)
          refine rf_bo (gq_4 R_u41 h_j43) ?_
          refine rf_bo (gR_M4 R_u41) ?_
          refine rf_soF R_u41.md (fun j47 h_j47 => ?_)
          refine rf_ck (io_F R_u41 h_j47) ?_
          refine rf_bx0 (rf_gz (ym_Fr_below R_u41 h_j47) (by omega)) (fun u46' u46 r46 R_u46 => ?_)
          refine rf_gw ?_
          exact (hG _ _ _ _ _ _ _ R_u46)
      · exact (yb_Ma_join_68 hG R_u40)
theorem yg_Ma_join {N : Nat} {p : Nat} : ∀ n, (∀ (c : Nat → Nat) (m : MS) (u : CS) (v1 : Int32) (v2 : Int32) (v3 : Int64) (v5 : Int32), RP (some p) c m u → RF 2 (some p) VE c u ((gg_Ma_join N n) u 55 v1 v2 v3 v5) ((hg_Ma_join N n) m p v1 v2 v3 v5)) := by
  intro n
  induction n with
  | zero => exact fun c m u v1 v2 v3 v5 R => rf_none
  | succ n ih => exact fun c m u v1 v2 v3 v5 R => yb_Ma_join_106 (N := N) ih R
theorem ym_Ma_join {N : Nat} {p : Nat} {c : Nat → Nat} {m : MS} {u : CS} (R : RP (some p) c m u) : RF 2 (some p) VE c u (fm_Ma_join N u 55) (hm_Ma_join N m p) := yb_Ma_join_0 (N := N) (yg_Ma_join (N := N) N) R
theorem yb_Ma_markGone_188 {N : Nat} {p : Nat} {c : Nat → Nat} {m : MS} {u : CS} {G : (CS → Nat → Int32 → Int32 → Option (CS × Int32)) × (CS → Nat → Int32 → Int32 → Int64 → Int32 → Option (CS × Int32)) × (CS → Nat → Int32 → Int32 → Int64 → Int32 → Int64 → Int32 → Option (CS × Int32))} {G' : (MS → Nat → Int32 → Int32 → Option (MS × Int32)) × (MS → Nat → Int32 → Int32 → Int64 → Int32 → Option (MS × Int32)) × (MS → Nat → Int32 → Int32 → Int64 → Int32 → Int64 → Int32 → Option (MS × Int32))} (hG1 : ∀ (c : Nat → Nat) (m : MS) (u : CS) (v1 : Int32) (v2 : Int32), RP (some p) c m u → RF 0 (some p) VE c u (G.1 u 55 v1 v2) (G'.1 m p v1 v2)) (hG2 : ∀ (c : Nat → Nat) (m : MS) (u : CS) (v1 : Int32) (v2 : Int32) (v3 : Int64) (v5 : Int32), RP (some p) c m u → RF 0 (some p) VE c u (G.2.1 u 55 v1 v2 v3 v5) (G'.2.1 m p v1 v2 v3 v5)) (hG3 : ∀ (c : Nat → Nat) (m : MS) (u : CS) (v1 : Int32) (v2 : Int32) (v3 : Int64) (v5 : Int32) (v6 : Int64) (v8 : Int32), RP (some p) c m u → RF 0 (some p) VE c u (G.2.2 u 55 v1 v2 v3 v5 v6 v8) (G'.2.2 m p v1 v2 v3 v5 v6 v8)) (R : RP (some p) c m u) {v2 : Int32} : RF 0 (some p) VE c u (fb_Ma_markGone_188 N G u v2) (hb_Ma_markGone_188 N G' m p v2) := by
  unfold fb_Ma_markGone_188 hb_Ma_markGone_188
  exact rf_ret R rfl
theorem yb_Ma_markGone_169 {N : Nat} {p : Nat} {c : Nat → Nat} {m : MS} {u : CS} {G : (CS → Nat → Int32 → Int32 → Option (CS × Int32)) × (CS → Nat → Int32 → Int32 → Int64 → Int32 → Option (CS × Int32)) × (CS → Nat → Int32 → Int32 → Int64 → Int32 → Int64 → Int32 → Option (CS × Int32))} {G' : (MS → Nat → Int32 → Int32 → Option (MS × Int32)) × (MS → Nat → Int32 → Int32 → Int64 → Int32 → Option (MS × Int32)) × (MS → Nat → Int32 → Int32 → Int64 → Int32 → Int64 → Int32 → Option (MS × Int32))} (hG1 : ∀ (c : Nat → Nat) (m : MS) (u : CS) (v1 : Int32) (v2 : Int32), RP (some p) c m u → RF 0 (some p) VE c u (G.1 u 55 v1 v2) (G'.1 m p v1 v2)) (hG2 : ∀ (c : Nat → Nat) (m : MS) (u : CS) (v1 : Int32) (v2 : Int32) (v3 : Int64) (v5 : Int32), RP (some p) c m u → RF 0 (some p) VE c u (G.2.1 u 55 v1 v2 v3 v5) (G'.2.1 m p v1 v2 v3 v5)) (hG3 : ∀ (c : Nat → Nat) (m : MS) (u : CS) (v1 : Int32) (v2 : Int32) (v3 : Int64) (v5 : Int32) (v6 : Int64) (v8 : Int32), RP (some p) c m u → RF 0 (some p) VE c u (G.2.2 u 55 v1 v2 v3 v5 v6 v8) (G'.2.2 m p v1 v2 v3 v5 v6 v8)) (R : RP (some p) c m u) {v1 : Int32} {v2 : Int32} {v3 : Int64} {v5 : Int32} : RF 0 (some p) VE c u (fb_Ma_markGone_169 N G u 55 v1 v2 v3 v5) (hb_Ma_markGone_169 N G' m p v1 v2 v3 v5) := by
  unfold fb_Ma_markGone_169 hb_Ma_markGone_169
  refine rf_bo (gR_M3 R) ?_
  refine rf_soP R.md (fun j2 h_j2 => ?_)
  refine rf_bo (gR_P2 R h_j2) ?_
  refine rf_so ?_
  refine rf_ai (aq_2 R h_j2.1) ?_
  exact (hG2 _ _ _ _ _ _ _ R)
theorem yb_Ma_markGone_148 {N : Nat} {p : Nat} {c : Nat → Nat} {m : MS} {u : CS} {G : (CS → Nat → Int32 → Int32 → Option (CS × Int32)) × (CS → Nat → Int32 → Int32 → Int64 → Int32 → Option (CS × Int32)) × (CS → Nat → Int32 → Int32 → Int64 → Int32 → Int64 → Int32 → Option (CS × Int32))} {G' : (MS → Nat → Int32 → Int32 → Option (MS × Int32)) × (MS → Nat → Int32 → Int32 → Int64 → Int32 → Option (MS × Int32)) × (MS → Nat → Int32 → Int32 → Int64 → Int32 → Int64 → Int32 → Option (MS × Int32))} (hG1 : ∀ (c : Nat → Nat) (m : MS) (u : CS) (v1 : Int32) (v2 : Int32), RP (some p) c m u → RF 0 (some p) VE c u (G.1 u 55 v1 v2) (G'.1 m p v1 v2)) (hG2 : ∀ (c : Nat → Nat) (m : MS) (u : CS) (v1 : Int32) (v2 : Int32) (v3 : Int64) (v5 : Int32), RP (some p) c m u → RF 0 (some p) VE c u (G.2.1 u 55 v1 v2 v3 v5) (G'.2.1 m p v1 v2 v3 v5)) (hG3 : ∀ (c : Nat → Nat) (m : MS) (u : CS) (v1 : Int32) (v2 : Int32) (v3 : Int64) (v5 : Int32) (v6 : Int64) (v8 : Int32), RP (some p) c m u → RF 0 (some p) VE c u (G.2.2 u 55 v1 v2 v3 v5 v6 v8) (G'.2.2 m p v1 v2 v3 v5 v6 v8)) (R : RP (some p) c m u) {v1 : Int32} {v2 : Int32} {v3 : Int64} {v5 : Int32} {v6 : Int64} {v8 : Int32} : RF 0 (some p) VE c u (fb_Ma_markGone_148 N G u 55 v1 v2 v3 v5 v6 v8) (hb_Ma_markGone_148 N G' m p v1 v2 v3 v5 v6 v8) := by
  unfold fb_Ma_markGone_148 hb_Ma_markGone_148
  refine rf_bo (gR_M3 R) ?_
  refine rf_soP R.md (fun j7 h_j7 => ?_)
  refine rf_bo (gR_P2 R h_j7) ?_
  refine rf_so ?_
  refine rf_ai (aq_2 R h_j7.1) ?_
  exact (hG3 _ _ _ _ _ _ _ _ _ R)
theorem yb_Ma_markGone_66 {N : Nat} {p : Nat} {c : Nat → Nat} {m : MS} {u : CS} {G : (CS → Nat → Int32 → Int32 → Option (CS × Int32)) × (CS → Nat → Int32 → Int32 → Int64 → Int32 → Option (CS × Int32)) × (CS → Nat → Int32 → Int32 → Int64 → Int32 → Int64 → Int32 → Option (CS × Int32))} {G' : (MS → Nat → Int32 → Int32 → Option (MS × Int32)) × (MS → Nat → Int32 → Int32 → Int64 → Int32 → Option (MS × Int32)) × (MS → Nat → Int32 → Int32 → Int64 → Int32 → Int64 → Int32 → Option (MS × Int32))} (hG1 : ∀ (c : Nat → Nat) (m : MS) (u : CS) (v1 : Int32) (v2 : Int32), RP (some p) c m u → RF 0 (some p) VE c u (G.1 u 55 v1 v2) (G'.1 m p v1 v2)) (hG2 : ∀ (c : Nat → Nat) (m : MS) (u : CS) (v1 : Int32) (v2 : Int32) (v3 : Int64) (v5 : Int32), RP (some p) c m u → RF 0 (some p) VE c u (G.2.1 u 55 v1 v2 v3 v5) (G'.2.1 m p v1 v2 v3 v5)) (hG3 : ∀ (c : Nat → Nat) (m : MS) (u : CS) (v1 : Int32) (v2 : Int32) (v3 : Int64) (v5 : Int32) (v6 : Int64) (v8 : Int32), RP (some p) c m u → RF 0 (some p) VE c u (G.2.2 u 55 v1 v2 v3 v5 v6 v8) (G'.2.2 m p v1 v2 v3 v5 v6 v8)) (R : RP (some p) c m u) {v1 : Int32} {v2 : Int32} {v3 : Int64} {v5 : Int32} {v6 : Int64} {v8 : Int32} : RF 0 (some p) VE c u (fb_Ma_markGone_66 N G u 55 v1 v2 v3 v5 v6 v8) (hb_Ma_markGone_66 N G' m p v1 v2 v3 v5 v6 v8) := by
  unfold fb_Ma_markGone_66 hb_Ma_markGone_66
  refine rf_br ?_ ?_
  · exact (yb_Ma_markGone_169 hG1 hG2 hG3 R)
  · refine rf_bo (rx_55_2 R) ?_
    refine rf_so ?_
    refine rf_bo (rx_43_0 R) ?_
    refine rf_so ?_
    refine rf_ai (ax_44 R) ?_
    refine rf_br ?_ ?_
    · refine rf_bo (rx_55_2 R) ?_
      refine rf_bo (gR_M3 R) ?_
      refine rf_soP R.md (fun j18 h_j18 => ?_)
      refine rf_bo (gR_P2 R h_j18) ?_
      refine rf_bo (gR_M3 R) ?_
      refine rf_soP R.md (fun j21 h_j21 => ?_)
      refine rf_bo (gR_P2 R h_j21) ?_
      refine rf_so ?_
      refine rf_ai (aq_2 R h_j21.1) ?_
      refine rf_bo (gR_M3 R) ?_
      refine rf_soP R.md (fun j26 h_j26 => ?_)
      refine rf_bo (gR_P2 R h_j26) ?_
      refine rf_so ?_
      refine rf_ai (aq_2 R h_j26.1) ?_
      refine rf_so ?_
      refine rf_ck (ox_43 R) ?_
      refine rf_bx0 (ym_Te_order R ⟨_, h_j18.1, rfl, rfl⟩) (fun u30' u30 r30 R_u30 => ?_)
      refine rf_br ?_ ?_
      · refine rf_bo (rx_55_2 R_u30) ?_
        refine rf_so ?_
        refine rf_bo (rx_43_0 R_u30) ?_
        refine rf_so ?_
        refine rf_wk (sx_44 R_u30) (fun w36' w36 R_w36 => ?_)
        refine rf_lt ?_
        exact (yb_Ma_markGone_169 hG1 hG2 hG3 R_w36)
      · exact (yb_Ma_markGone_148 hG1 hG2 hG3 R_u30)
    · exact (yb_Ma_markGone_148 hG1 hG2 hG3 R)
theorem yb_Ma_markGone_37 {N : Nat} {p : Nat} {c : Nat → Nat} {m : MS} {u : CS} {G : (CS → Nat → Int32 → Int32 → Option (CS × Int32)) × (CS → Nat → Int32 → Int32 → Int64 → Int32 → Option (CS × Int32)) × (CS → Nat → Int32 → Int32 → Int64 → Int32 → Int64 → Int32 → Option (CS × Int32))} {G' : (MS → Nat → Int32 → Int32 → Option (MS × Int32)) × (MS → Nat → Int32 → Int32 → Int64 → Int32 → Option (MS × Int32)) × (MS → Nat → Int32 → Int32 → Int64 → Int32 → Int64 → Int32 → Option (MS × Int32))} (hG1 : ∀ (c : Nat → Nat) (m : MS) (u : CS) (v1 : Int32) (v2 : Int32), RP (some p) c m u → RF 0 (some p) VE c u (G.1 u 55 v1 v2) (G'.1 m p v1 v2)) (hG2 : ∀ (c : Nat → Nat) (m : MS) (u : CS) (v1 : Int32) (v2 : Int32) (v3 : Int64) (v5 : Int32), RP (some p) c m u → RF 0 (some p) VE c u (G.2.1 u 55 v1 v2 v3 v5) (G'.2.1 m p v1 v2 v3 v5)) (hG3 : ∀ (c : Nat → Nat) (m : MS) (u : CS) (v1 : Int32) (v2 : Int32) (v3 : Int64) (v5 : Int32) (v6 : Int64) (v8 : Int32), RP (some p) c m u → RF 0 (some p) VE c u (G.2.2 u 55 v1 v2 v3 v5 v6 v8) (G'.2.2 m p v1 v2 v3 v5 v6 v8)) (R : RP (some p) c m u) {v1 : Int32} {v2 : Int32} {v3 : Int64} {v5 : Int32} : RF 0 (some p) VE c u (fb_Ma_markGone_37 N G u 55 v1 v2 v3 v5) (hb_Ma_markGone_37 N G' m p v1 v2 v3 v5) := by
  unfold fb_Ma_markGone_37 hb_Ma_markGone_37
  refine rf_br ?_ ?_
  · exact (yb_Ma_markGone_188 hG1 hG2 hG3 R)
  · refine rf_bx0 (ym_Te_tag R) (fun u38' u38 r38 R_u38 => ?_)
    refine rf_br ?_ ?_
    · refine rf_bo (gR_M4 R_u38) ?_
      refine rf_soF R_u38.md (fun j41 h_j41 => ?_)
      refine rf_ck (io_F R_u38 h_j41) ?_
      refine rf_bx0 (ym_Fr_below R_u38 h_j41) (fun u40' u40 r40 R_u40 => ?_)
      exact (hG3 _ _ _ _ _ _ _ _ _ R_u40)
    · exact (yb_Ma_markGone_188 hG1 hG2 hG3 R_u38)
theorem yb_Ma_markGone_2 {N : Nat} {p : Nat} {c : Nat → Nat} {m : MS} {u : CS} {G : (CS → Nat → Int32 → Int32 → Option (CS × Int32)) × (CS → Nat → Int32 → Int32 → Int64 → Int32 → Option (CS × Int32)) × (CS → Nat → Int32 → Int32 → Int64 → Int32 → Int64 → Int32 → Option (CS × Int32))} {G' : (MS → Nat → Int32 → Int32 → Option (MS × Int32)) × (MS → Nat → Int32 → Int32 → Int64 → Int32 → Option (MS × Int32)) × (MS → Nat → Int32 → Int32 → Int64 → Int32 → Int64 → Int32 → Option (MS × Int32))} (hG1 : ∀ (c : Nat → Nat) (m : MS) (u : CS) (v1 : Int32) (v2 : Int32), RP (some p) c m u → RF 0 (some p) VE c u (G.1 u 55 v1 v2) (G'.1 m p v1 v2)) (hG2 : ∀ (c : Nat → Nat) (m : MS) (u : CS) (v1 : Int32) (v2 : Int32) (v3 : Int64) (v5 : Int32), RP (some p) c m u → RF 0 (some p) VE c u (G.2.1 u 55 v1 v2 v3 v5) (G'.2.1 m p v1 v2 v3 v5)) (hG3 : ∀ (c : Nat → Nat) (m : MS) (u : CS) (v1 : Int32) (v2 : Int32) (v3 : Int64) (v5 : Int32) (v6 : Int64) (v8 : Int32), RP (some p) c m u → RF 0 (some p) VE c u (G.2.2 u 55 v1 v2 v3 v5 v6 v8) (G'.2.2 m p v1 v2 v3 v5 v6 v8)) (R : RP (some p) c m u) {v1 : Int32} {v2 : Int32} : RF 0 (some p) VE c u (fb_Ma_markGone_2 N G u 55 v1 v2) (hb_Ma_markGone_2 N G' m p v1 v2) := by
  unfold fb_Ma_markGone_2 hb_Ma_markGone_2
  refine rf_br ?_ ?_
  · refine rf_bo (gR_M4 R) ?_
    refine rf_soF R.md (fun j44 h_j44 => ?_)
    refine rf_ck (io_F R h_j44) ?_
    refine rf_bx0 (ym_Fr_below R h_j44) (fun u43' u43 r43 R_u43 => ?_)
    exact (hG2 _ _ _ _ _ _ _ R_u43)
  · refine rf_bo (rx_55_2 R) ?_
    refine rf_so ?_
    refine rf_bo (rx_43_0 R) ?_
    refine rf_so ?_
    refine rf_wk (sx_44 R) (fun w49' w49 R_w49 => ?_)
    exact (hG1 _ _ _ _ _ R_w49)
theorem yb_Ma_markGone_0 {N : Nat} {p : Nat} {c : Nat → Nat} {m : MS} {u : CS} {G : (CS → Nat → Int32 → Int32 → Option (CS × Int32)) × (CS → Nat → Int32 → Int32 → Int64 → Int32 → Option (CS × Int32)) × (CS → Nat → Int32 → Int32 → Int64 → Int32 → Int64 → Int32 → Option (CS × Int32))} {G' : (MS → Nat → Int32 → Int32 → Option (MS × Int32)) × (MS → Nat → Int32 → Int32 → Int64 → Int32 → Option (MS × Int32)) × (MS → Nat → Int32 → Int32 → Int64 → Int32 → Int64 → Int32 → Option (MS × Int32))} (hG1 : ∀ (c : Nat → Nat) (m : MS) (u : CS) (v1 : Int32) (v2 : Int32), RP (some p) c m u → RF 0 (some p) VE c u (G.1 u 55 v1 v2) (G'.1 m p v1 v2)) (hG2 : ∀ (c : Nat → Nat) (m : MS) (u : CS) (v1 : Int32) (v2 : Int32) (v3 : Int64) (v5 : Int32), RP (some p) c m u → RF 0 (some p) VE c u (G.2.1 u 55 v1 v2 v3 v5) (G'.2.1 m p v1 v2 v3 v5)) (hG3 : ∀ (c : Nat → Nat) (m : MS) (u : CS) (v1 : Int32) (v2 : Int32) (v3 : Int64) (v5 : Int32) (v6 : Int64) (v8 : Int32), RP (some p) c m u → RF 0 (some p) VE c u (G.2.2 u 55 v1 v2 v3 v5 v6 v8) (G'.2.2 m p v1 v2 v3 v5 v6 v8)) (R : RP (some p) c m u) {v1 : Int32} : RF 0 (some p) VE c u (fb_Ma_markGone_0 N G u 55 v1) (hb_Ma_markGone_0 N G' m p v1) := by
  unfold fb_Ma_markGone_0 hb_Ma_markGone_0
  exact (hG1 _ _ _ _ _ R)
theorem yg_Ma_markGone {N : Nat} {p : Nat} : ∀ n, (∀ (c : Nat → Nat) (m : MS) (u : CS) (v1 : Int32) (v2 : Int32), RP (some p) c m u → RF 0 (some p) VE c u ((gg_Ma_markGone N n).1 u 55 v1 v2) ((hg_Ma_markGone N n).1 m p v1 v2)) ∧ (∀ (c : Nat → Nat) (m : MS) (u : CS) (v1 : Int32) (v2 : Int32) (v3 : Int64) (v5 : Int32), RP (some p) c m u → RF 0 (some p) VE c u ((gg_Ma_markGone N n).2.1 u 55 v1 v2 v3 v5) ((hg_Ma_markGone N n).2.1 m p v1 v2 v3 v5)) ∧ (∀ (c : Nat → Nat) (m : MS) (u : CS) (v1 : Int32) (v2 : Int32) (v3 : Int64) (v5 : Int32) (v6 : Int64) (v8 : Int32), RP (some p) c m u → RF 0 (some p) VE c u ((gg_Ma_markGone N n).2.2 u 55 v1 v2 v3 v5 v6 v8) ((hg_Ma_markGone N n).2.2 m p v1 v2 v3 v5 v6 v8)) := by
  intro n
  induction n with
  | zero => exact ⟨fun c m u v1 v2 R => rf_none, fun c m u v1 v2 v3 v5 R => rf_none, fun c m u v1 v2 v3 v5 v6 v8 R => rf_none⟩
  | succ n ih => exact ⟨fun c m u v1 v2 R => yb_Ma_markGone_2 (N := N) ih.1 ih.2.1 ih.2.2 R, fun c m u v1 v2 v3 v5 R => yb_Ma_markGone_37 (N := N) ih.1 ih.2.1 ih.2.2 R, fun c m u v1 v2 v3 v5 v6 v8 R => yb_Ma_markGone_66 (N := N) ih.1 ih.2.1 ih.2.2 R⟩
theorem ym_Ma_markGone {N : Nat} {p : Nat} {c : Nat → Nat} {m : MS} {u : CS} (R : RP (some p) c m u) {v1 : Int32} : RF 0 (some p) VE c u (fm_Ma_markGone N u 55 v1) (hm_Ma_markGone N m p v1) := yb_Ma_markGone_0 (N := N) (yg_Ma_markGone (N := N) N).1 (yg_Ma_markGone (N := N) N).2.1 (yg_Ma_markGone (N := N) N).2.2 R
theorem yb_Ma_without_281 {N : Nat} {p : Nat} {c : Nat → Nat} {m : MS} {u : CS} {G : (CS → Nat → Int32 → Int32 → Int32 → Option (CS × Unit)) × (CS → Nat → Int32 → Int32 → Int32 → Int64 → Int32 → Option (CS × Unit))} {G' : (MS → Nat → Int32 → Int32 → Int32 → Option (MS × Unit)) × (MS → Nat → Int32 → Int32 → Int32 → Int64 → Int32 → Option (MS × Unit))} (hG1 : ∀ (c : Nat → Nat) (m : MS) (u : CS) (v2 : Int32) (v3 : Int32) (v4 : Int32), RP (some p) c m u → RF 2 (some p) VE c u (G.1 u 55 v2 v3 v4) (G'.1 m p v2 v3 v4)) (hG2 : ∀ (c : Nat → Nat) (m : MS) (u : CS) (v2 : Int32) (v4 : Int32) (v5 : Int32) (v6 : Int64) (v8 : Int32), RP (some p) c m u → RF 2 (some p) VE c u (G.2 u 55 v2 v4 v5 v6 v8) (G'.2 m p v2 v4 v5 v6 v8)) (R : RP (some p) c m u) {t1 : Int32} {t2 : Int64} : RF 2 (some p) VE c u (fb_Ma_without_281 N G u 55 55 t1 t2) (hb_Ma_without_281 N G' m p t1 t2) := by
  unfold fb_Ma_without_281 hb_Ma_without_281
  refine rf_ck (ox_55 R) ?_
  refine rf_ck (all1 (okR_s R (by decide))) ?_
  refine rf_bx (rf_gw (ym_Ma_answer R)) (by unfold zle; omega) (fun c_u1 u1' u1 r1 r1' R_u1 E_u1 v_u1 => ?_)
  cases v_u1
  refine rf_gw ?_
  refine rf_bo (gx_55_5 R_u1) ?_
  refine rf_w (px_55_5 R_u1) (fun w3' w3 R_w3 => ?_)
  exact rf_ret R_w3 rfl
theorem yb_Ma_without_231 {N : Nat} {p : Nat} {c : Nat → Nat} {m : MS} {u : CS} {G : (CS → Nat → Int32 → Int32 → Int32 → Option (CS × Unit)) × (CS → Nat → Int32 → Int32 → Int32 → Int64 → Int32 → Option (CS × Unit))} {G' : (MS → Nat → Int32 → Int32 → Int32 → Option (MS × Unit)) × (MS → Nat → Int32 → Int32 → Int32 → Int64 → Int32 → Option (MS × Unit))} (hG1 : ∀ (c : Nat → Nat) (m : MS) (u : CS) (v2 : Int32) (v3 : Int32) (v4 : Int32), RP (some p) c m u → RF 2 (some p) VE c u (G.1 u 55 v2 v3 v4) (G'.1 m p v2 v3 v4)) (hG2 : ∀ (c : Nat → Nat) (m : MS) (u : CS) (v2 : Int32) (v4 : Int32) (v5 : Int32) (v6 : Int64) (v8 : Int32), RP (some p) c m u → RF 2 (some p) VE c u (G.2 u 55 v2 v4 v5 v6 v8) (G'.2 m p v2 v4 v5 v6 v8)) (R : RP (some p) c m u) {v2 : Int32} {v4 : Int32} {v5 : Int32} {v6 : Int64} {v8 : Int32} : RF 2 (some p) VE c u (fb_Ma_without_231 N G u 55 v2 v4 v5 v6 v8) (hb_Ma_without_231 N G' m p v2 v4 v5 v6 v8) := by
  unfold fb_Ma_without_231 hb_Ma_without_231
  refine rf_bo (gR_M3 R) ?_
  refine rf_soP R.md (fun j5 h_j5 => ?_)
  refine rf_bo (gR_P2 R h_j5) ?_
  refine rf_so ?_
  refine rf_ai (aq_2 R h_j5.1) ?_
  exact (hG2 _ _ _ _ _ _ _ _ R)
theorem yb_Ma_without_150 {N : Nat} {p : Nat} {c : Nat → Nat} {m : MS} {u : CS} {G : (CS → Nat → Int32 → Int32 → Int32 → Option (CS × Unit)) × (CS → Nat → Int32 → Int32 → Int32 → Int64 → Int32 → Option (CS × Unit))} {G' : (MS → Nat → Int32 → Int32 → Int32 → Option (MS × Unit)) × (MS → Nat → Int32 → Int32 → Int32 → Int64 → Int32 → Option (MS × Unit))} (hG1 : ∀ (c : Nat → Nat) (m : MS) (u : CS) (v2 : Int32) (v3 : Int32) (v4 : Int32), RP (some p) c m u → RF 2 (some p) VE c u (G.1 u 55 v2 v3 v4) (G'.1 m p v2 v3 v4)) (hG2 : ∀ (c : Nat → Nat) (m : MS) (u : CS) (v2 : Int32) (v4 : Int32) (v5 : Int32) (v6 : Int64) (v8 : Int32), RP (some p) c m u → RF 2 (some p) VE c u (G.2 u 55 v2 v4 v5 v6 v8) (G'.2 m p v2 v4 v5 v6 v8)) (R : RP (some p) c m u) {v2 : Int32} {v4 : Int32} {v5 : Int32} {v6 : Int64} {v8 : Int32} : RF 2 (some p) VE c u (fb_Ma_without_150 N G u 55 v2 v4 v5 v6 v8) (hb_Ma_without_150 N G' m p v2 v4 v5 v6 v8) := by
  unfold fb_Ma_without_150 hb_Ma_without_150
  refine rf_br ?_ ?_
  · refine rf_ck (ox_55 R) ?_
    refine rf_bx0 (rf_gz (ym_Ma_endList R) (by omega)) (fun u9' u9 r9 R_u9 => ?_)
    refine rf_gw ?_
    refine rf_br ?_ ?_
    · exact (yb_Ma_without_281 hG1 hG2 R_u9)
    · refine rf_bx0 (rf_gz (ym_Te_make R_u9) (by omega)) (fun u10' u10 r10 R_u10 => ?_)
      refine rf_gw ?_
      exact (yb_Ma_without_281 hG1 hG2 R_u10)
  · refine rf_bo (rx_55_2 R) ?_
    refine rf_so ?_
    refine rf_bo (rx_43_0 R) ?_
    refine rf_so ?_
    refine rf_ai (ax_44 R) ?_
    refine rf_br ?_ ?_
    · refine rf_bo (gR_M3 R) ?_
      refine rf_soP R.md (fun j17 h_j17 => ?_)
      refine rf_bo (gR_P2 R h_j17) ?_
      refine rf_bo (gR_M3 R) ?_
      refine rf_soP R.md (fun j20 h_j20 => ?_)
      refine rf_bo (gR_P2 R h_j20) ?_
      refine rf_so ?_
      refine rf_ai (aq_2 R h_j20.1) ?_
      refine rf_so ?_
      refine rf_wk (sq_2 R h_j17.1) (fun w25' w25 R_w25 => ?_)
      refine rf_bo (gR_M3 R_w25) ?_
      refine rf_soP R_w25.md (fun j27 h_j27 => ?_)
      refine rf_bo (gR_P2 R_w25 h_j27) ?_
      refine rf_bx0 (rf_gz (ym_Te_make R_w25) (by omega)) (fun u29' u29 r29 R_u29 => ?_)
      refine rf_gw ?_
      refine rf_so ?_
      refine rf_wk (sq_2 R_u29 h_j27.1) (fun w31' w31 R_w31 => ?_)
      exact (yb_Ma_without_231 hG1 hG2 R_w31)
    · exact (yb_Ma_without_231 hG1 hG2 R)
theorem yb_Ma_without_106 {N : Nat} {p : Nat} {c : Nat → Nat} {m : MS} {u : CS} {G : (CS → Nat → Int32 → Int32 → Int32 → Option (CS × Unit)) × (CS → Nat → Int32 → Int32 → Int32 → Int64 → Int32 → Option (CS × Unit))} {G' : (MS → Nat → Int32 → Int32 → Int32 → Option (MS × Unit)) × (MS → Nat → Int32 → Int32 → Int32 → Int64 → Int32 → Option (MS × Unit))} (hG1 : ∀ (c : Nat → Nat) (m : MS) (u : CS) (v2 : Int32) (v3 : Int32) (v4 : Int32), RP (some p) c m u → RF 2 (some p) VE c u (G.1 u 55 v2 v3 v4) (G'.1 m p v2 v3 v4)) (hG2 : ∀ (c : Nat → Nat) (m : MS) (u : CS) (v2 : Int32) (v4 : Int32) (v5 : Int32) (v6 : Int64) (v8 : Int32), RP (some p) c m u → RF 2 (some p) VE c u (G.2 u 55 v2 v4 v5 v6 v8) (G'.2 m p v2 v4 v5 v6 v8)) (R : RP (some p) c m u) {v2 : Int32} {v4 : Int32} {t0 : Int32} {t1 : Int32} : RF 2 (some p) VE c u (fb_Ma_without_106 N G u 55 v2 v4 t0 t1) (hb_Ma_without_106 N G' m p v2 v4 t0 t1) := by
  unfold fb_Ma_without_106 hb_Ma_without_106
  exact (hG1 _ _ _ _ _ _ R)
theorem yb_Ma_without_79 {N : Nat} {p : Nat} {c : Nat → Nat} {m : MS} {u : CS} {G : (CS → Nat → Int32 → Int32 → Int32 → Option (CS × Unit)) × (CS → Nat → Int32 → Int32 → Int32 → Int64 → Int32 → Option (CS × Unit))} {G' : (MS → Nat → Int32 → Int32 → Int32 → Option (MS × Unit)) × (MS → Nat → Int32 → Int32 → Int32 → Int64 → Int32 → Option (MS × Unit))} (hG1 : ∀ (c : Nat → Nat) (m : MS) (u : CS) (v2 : Int32) (v3 : Int32) (v4 : Int32), RP (some p) c m u → RF 2 (some p) VE c u (G.1 u 55 v2 v3 v4) (G'.1 m p v2 v3 v4)) (hG2 : ∀ (c : Nat → Nat) (m : MS) (u : CS) (v2 : Int32) (v4 : Int32) (v5 : Int32) (v6 : Int64) (v8 : Int32), RP (some p) c m u → RF 2 (some p) VE c u (G.2 u 55 v2 v4 v5 v6 v8) (G'.2 m p v2 v4 v5 v6 v8)) (R : RP (some p) c m u) {v2 : Int32} {v3 : Int32} {v4 : Int32} : RF 2 (some p) VE c u (fb_Ma_without_79 N G u 55 v2 v3 v4) (hb_Ma_without_79 N G' m p v2 v3 v4) := by
  unfold fb_Ma_without_79 hb_Ma_without_79
  refine rf_br ?_ ?_
  · refine rf_ck (ox_55 R) ?_
    refine rf_bx (rf_gz (ym_Ma_room R) (by omega)) (by unfold zle; omega) (fun c_u32 u32' u32 r32 r32' R_u32 E_u32 v_u32 => ?_)
    cases v_u32
    refine rf_gw ?_
    refine rf_br ?_ ?_
    · exact rf_ret R_u32 rfl
    · refine rf_bo (gR_M3 R_u32) ?_
      refine rf_soP R_u32.md (fun j34 h_j34 => ?_)
      refine rf_bo (gq_4 R_u32 h_j34) ?_
      refine rf_bo (gR_M4 R_u32) ?_
      refine rf_soF R_u32.md (fun j38 h_j38 => ?_)
      refine rf_ck (io_F R_u32 h_j38) ?_
      refine rf_bx0 (rf_gz (ym_Fr_below R_u32 h_j38) (by omega)) (fun u37' u37 r37 R_u37 => ?_)
      refine rf_gw ?_
      exact (hG2 _ _ _ _ _ _ _ _ R_u37)
  · refine rf_bo (rx_55_2 R) ?_
    refine rf_so ?_
    refine rf_bo (rx_43_0 R) ?_
    refine rf_so ?_
    refine rf_ai (ax_44 R) ?_
    refine rf_br ?_ ?_
    · exact (yb_Ma_without_106 hG1 hG2 R)
    · exact (yb_Ma_without_106 hG1 hG2 R)
theorem yb_Ma_without_61 {N : Nat} {p : Nat} {c : Nat → Nat} {m : MS} {u : CS} {G : (CS → Nat → Int32 → Int32 → Int32 → Option (CS × Unit)) × (CS → Nat → Int32 → Int32 → Int32 → Int64 → Int32 → Option (CS × Unit))} {G' : (MS → Nat → Int32 → Int32 → Int32 → Option (MS × Unit)) × (MS → Nat → Int32 → Int32 → Int32 → Int64 → Int32 → Option (MS × Unit))} (hG1 : ∀ (c : Nat → Nat) (m : MS) (u : CS) (v2 : Int32) (v3 : Int32) (v4 : Int32), RP (some p) c m u → RF 2 (some p) VE c u (G.1 u 55 v2 v3 v4) (G'.1 m p v2 v3 v4)) (hG2 : ∀ (c : Nat → Nat) (m : MS) (u : CS) (v2 : Int32) (v4 : Int32) (v5 : Int32) (v6 : Int64) (v8 : Int32), RP (some p) c m u → RF 2 (some p) VE c u (G.2 u 55 v2 v4 v5 v6 v8) (G'.2 m p v2 v4 v5 v6 v8)) (R : RP (some p) c m u) : RF 2 (some p) VE c u (fb_Ma_without_61 N G u 55) (hb_Ma_without_61 N G' m p) := by
  unfold fb_Ma_without_61 hb_Ma_without_61
  refine rf_ck (ox_55 R) ?_
  refine rf_bx0 (rf_gz (ym_Ma_wrong R) (by omega)) (fun u44' u44 r44 R_u44 => ?_)
  refine rf_gw ?_
  exact rf_ret R_u44 rfl
theorem yb_Ma_without_0 {N : Nat} {p : Nat} {c : Nat → Nat} {m : MS} {u : CS} {G : (CS → Nat → Int32 → Int32 → Int32 → Option (CS × Unit)) × (CS → Nat → Int32 → Int32 → Int32 → Int64 → Int32 → Option (CS × Unit))} {G' : (MS → Nat → Int32 → Int32 → Int32 → Option (MS × Unit)) × (MS → Nat → Int32 → Int32 → Int32 → Int64 → Int32 → Option (MS × Unit))} (hG1 : ∀ (c : Nat → Nat) (m : MS) (u : CS) (v2 : Int32) (v3 : Int32) (v4 : Int32), RP (some p) c m u → RF 2 (some p) VE c u (G.1 u 55 v2 v3 v4) (G'.1 m p v2 v3 v4)) (hG2 : ∀ (c : Nat → Nat) (m : MS) (u : CS) (v2 : Int32) (v4 : Int32) (v5 : Int32) (v6 : Int64) (v8 : Int32), RP (some p) c m u → RF 2 (some p) VE c u (G.2 u 55 v2 v4 v5 v6 v8) (G'.2 m p v2 v4 v5 v6 v8)) (R : RP (some p) c m u) : RF 2 (some p) VE c u (fb_Ma_without_0 N G u 55) (hb_Ma_without_0 N G' m p) := by
  unfold fb_Ma_without_0 hb_Ma_without_0
  refine rf_bo (rx_55_2 R) ?_
  refine rf_bo (gR_M3 R) ?_
  refine rf_soP R.md (fun j47 h_j47 => ?_)
  refine rf_bo (gR_P2 R h_j47) ?_
  refine rf_bo (gR_M4 R) ?_
  refine rf_soF R.md (fun j51 h_j51 => ?_)
  refine rf_ck (io_F R h_j51) ?_
  refine rf_bx0 (rf_gz (ym_Fr_below R h_j51) (by omega)) (fun u50' u50 r50 R_u50 => ?_)
  refine rf_gw ?_
  refine rf_so ?_
  refine rf_ck (ox_43 R_u50) ?_
  refine rf_bx0 (rf_gz (ym_Te_listLength R_u50 ⟨_, h_j47.1, rfl, rfl⟩) (by omega)) (fun u52' u52 r52 R_u52 => ?_)
  refine rf_gw ?_
  refine rf_br ?_ ?_
  · exact (yb_Ma_without_61 hG1 hG2 R_u52)
  · refine rf_br ?_ ?_
    · exact (yb_Ma_without_61 hG1 hG2 R_u52)
    · refine rf_bo (rx_55_2 R_u52) ?_
      refine rf_bo (gR_M3 R_u52) ?_
      refine rf_soP R_u52.md (fun j56 h_j56 => ?_)
      refine rf_bo (gR_P2 R_u52 h_j56) ?_
      refine rf_bo (gR_M4 R_u52) ?_
      refine rf_soF R_u52.md (fun j60 h_j60 => ?_)
      refine rf_ck (io_F R_u52 h_j60) ?_
      refine rf_bx0 (rf_gz (ym_Fr_below R_u52 h_j60) (by omega)) (fun u59' u59 r59 R_u59 => ?_)
      refine rf_gw ?_
      refine rf_so ?_
      refine rf_ck (ox_43 R_u59) ?_
      refine rf_bx0 (rf_gz (ym_Te_listLength R_u59 ⟨_, h_j56.1, rfl, rfl⟩) (by omega)) (fun u61' u61 r61 R_u61 => ?_)
      refine rf_gw ?_
      refine rf_br ?_ ?_
      · exact (yb_Ma_without_61 hG1 hG2 R_u61)
      · refine rf_ck (ox_55 R_u61) ?_
        refine rf_bx0 (rf_gz (ym_Ma_markGone R_u61) (by omega)) (fun u63' u63 r63 R_u63 => ?_)
        refine rf_gw ?_
        exact (hG1 _ _ _ _ _ _ R_u63)
theorem yg_Ma_without {N : Nat} {p : Nat} : ∀ n, (∀ (c : Nat → Nat) (m : MS) (u : CS) (v2 : Int32) (v3 : Int32) (v4 : Int32), RP (some p) c m u → RF 2 (some p) VE c u ((gg_Ma_without N n).1 u 55 v2 v3 v4) ((hg_Ma_without N n).1 m p v2 v3 v4)) ∧ (∀ (c : Nat → Nat) (m : MS) (u : CS) (v2 : Int32) (v4 : Int32) (v5 : Int32) (v6 : Int64) (v8 : Int32), RP (some p) c m u → RF 2 (some p) VE c u ((gg_Ma_without N n).2 u 55 v2 v4 v5 v6 v8) ((hg_Ma_without N n).2 m p v2 v4 v5 v6 v8)) := by
  intro n
  induction n with
  | zero => exact ⟨fun c m u v2 v3 v4 R => rf_none, fun c m u v2 v4 v5 v6 v8 R => rf_none⟩
  | succ n ih => exact ⟨fun c m u v2 v3 v4 R => yb_Ma_without_79 (N := N) ih.1 ih.2 R, fun c m u v2 v4 v5 v6 v8 R => yb_Ma_without_150 (N := N) ih.1 ih.2 R⟩
theorem ym_Ma_without {N : Nat} {p : Nat} {c : Nat → Nat} {m : MS} {u : CS} (R : RP (some p) c m u) : RF 2 (some p) VE c u (fm_Ma_without N u 55) (hm_Ma_without N m p) := yb_Ma_without_0 (N := N) (yg_Ma_without (N := N) N).1 (yg_Ma_without (N := N) N).2 R
theorem yb_Ma_value_240 {N : Nat} {p : Nat} {c : Nat → Nat} {m : MS} {u : CS} (R : RP (some p) c m u) : RF 2 (some p) VE c u (fb_Ma_value_240 N () u) (hb_Ma_value_240 N () m p) := by
  unfold fb_Ma_value_240 hb_Ma_value_240
  exact rf_ret R rfl
theorem yb_Ma_value_159 {N : Nat} {p : Nat} {c : Nat → Nat} {m : MS} {u : CS} (R : RP (some p) c m u) {v2 : Int32} {t1 : Int32} : RF 2 (some p) VE c u (fb_Ma_value_159 N () u v2 55 t1) (hb_Ma_value_159 N () m p v2 t1) := by
  unfold fb_Ma_value_159 hb_Ma_value_159
  refine rf_ck (ox_55 R) ?_
  refine rf_bx0 (rf_gz (ym_Ma_hinge R) (by omega)) (fun u1' u1 r1 R_u1 => ?_)
  refine rf_gw ?_
  exact (yb_Ma_value_240 R_u1)
theorem yb_Ma_value_0 {N : Nat} {p : Nat} {c : Nat → Nat} {m : MS} {u : CS} (R : RP (some p) c m u) {v1 : Int32} : RF 2 (some p) VE c u (fb_Ma_value_0 N () u 55 v1) (hb_Ma_value_0 N () m p v1) := by
  unfold fb_Ma_value_0 hb_Ma_value_0
  refine rf_bo (rx_55_0 R) ?_
  refine rf_bo (gx_55_5 R) ?_
  refine rf_so ?_
  refine rf_ck (ox_22 R) ?_
  refine rf_bx0 (rf_gz (ym_Co_at R) (by omega)) (fun u4' u4 r4 R_u4 => ?_)
  refine rf_gw ?_
  refine rf_br ?_ ?_
  · refine rf_bo (rx_55_2 R_u4) ?_
    refine rf_bo (gR_M3 R_u4) ?_
    refine rf_soP R_u4.md (fun j8 h_j8 => ?_)
    refine rf_bo (gR_P2 R_u4 h_j8) ?_
    refine rf_bo (gR_M4 R_u4) ?_
    refine rf_soF R_u4.md (fun j12 h_j12 => ?_)
    refine rf_ck (io_F R_u4 h_j12) ?_
    refine rf_bx0 (rf_gz (ym_Fr_below R_u4 h_j12) (by omega)) (fun u11' u11 r11 R_u11 => ?_)
    refine rf_gw ?_
    refine rf_bo (gR_M4 R_u11) ?_
    refine rf_soF R_u11.md (fun j15 h_j15 => ?_)
    refine rf_ck (io_F R_u11 h_j15) ?_
    refine rf_bx0 (rf_gz (ym_Fr_below R_u11 h_j15) (by omega)) (fun u14' u14 r14 R_u14 => ?_)
    refine rf_gw ?_
    refine rf_so ?_
    refine rf_ck (ox_43 R_u14) ?_
    refine rf_bx0 (rf_gz (ym_Te_order R_u14 ⟨_, h_j8.1, rfl, rfl⟩) (by omega)) (fun u16' u16 r16 R_u16 => ?_)
    refine rf_gw ?_
    refine rf_bx0 (rf_gz (ym_Ma_holds R_u16) (by omega)) (fun u18' u18 r18 R_u18 => ?_)
    refine rf_gw ?_
    refine rf_bx0 (rf_gz (ym_Ma_truth R_u18) (by omega)) (fun u19' u19 r19 R_u19 => ?_)
    refine rf_gw ?_
    refine rf_ck (ox_55 R_u19) ?_
    refine rf_ck (all1 (okR_s R_u19 (by decide))) ?_
    refine rf_bx (rf_gw (ym_Ma_answer R_u19)) (by unfold zle; omega) (fun c_u20 u20' u20 r20 r20' R_u20 E_u20 v_u20 => ?_)
    cases v_u20
    refine rf_gw ?_
    refine rf_bo (gx_55_5 R_u20) ?_
    refine rf_w (px_55_5 R_u20) (fun w22' w22 R_w22 => ?_)
    exact (yb_Ma_value_240 R_w22)
  · refine rf_br ?_ ?_
    · refine rf_ck (ox_55 R_u4) ?_
      refine rf_ck (all1 (okR_s R_u4 (by decide))) ?_
      refine rf_bx (rf_gw (ym_Ma_arithmetic R_u4)) (by unfold zle; omega) (fun c_u23 u23' u23 r23 r23' R_u23 E_u23 v_u23 => ?_)
      cases v_u23
      refine rf_gw ?_
      exact (yb_Ma_value_240 R_u23)
    · refine rf_br ?_ ?_
      · refine rf_br ?_ ?_
        · refine rf_ck (ox_55 R_u4) ?_
          refine rf_ck (all1 (okR_s R_u4 (by decide))) ?_
          refine rf_bx (rf_gw (ym_Ma_join R_u4)) (by unfold zle; omega) (fun c_u25 u25' u25 r25 r25' R_u25 E_u25 v_u25 => ?_)
          cases v_u25
          refine rf_gw ?_
          exact (yb_Ma_value_240 R_u25)
        · refine rf_ck (ox_55 R_u4) ?_
          refine rf_ck (all1 (okR_s R_u4 (by decide))) ?_
          refine rf_bx (rf_gw (ym_Ma_without R_u4)) (by unfold zle; omega) (fun c_u24 u24' u24 r24 r24' R_u24 E_u24 v_u24 => ?_)
          cases v_u24
          refine rf_gw ?_
          exact (yb_Ma_value_240 R_u24)
      · refine rf_br ?_ ?_
        · refine rf_ck (ox_55 R_u4) ?_
          refine rf_ck (all1 (okR_s R_u4 (by decide))) ?_
          refine rf_bx (rf_gw (ym_Ma_negate R_u4)) (by unfold zle; omega) (fun c_u26 u26' u26 r26 r26' R_u26 E_u26 v_u26 => ?_)
          cases v_u26
          refine rf_gw ?_
          exact (yb_Ma_value_240 R_u26)
        · refine rf_br ?_ ?_
          · refine rf_ck (ox_55 R_u4) ?_
            refine rf_ck (all1 (okR_s R_u4 (by decide))) ?_
            refine rf_bx (rf_gw (ym_Ma_not R_u4)) (by unfold zle; omega) (fun c_u27 u27' u27 r27 r27' R_u27 E_u27 v_u27 => ?_)
            cases v_u27
            refine rf_gw ?_
            exact (yb_Ma_value_240 R_u27)
          · refine rf_br ?_ ?_
            · refine rf_br ?_ ?_
              · exact (yb_Ma_value_159 R_u4)
              · exact (yb_Ma_value_159 R_u4)
            · refine rf_br ?_ ?_
              · refine rf_br ?_ ?_
                · exact (yb_Ma_value_159 R_u4)
                · exact (yb_Ma_value_159 R_u4)
              · refine rf_br ?_ ?_
                · refine rf_bo (gR_M4 R_u4) ?_
                  refine rf_soF R_u4.md (fun j30 h_j30 => ?_)
                  refine rf_ck (io_F R_u4 h_j30) ?_
                  refine rf_bx0 (rf_gz (ym_Fr_drop R_u4 h_j30) (by omega)) (fun u29' u29 r29 R_u29 => ?_)
                  refine rf_gw ?_
                  refine rf_bo (gx_55_5 R_u29) ?_
                  refine rf_w (px_55_5 R_u29) (fun w32' w32 R_w32 => ?_)
                  exact (yb_Ma_value_240 R_w32)
                · refine rf_br ?_ ?_
                  · refine rf_bo (gR_M4 R_u4) ?_
                    refine rf_soF R_u4.md (fun j35 h_j35 => ?_)
                    refine rf_ck (io_F R_u4 h_j35) ?_
                    refine rf_bx0 (rf_gz (ym_Fr_forget R_u4 h_j35) (by omega)) (fun u34' u34 r34 R_u34 => ?_)
                    refine rf_gw ?_
                    refine rf_bo (gx_55_5 R_u34) ?_
                    refine rf_w (px_55_5 R_u34) (fun w37' w37 R_w37 => ?_)
                    exact (yb_Ma_value_240 R_w37)
                  · refine rf_br ?_ ?_
                    · refine rf_ck (ox_55 R_u4) ?_
                      refine rf_ck (all1 (okR_s R_u4 (by decide))) ?_
                      refine rf_bx (rf_gw (ym_Ma_sendTo R_u4)) (by unfold zle; omega) (fun c_u38 u38' u38 r38 r38' R_u38 E_u38 v_u38 => ?_)
                      cases v_u38
                      refine rf_gw ?_
                      exact (yb_Ma_value_240 R_u38)
                    · refine rf_w (px_55_8 R_u4) (fun w39' w39 R_w39 => ?_)
                      exact (yb_Ma_value_240 R_w39)
theorem ym_Ma_value {N : Nat} {p : Nat} {c : Nat → Nat} {m : MS} {u : CS} (R : RP (some p) c m u) {v1 : Int32} : RF 2 (some p) VE c u (fm_Ma_value N u 55 v1) (hm_Ma_value N m p v1) := yb_Ma_value_0 (N := N) R
theorem yb_Ma_fit_370 {N : Nat} {p : Nat} {c : Nat → Nat} {m : MS} {u : CS} {G : (CS → Nat → Option Nat → Int32 → Int32 → Int32 → Option (CS × Int32)) × (CS → Nat → Option Nat → Int32 → Int32 → Int32 → Int64 → Int32 → Option (CS × Int32))} {G' : (MS → Nat → Int32 → Int32 → Int32 → Option (MS × Int32)) × (MS → Nat → Int32 → Int32 → Int32 → Int64 → Int32 → Option (MS × Int32))} (hG1 : ∀ (c : Nat → Nat) (m : MS) (u : CS) (v4 : Int32) (v5 : Int32) (v6 : Int32), RP (some p) c m u → RF 1 (some p) VE c u (G.1 u 55 (some 44) v4 v5 v6) (G'.1 m p v4 v5 v6)) (hG2 : ∀ (c : Nat → Nat) (m : MS) (u : CS) (v4 : Int32) (v5 : Int32) (v6 : Int32) (v7 : Int64) (v10 : Int32), RP (some p) c m u → RF 1 (some p) VE c u (G.2 u 55 (some 44) v4 v5 v6 v7 v10) (G'.2 m p v4 v5 v6 v7 v10)) (R : RP (some p) c m u) {v4 : Int32} : RF 1 (some p) VE c u (fb_Ma_fit_370 N G u v4) (hb_Ma_fit_370 N G' m p v4) := by
  unfold fb_Ma_fit_370 hb_Ma_fit_370
  exact rf_ret R rfl
theorem yb_Ma_fit_364 {N : Nat} {p : Nat} {c : Nat → Nat} {m : MS} {u : CS} {G : (CS → Nat → Option Nat → Int32 → Int32 → Int32 → Option (CS × Int32)) × (CS → Nat → Option Nat → Int32 → Int32 → Int32 → Int64 → Int32 → Option (CS × Int32))} {G' : (MS → Nat → Int32 → Int32 → Int32 → Option (MS × Int32)) × (MS → Nat → Int32 → Int32 → Int32 → Int64 → Int32 → Option (MS × Int32))} (hG1 : ∀ (c : Nat → Nat) (m : MS) (u : CS) (v4 : Int32) (v5 : Int32) (v6 : Int32), RP (some p) c m u → RF 1 (some p) VE c u (G.1 u 55 (some 44) v4 v5 v6) (G'.1 m p v4 v5 v6)) (hG2 : ∀ (c : Nat → Nat) (m : MS) (u : CS) (v4 : Int32) (v5 : Int32) (v6 : Int32) (v7 : Int64) (v10 : Int32), RP (some p) c m u → RF 1 (some p) VE c u (G.2 u 55 (some 44) v4 v5 v6 v7 v10) (G'.2 m p v4 v5 v6 v7 v10)) (R : RP (some p) c m u) {v4 : Int32} {v5 : Int32} {v6 : Int32} : RF 1 (some p) VE c u (fb_Ma_fit_364 N G u 55 (some 44) v4 v5 v6) (hb_Ma_fit_364 N G' m p v4 v5 v6) := by
  unfold fb_Ma_fit_364 hb_Ma_fit_364
  exact (hG1 _ _ _ _ _ _ R)
theorem yb_Ma_fit_268 {N : Nat} {p : Nat} {c : Nat → Nat} {m : MS} {u : CS} {G : (CS → Nat → Option Nat → Int32 → Int32 → Int32 → Option (CS × Int32)) × (CS → Nat → Option Nat → Int32 → Int32 → Int32 → Int64 → Int32 → Option (CS × Int32))} {G' : (MS → Nat → Int32 → Int32 → Int32 → Option (MS × Int32)) × (MS → Nat → Int32 → Int32 → Int32 → Int64 → Int32 → Option (MS × Int32))} (hG1 : ∀ (c : Nat → Nat) (m : MS) (u : CS) (v4 : Int32) (v5 : Int32) (v6 : Int32), RP (some p) c m u → RF 1 (some p) VE c u (G.1 u 55 (some 44) v4 v5 v6) (G'.1 m p v4 v5 v6)) (hG2 : ∀ (c : Nat → Nat) (m : MS) (u : CS) (v4 : Int32) (v5 : Int32) (v6 : Int32) (v7 : Int64) (v10 : Int32), RP (some p) c m u → RF 1 (some p) VE c u (G.2 u 55 (some 44) v4 v5 v6 v7 v10) (G'.2 m p v4 v5 v6 v7 v10)) (R : RP (some p) c m u) {v4 : Int32} {v5 : Int32} {v6 : Int32} {v7 : Int64} {v10 : Int32} : RF 1 (some p) VE c u (fb_Ma_fit_268 N G u 55 (some 44) v4 v5 v6 v7 v10) (hb_Ma_fit_268 N G' m p v4 v5 v6 v7 v10) := by
  unfold fb_Ma_fit_268 hb_Ma_fit_268
  refine rf_br ?_ ?_
  · exact (yb_Ma_fit_364 hG1 hG2 R)
  · refine rf_bo (gR_M3 R) ?_
    refine rf_soP R.md (fun j2 h_j2 => ?_)
    refine rf_bo (gR_P2 R h_j2) ?_
    refine rf_so ?_
    refine rf_ai (aq_2 R h_j2.1) ?_
    refine rf_so ?_
    refine rf_wk (sx_44 R) (fun w7' w7 R_w7 => ?_)
    exact (hG2 _ _ _ _ _ _ _ _ R_w7)
theorem yb_Ma_fit_262 {N : Nat} {p : Nat} {c : Nat → Nat} {m : MS} {u : CS} {G : (CS → Nat → Option Nat → Int32 → Int32 → Int32 → Option (CS × Int32)) × (CS → Nat → Option Nat → Int32 → Int32 → Int32 → Int64 → Int32 → Option (CS × Int32))} {G' : (MS → Nat → Int32 → Int32 → Int32 → Option (MS × Int32)) × (MS → Nat → Int32 → Int32 → Int32 → Int64 → Int32 → Option (MS × Int32))} (hG1 : ∀ (c : Nat → Nat) (m : MS) (u : CS) (v4 : Int32) (v5 : Int32) (v6 : Int32), RP (some p) c m u → RF 1 (some p) VE c u (G.1 u 55 (some 44) v4 v5 v6) (G'.1 m p v4 v5 v6)) (hG2 : ∀ (c : Nat → Nat) (m : MS) (u : CS) (v4 : Int32) (v5 : Int32) (v6 : Int32) (v7 : Int64) (v10 : Int32), RP (some p) c m u → RF 1 (some p) VE c u (G.2 u 55 (some 44) v4 v5 v6 v7 v10) (G'.2 m p v4 v5 v6 v7 v10)) (R : RP (some p) c m u) : RF 1 (some p) VE c u (fb_Ma_fit_262 N G u) (hb_Ma_fit_262 N G' m p) := by
  unfold fb_Ma_fit_262 hb_Ma_fit_262
  exact rf_ret R rfl
theorem yb_Ma_fit_57 {N : Nat} {p : Nat} {c : Nat → Nat} {m : MS} {u : CS} {G : (CS → Nat → Option Nat → Int32 → Int32 → Int32 → Option (CS × Int32)) × (CS → Nat → Option Nat → Int32 → Int32 → Int32 → Int64 → Int32 → Option (CS × Int32))} {G' : (MS → Nat → Int32 → Int32 → Int32 → Option (MS × Int32)) × (MS → Nat → Int32 → Int32 → Int32 → Int64 → Int32 → Option (MS × Int32))} (hG1 : ∀ (c : Nat → Nat) (m : MS) (u : CS) (v4 : Int32) (v5 : Int32) (v6 : Int32), RP (some p) c m u → RF 1 (some p) VE c u (G.1 u 55 (some 44) v4 v5 v6) (G'.1 m p v4 v5 v6)) (hG2 : ∀ (c : Nat → Nat) (m : MS) (u : CS) (v4 : Int32) (v5 : Int32) (v6 : Int32) (v7 : Int64) (v10 : Int32), RP (some p) c m u → RF 1 (some p) VE c u (G.2 u 55 (some 44) v4 v5 v6 v7 v10) (G'.2 m p v4 v5 v6 v7 v10)) (R : RP (some p) c m u) : RF 1 (some p) VE c u (fb_Ma_fit_57 N G u) (hb_Ma_fit_57 N G' m p) := by
  unfold fb_Ma_fit_57 hb_Ma_fit_57
  exact rf_ret R rfl
theorem yb_Ma_fit_17 {N : Nat} {p : Nat} {c : Nat → Nat} {m : MS} {u : CS} {G : (CS → Nat → Option Nat → Int32 → Int32 → Int32 → Option (CS × Int32)) × (CS → Nat → Option Nat → Int32 → Int32 → Int32 → Int64 → Int32 → Option (CS × Int32))} {G' : (MS → Nat → Int32 → Int32 → Int32 → Option (MS × Int32)) × (MS → Nat → Int32 → Int32 → Int32 → Int64 → Int32 → Option (MS × Int32))} (hG1 : ∀ (c : Nat → Nat) (m : MS) (u : CS) (v4 : Int32) (v5 : Int32) (v6 : Int32), RP (some p) c m u → RF 1 (some p) VE c u (G.1 u 55 (some 44) v4 v5 v6) (G'.1 m p v4 v5 v6)) (hG2 : ∀ (c : Nat → Nat) (m : MS) (u : CS) (v4 : Int32) (v5 : Int32) (v6 : Int32) (v7 : Int64) (v10 : Int32), RP (some p) c m u → RF 1 (some p) VE c u (G.2 u 55 (some 44) v4 v5 v6 v7 v10) (G'.2 m p v4 v5 v6 v7 v10)) (R : RP (some p) c m u) {v4 : Int32} {v5 : Int32} {v6 : Int32} : RF 1 (some p) VE c u (fb_Ma_fit_17 N G u 55 (some 44) v4 v5 v6) (hb_Ma_fit_17 N G' m p v4 v5 v6) := by
  unfold fb_Ma_fit_17 hb_Ma_fit_17
  refine rf_br ?_ ?_
  · exact (yb_Ma_fit_370 hG1 hG2 R)
  · refine rf_bo (rx_55_0 R) ?_
    refine rf_so ?_
    refine rf_ck (ox_22 R) ?_
    refine rf_bx0 (rf_gz (ym_Co_at R) (by omega)) (fun u9' u9 r9 R_u9 => ?_)
    refine rf_gw ?_
    refine rf_br ?_ ?_
    · exact (yb_Ma_fit_370 hG1 hG2 R_u9)
    · refine rf_br ?_ ?_
      · exact (yb_Ma_fit_57 hG1 hG2 R_u9)
      · refine rf_br ?_ ?_
        · refine rf_so ?_
          refine rf_ai (ax_44 R_u9) ?_
          refine rf_bo (rx_55_0 R_u9) ?_
          refine rf_so ?_
          refine rf_ck (ox_22 R_u9) ?_
          refine rf_bx0 (rf_gz (ym_Co_at R_u9) (by omega)) (fun u14' u14 r14 R_u14 => ?_)
          refine rf_gw ?_
          refine rf_bo (rx_55_0 R_u14) ?_
          refine rf_so ?_
          refine rf_ck (ox_22 R_u14) ?_
          refine rf_bx0 (rf_gz (ym_Co_at R_u14) (by omega)) (fun u17' u17 r17 R_u17 => ?_)
          refine rf_gw ?_
          refine rf_br ?_ ?_
          · refine rf_bo (rx_55_0 R_u17) ?_
            refine rf_so ?_
            refine rf_ck (ox_22 R_u17) ?_
            refine rf_bx0 (rf_gz (ym_Co_at R_u17) (by omega)) (fun u20' u20 r20 R_u20 => ?_)
            refine rf_gw ?_
            refine rf_bx0 (rf_gz (ym_Te_make R_u20) (by omega)) (fun u22' u22 r22 R_u22 => ?_)
            refine rf_gw ?_
            refine rf_br ?_ ?_
            · exact (yb_Ma_fit_364 hG1 hG2 R_u22)
            · exact rf_ret R_u22 rfl
          · refine rf_br ?_ ?_
            · refine rf_ck (ox_55 R_u17) ?_
              refine rf_bx0 (rf_gz (ym_Ma_fitsString R_u17) (by omega)) (fun u23' u23 r23 R_u23 => ?_)
              refine rf_gw ?_
              refine rf_br ?_ ?_
              · exact rf_ret R_u23 rfl
              · exact (yb_Ma_fit_364 hG1 hG2 R_u23)
            · refine rf_br ?_ ?_
              · refine rf_bo (rx_55_2 R_u17) ?_
                refine rf_bo (gR_M3 R_u17) ?_
                refine rf_soP R_u17.md (fun j26 h_j26 => ?_)
                refine rf_bo (gR_P2 R_u17 h_j26) ?_
                refine rf_bo (gR_M4 R_u17) ?_
                refine rf_soF R_u17.md (fun j30 h_j30 => ?_)
                refine rf_ck (io_F R_u17 h_j30) ?_
                refine rf_bx0 (rf_gz (ym_Fr_termOf R_u17 h_j30) (by omega)) (fun u29' u29 r29 R_u29 => ?_)
                refine rf_gw ?_
                refine rf_so ?_
                refine rf_ck (ox_43 R_u29) ?_
                refine rf_bx0 (rf_gz (ym_Te_order R_u29 ⟨_, h_j26.1, rfl, rfl⟩) (by omega)) (fun u31' u31 r31 R_u31 => ?_)
                refine rf_gw ?_
                refine rf_br ?_ ?_
                · exact (yb_Ma_fit_364 hG1 hG2 R_u31)
                · exact rf_ret R_u31 rfl
              · refine rf_br ?_ ?_
                · refine rf_bo (gR_M4 R_u17) ?_
                  refine rf_soF R_u17.md (fun j35 h_j35 => ?_)
                  refine rf_ck (io_F R_u17 h_j35) ?_
                  refine rf_ck (all2 (okR_s R_u17 (by decide)) (okR_s R_u17 (by decide))) ?_
                  refine rf_bx (rf_gw (ym_Fr_bind R_u17 h_j35)) (by unfold zle; omega) (fun c_u34 u34' u34 r34 r34' R_u34 E_u34 v_u34 => ?_)
                  cases v_u34
                  refine rf_gw ?_
                  exact (yb_Ma_fit_364 hG1 hG2 R_u34)
                · refine rf_br ?_ ?_
                  · exact (yb_Ma_fit_364 hG1 hG2 R_u17)
                  · refine rf_br ?_ ?_
                    · refine rf_bx0 (rf_gz (ym_Te_tag R_u17) (by omega)) (fun u36' u36 r36 R_u36 => ?_)
                      refine rf_gw ?_
                      refine rf_br ?_ ?_
                      · refine rf_bo (gR_M3 R_u36) ?_
                        refine rf_soP R_u36.md (fun j38 h_j38 => ?_)
                        refine rf_bo (gR_P2 R_u36 h_j38) ?_
                        refine rf_so ?_
                        refine rf_ai (aq_2 R_u36 h_j38.1) ?_
                        refine rf_br ?_ ?_
                        · exact (hG2 _ _ _ _ _ _ _ _ R_u36)
                        · exact (yb_Ma_fit_262 hG1 hG2 R_u36)
                      · exact (yb_Ma_fit_262 hG1 hG2 R_u36)
                    · refine rf_br ?_ ?_
                      · refine rf_bx0 (rf_gz (ym_Te_tag R_u17) (by omega)) (fun u42' u42 r42 R_u42 => ?_)
                        refine rf_gw ?_
                        refine rf_br ?_ ?_
                        · refine rf_bo (gR_M3 R_u42) ?_
                          refine rf_soP R_u42.md (fun j44 h_j44 => ?_)
                          refine rf_bo (gR_P2 R_u42 h_j44) ?_
                          refine rf_so ?_
                          refine rf_ai (aq_2 R_u42 h_j44.1) ?_
                          refine rf_so ?_
                          refine rf_wk (sx_44 R_u42) (fun w49' w49 R_w49 => ?_)
                          refine rf_bo (gR_M3 R_w49) ?_
                          refine rf_soP R_w49.md (fun j51 h_j51 => ?_)
                          refine rf_bo (gR_P2 R_w49 h_j51) ?_
                          refine rf_so ?_
                          refine rf_ai (aq_2 R_w49 h_j51.1) ?_
                          refine rf_so ?_
                          refine rf_wk (sx_44 R_w49) (fun w56' w56 R_w56 => ?_)
                          exact (yb_Ma_fit_364 hG1 hG2 R_w56)
                        · exact rf_ret R_u42 rfl
                      · exact (yb_Ma_fit_364 hG1 hG2 R_u17)
        · exact (yb_Ma_fit_57 hG1 hG2 R_u9)
theorem yb_Ma_fit_0 {N : Nat} {p : Nat} {c : Nat → Nat} {m : MS} {u : CS} {G : (CS → Nat → Option Nat → Int32 → Int32 → Int32 → Option (CS × Int32)) × (CS → Nat → Option Nat → Int32 → Int32 → Int32 → Int64 → Int32 → Option (CS × Int32))} {G' : (MS → Nat → Int32 → Int32 → Int32 → Option (MS × Int32)) × (MS → Nat → Int32 → Int32 → Int32 → Int64 → Int32 → Option (MS × Int32))} (hG1 : ∀ (c : Nat → Nat) (m : MS) (u : CS) (v4 : Int32) (v5 : Int32) (v6 : Int32), RP (some p) c m u → RF 1 (some p) VE c u (G.1 u 55 (some 44) v4 v5 v6) (G'.1 m p v4 v5 v6)) (hG2 : ∀ (c : Nat → Nat) (m : MS) (u : CS) (v4 : Int32) (v5 : Int32) (v6 : Int32) (v7 : Int64) (v10 : Int32), RP (some p) c m u → RF 1 (some p) VE c u (G.2 u 55 (some 44) v4 v5 v6 v7 v10) (G'.2 m p v4 v5 v6 v7 v10)) (R : RP (some p) c m u) {v1 : Int32} {v2 : Int32} : RF 1 (some p) VE c u (fb_Ma_fit_0 N G u 55 v1 v2) (hb_Ma_fit_0 N G' m p v1 v2) := by
  unfold fb_Ma_fit_0 hb_Ma_fit_0
  refine rf_bo (rx_55_2 R) ?_
  refine rf_so ?_
  refine rf_bo (rx_43_0 R) ?_
  exact (hG1 _ _ _ _ _ _ R)
theorem yg_Ma_fit {N : Nat} {p : Nat} : ∀ n, (∀ (c : Nat → Nat) (m : MS) (u : CS) (v4 : Int32) (v5 : Int32) (v6 : Int32), RP (some p) c m u → RF 1 (some p) VE c u ((gg_Ma_fit N n).1 u 55 (some 44) v4 v5 v6) ((hg_Ma_fit N n).1 m p v4 v5 v6)) ∧ (∀ (c : Nat → Nat) (m : MS) (u : CS) (v4 : Int32) (v5 : Int32) (v6 : Int32) (v7 : Int64) (v10 : Int32), RP (some p) c m u → RF 1 (some p) VE c u ((gg_Ma_fit N n).2 u 55 (some 44) v4 v5 v6 v7 v10) ((hg_Ma_fit N n).2 m p v4 v5 v6 v7 v10)) := by
  intro n
  induction n with
  | zero => exact ⟨fun c m u v4 v5 v6 R => rf_none, fun c m u v4 v5 v6 v7 v10 R => rf_none⟩
  | succ n ih => exact ⟨fun c m u v4 v5 v6 R => yb_Ma_fit_17 (N := N) ih.1 ih.2 R, fun c m u v4 v5 v6 v7 v10 R => yb_Ma_fit_268 (N := N) ih.1 ih.2 R⟩
theorem ym_Ma_fit {N : Nat} {p : Nat} {c : Nat → Nat} {m : MS} {u : CS} (R : RP (some p) c m u) {v1 : Int32} {v2 : Int32} : RF 1 (some p) VE c u (fm_Ma_fit N u 55 v1 v2) (hm_Ma_fit N m p v1 v2) := yb_Ma_fit_0 (N := N) (yg_Ma_fit (N := N) N).1 (yg_Ma_fit (N := N) N).2 R
end
section
set_option maxRecDepth 100000
theorem yb_Ma_tries_153 {N : Nat} {p : Nat} {c : Nat → Nat} {m : MS} {u : CS} {G : (CS → Nat → Int32 → Int32 → Int32 → Int32 → Option (CS × Unit))} {G' : (MS → Nat → Int32 → Int32 → Int32 → Int32 → Option (MS × Unit))} (hG : ∀ (c : Nat → Nat) (m : MS) (u : CS) (v1 : Int32) (v2 : Int32) (v3 : Int32) (v4 : Int32), RP (some p) c m u → RF 1 (some p) VE c u (G u 55 v1 v2 v3 v4) (G' m p v1 v2 v3 v4)) (R : RP (some p) c m u) : RF 1 (some p) VE c u (fb_Ma_tries_153 N G u) (hb_Ma_tries_153 N G' m p) := by
  unfold fb_Ma_tries_153 hb_Ma_tries_153
  exact rf_ret R rfl
theorem yb_Ma_tries_93 {N : Nat} {p : Nat} {c : Nat → Nat} {m : MS} {u : CS} {G : (CS → Nat → Int32 → Int32 → Int32 → Int32 → Option (CS × Unit))} {G' : (MS → Nat → Int32 → Int32 → Int32 → Int32 → Option (MS × Unit))} (hG : ∀ (c : Nat → Nat) (m : MS) (u : CS) (v1 : Int32) (v2 : Int32) (v3 : Int32) (v4 : Int32), RP (some p) c m u → RF 1 (some p) VE c u (G u 55 v1 v2 v3 v4) (G' m p v1 v2 v3 v4)) (R : RP (some p) c m u) {v1 : Int32} {v2 : Int32} {v3 : Int32} {v4 : Int32} {t1 : Int32} {t2 : Int64} : RF 1 (some p) VE c u (fb_Ma_tries_93 N G u 55 v1 v2 v3 v4 (some 44) t1 t2) (hb_Ma_tries_93 N G' m p v1 v2 v3 v4 t1 t2) := by
  unfold fb_Ma_tries_93 hb_Ma_tries_93
  refine rf_so ?_
  refine rf_wk (sx_44 R) (fun w2' w2 R_w2 => ?_)
  exact (hG _ _ _ _ _ _ _ R_w2)
theorem yb_Ma_tries_50 {N : Nat} {p : Nat} {c : Nat → Nat} {m : MS} {u : CS} {G : (CS → Nat → Int32 → Int32 → Int32 → Int32 → Option (CS × Unit))} {G' : (MS → Nat → Int32 → Int32 → Int32 → Int32 → Option (MS × Unit))} (hG : ∀ (c : Nat → Nat) (m : MS) (u : CS) (v1 : Int32) (v2 : Int32) (v3 : Int32) (v4 : Int32), RP (some p) c m u → RF 1 (some p) VE c u (G u 55 v1 v2 v3 v4) (G' m p v1 v2 v3 v4)) (R : RP (some p) c m u) {v1 : Int32} {v2 : Int32} {v3 : Int32} {v4 : Int32} {t0 : Int32} : RF 1 (some p) VE c u (fb_Ma_tries_50 N G u 55 v1 v2 v3 v4 t0) (hb_Ma_tries_50 N G' m p v1 v2 v3 v4 t0) := by
  unfold fb_Ma_tries_50 hb_Ma_tries_50
  refine rf_bo (rx_55_2 R) ?_
  refine rf_so ?_
  refine rf_bo (rx_43_0 R) ?_
  refine rf_br ?_ ?_
  · refine rf_bo (gR_M4 R) ?_
    refine rf_soF R.md (fun j8 h_j8 => ?_)
    refine rf_ck (io_F R h_j8) ?_
    refine rf_bx0 (rf_gz (ym_Fr_below R h_j8) (by omega)) (fun u7' u7 r7 R_u7 => ?_)
    refine rf_gw ?_
    exact (yb_Ma_tries_93 hG R_u7)
  · refine rf_bo (gR_M3 R) ?_
    refine rf_soP R.md (fun j10 h_j10 => ?_)
    refine rf_bo (gR_P6 R h_j10) ?_
    refine rf_bo (gR_M3 R) ?_
    refine rf_soP R.md (fun j13 h_j13 => ?_)
    refine rf_bo (gq_8 R h_j13) ?_
    refine rf_so ?_
    refine rf_ai (aq_6 R h_j10.1) ?_
    exact (yb_Ma_tries_93 hG R)
theorem yb_Ma_tries_49 {N : Nat} {p : Nat} {c : Nat → Nat} {m : MS} {u : CS} {G : (CS → Nat → Int32 → Int32 → Int32 → Int32 → Option (CS × Unit))} {G' : (MS → Nat → Int32 → Int32 → Int32 → Int32 → Option (MS × Unit))} (hG : ∀ (c : Nat → Nat) (m : MS) (u : CS) (v1 : Int32) (v2 : Int32) (v3 : Int32) (v4 : Int32), RP (some p) c m u → RF 1 (some p) VE c u (G u 55 v1 v2 v3 v4) (G' m p v1 v2 v3 v4)) (R : RP (some p) c m u) {v1 : Int32} {v2 : Int32} {v3 : Int32} {v4 : Int32} : RF 1 (some p) VE c u (fb_Ma_tries_49 N G u 55 v1 v2 v3 v4) (hb_Ma_tries_49 N G' m p v1 v2 v3 v4) := by
  unfold fb_Ma_tries_49 hb_Ma_tries_49
  exact (yb_Ma_tries_50 hG R)
theorem yb_Ma_tries_21 {N : Nat} {p : Nat} {c : Nat → Nat} {m : MS} {u : CS} {G : (CS → Nat → Int32 → Int32 → Int32 → Int32 → Option (CS × Unit))} {G' : (MS → Nat → Int32 → Int32 → Int32 → Int32 → Option (MS × Unit))} (hG : ∀ (c : Nat → Nat) (m : MS) (u : CS) (v1 : Int32) (v2 : Int32) (v3 : Int32) (v4 : Int32), RP (some p) c m u → RF 1 (some p) VE c u (G u 55 v1 v2 v3 v4) (G' m p v1 v2 v3 v4)) (R : RP (some p) c m u) {v1 : Int32} {v2 : Int32} {v3 : Int32} {v4 : Int32} : RF 1 (some p) VE c u (fb_Ma_tries_21 N G u 55 v1 v2 v3 v4) (hb_Ma_tries_21 N G' m p v1 v2 v3 v4) := by
  unfold fb_Ma_tries_21 hb_Ma_tries_21
  refine rf_br ?_ ?_
  · refine rf_bo (gx_55_5 R) ?_
    refine rf_ck (ox_55 R) ?_
    refine rf_ck (all1 (okR_s R (by decide))) ?_
    refine rf_bx (rf_gw (ym_Ma_fit R)) (by unfold zle; omega) (fun c_u18 u18' u18 r18 r18' R_u18 E_u18 v_u18 => ?_)
    cases v_u18
    refine rf_gw ?_
    refine rf_br ?_ ?_
    · refine rf_bo (gR_M4 R_u18) ?_
      refine rf_soF R_u18.md (fun j21 h_j21 => ?_)
      refine rf_w (wf_4 R_u18 h_j21) (fun w22' w22 R_w22 => ?_)
      refine rf_bo (rx_55_0 R_w22) ?_
      refine rf_bo (gx_55_5 R_w22) ?_
      refine rf_so ?_
      refine rf_ck (ox_22 R_w22) ?_
      refine rf_bx0 (rf_gz (ym_Co_at R_w22) (by omega)) (fun u25' u25 r25 R_u25 => ?_)
      refine rf_gw ?_
      refine rf_w (px_55_5 R_u25) (fun w27' w27 R_w27 => ?_)
      exact (yb_Ma_tries_153 hG R_w27)
    · refine rf_w (px_55_5 R_u18) (fun w19' w19 R_w19 => ?_)
      exact (yb_Ma_tries_153 hG R_w19)
  · refine rf_br ?_ ?_
    · refine rf_bo (gR_M3 R) ?_
      refine rf_soP R.md (fun j29 h_j29 => ?_)
      refine rf_bo (gq_8 R h_j29) ?_
      refine rf_br ?_ ?_
      · exact (yb_Ma_tries_49 hG R)
      · exact (yb_Ma_tries_50 hG R)
    · exact (yb_Ma_tries_49 hG R)
theorem yb_Ma_tries_17 {N : Nat} {p : Nat} {c : Nat → Nat} {m : MS} {u : CS} {G : (CS → Nat → Int32 → Int32 → Int32 → Int32 → Option (CS × Unit))} {G' : (MS → Nat → Int32 → Int32 → Int32 → Int32 → Option (MS × Unit))} (hG : ∀ (c : Nat → Nat) (m : MS) (u : CS) (v1 : Int32) (v2 : Int32) (v3 : Int32) (v4 : Int32), RP (some p) c m u → RF 1 (some p) VE c u (G u 55 v1 v2 v3 v4) (G' m p v1 v2 v3 v4)) (R : RP (some p) c m u) {v1 : Int32} {v2 : Int32} {t0 : Int32} : RF 1 (some p) VE c u (fb_Ma_tries_17 N G u 55 v1 v2 t0) (hb_Ma_tries_17 N G' m p v1 v2 t0) := by
  unfold fb_Ma_tries_17 hb_Ma_tries_17
  exact (hG _ _ _ _ _ _ _ R)
theorem yb_Ma_tries_0 {N : Nat} {p : Nat} {c : Nat → Nat} {m : MS} {u : CS} {G : (CS → Nat → Int32 → Int32 → Int32 → Int32 → Option (CS × Unit))} {G' : (MS → Nat → Int32 → Int32 → Int32 → Int32 → Option (MS × Unit))} (hG : ∀ (c : Nat → Nat) (m : MS) (u : CS) (v1 : Int32) (v2 : Int32) (v3 : Int32) (v4 : Int32), RP (some p) c m u → RF 1 (some p) VE c u (G u 55 v1 v2 v3 v4) (G' m p v1 v2 v3 v4)) (R : RP (some p) c m u) {v1 : Int32} : RF 1 (some p) VE c u (fb_Ma_tries_0 N G u 55 v1) (hb_Ma_tries_0 N G' m p v1) := by
  unfold fb_Ma_tries_0 hb_Ma_tries_0
  refine rf_bo (gR_M4 R) ?_
  refine rf_soF R.md (fun j32 h_j32 => ?_)
  refine rf_bo (gf_4 R h_j32) ?_
  refine rf_br ?_ ?_
  · exact (yb_Ma_tries_17 hG R)
  · exact (yb_Ma_tries_17 hG R)
theorem yg_Ma_tries {N : Nat} {p : Nat} : ∀ n, (∀ (c : Nat → Nat) (m : MS) (u : CS) (v1 : Int32) (v2 : Int32) (v3 : Int32) (v4 : Int32), RP (some p) c m u → RF 1 (some p) VE c u ((gg_Ma_tries N n) u 55 v1 v2 v3 v4) ((hg_Ma_tries N n) m p v1 v2 v3 v4)) := by
  intro n
  induction n with
  | zero => exact fun c m u v1 v2 v3 v4 R => rf_none
  | succ n ih => exact fun c m u v1 v2 v3 v4 R => yb_Ma_tries_21 (N := N) ih R
theorem ym_Ma_tries {N : Nat} {p : Nat} {c : Nat → Nat} {m : MS} {u : CS} (R : RP (some p) c m u) {v1 : Int32} : RF 1 (some p) VE c u (fm_Ma_tries N u 55 v1) (hm_Ma_tries N m p v1) := yb_Ma_tries_0 (N := N) (yg_Ma_tries (N := N) N) R
theorem yb_Ma_match_73 {N : Nat} {p : Nat} {c : Nat → Nat} {m : MS} {u : CS} (R : RP (some p) c m u) : RF 1 (some p) VE c u (fb_Ma_match_73 N () u) (hb_Ma_match_73 N () m p) := by
  unfold fb_Ma_match_73 hb_Ma_match_73
  exact rf_ret R rfl
theorem yb_Ma_match_0 {N : Nat} {p : Nat} {c : Nat → Nat} {m : MS} {u : CS} (R : RP (some p) c m u) : RF 1 (some p) VE c u (fb_Ma_match_0 N () u 55) (hb_Ma_match_0 N () m p) := by
  unfold fb_Ma_match_0 hb_Ma_match_0
  refine rf_bo (gR_M4 R) ?_
  refine rf_soF R.md (fun j2 h_j2 => ?_)
  refine rf_bo (gf_4 R h_j2) ?_
  refine rf_bo (rx_55_2 R) ?_
  refine rf_so ?_
  refine rf_bo (rx_43_0 R) ?_
  refine rf_bo (gR_M4 R) ?_
  refine rf_soF R.md (fun j9 h_j9 => ?_)
  refine rf_ck (io_F R h_j9) ?_
  refine rf_bx0 (rf_gz (ym_Fr_below R h_j9) (by omega)) (fun u8' u8 r8 R_u8 => ?_)
  refine rf_gw ?_
  refine rf_so ?_
  refine rf_wk (sx_44 R_u8) (fun w11' w11 R_w11 => ?_)
  refine rf_bo (gx_55_5 R_w11) ?_
  refine rf_ck (ox_55 R_w11) ?_
  refine rf_ck (all1 (okR_s R_w11 (by decide))) ?_
  refine rf_bx (rf_gw (ym_Ma_fit R_w11)) (by unfold zle; omega) (fun c_u13 u13' u13 r13 r13' R_u13 E_u13 v_u13 => ?_)
  cases v_u13
  refine rf_gw ?_
  refine rf_br ?_ ?_
  · refine rf_bo (gR_M4 R_u13) ?_
    refine rf_soF R_u13.md (fun j16 h_j16 => ?_)
    refine rf_w (wf_4 R_u13 h_j16) (fun w17' w17 R_w17 => ?_)
    refine rf_bo (gR_M4 R_w17) ?_
    refine rf_soF R_w17.md (fun j20 h_j20 => ?_)
    refine rf_ck (io_F R_w17 h_j20) ?_
    refine rf_bx0 (rf_gz (ym_Fr_below R_w17 h_j20) (by omega)) (fun u19' u19 r19 R_u19 => ?_)
    refine rf_gw ?_
    refine rf_ck (ox_55 R_u19) ?_
    refine rf_bx0 (rf_gz (ym_Ma_tell R_u19) (by omega)) (fun u21' u21 r21 R_u21 => ?_)
    refine rf_gw ?_
    exact (yb_Ma_match_73 R_u21)
  · refine rf_w (px_55_5 R_u13) (fun w14' w14 R_w14 => ?_)
    exact (yb_Ma_match_73 R_w14)
theorem ym_Ma_match {N : Nat} {p : Nat} {c : Nat → Nat} {m : MS} {u : CS} (R : RP (some p) c m u) : RF 1 (some p) VE c u (fm_Ma_match N u 55) (hm_Ma_match N m p) := yb_Ma_match_0 (N := N) R
theorem yb_Ma_guardFails_0 {N : Nat} {p : Nat} {c : Nat → Nat} {m : MS} {u : CS} (R : RP (some p) c m u) : RF 0 (some p) VE c u (fb_Ma_guardFails_0 N () u 55) (hb_Ma_guardFails_0 N () m p) := by
  unfold fb_Ma_guardFails_0 hb_Ma_guardFails_0
  refine rf_bo (gR_M4 R) ?_
  refine rf_bo (gx_55_14 R) ?_
  refine rf_soF R.md (fun j3 h_j3 => ?_)
  refine rf_w (wf_6 R h_j3) (fun w4' w4 R_w4 => ?_)
  refine rf_bo (gR_M4 R_w4) ?_
  refine rf_bo (gx_55_13 R_w4) ?_
  refine rf_soF R_w4.md (fun j8 h_j8 => ?_)
  refine rf_ck (io_F R_w4 h_j8) ?_
  refine rf_bx0 (ym_Fr_forget R_w4 h_j8) (fun u7' u7 r7 R_u7 => ?_)
  refine rf_bo (gx_55_12 R_u7) ?_
  refine rf_w (px_55_5 R_u7) (fun w10' w10 R_w10 => ?_)
  refine rf_w (px_55_12 R_w10) (fun w11' w11 R_w11 => ?_)
  exact rf_ret R_w11 rfl
theorem ym_Ma_guardFails {N : Nat} {p : Nat} {c : Nat → Nat} {m : MS} {u : CS} (R : RP (some p) c m u) : RF 0 (some p) VE c u (fm_Ma_guardFails N u 55) (hm_Ma_guardFails N m p) := yb_Ma_guardFails_0 (N := N) R
theorem yb_Fr_replace_0 {N : Nat} {o : Option Nat} {c : Nat → Nat} {m : MS} {u : CS} (R : RP o c m u) {v0 : Nat} {v0' : Nat} {v1 : Int32} {v2 : Int32} {v3 : Int32} (h_v0 : FVn c v0 v0') : RF 0 o VE c u (fb_Fr_replace_0 N () u v0 v1 v2 v3) (hb_Fr_replace_0 N () m v0' v1 v2 v3) := by
  unfold fb_Fr_replace_0 hb_Fr_replace_0
  refine rf_bo (gf_1 R h_v0) ?_
  refine rf_ck (io_F R h_v0) ?_
  refine rf_bx0 (ym_Fr_of R h_v0) (fun u2' u2 r2 R_u2 => ?_)
  refine rf_bo (gR_F5 R_u2 h_v0) ?_
  refine rf_bo (gf_6 R_u2 h_v0) ?_
  refine rf_bo (gR_F5 R_u2 h_v0) ?_
  refine rf_so ?_
  refine rf_so ?_
  refine rf_wk (cq_35 R_u2 h_v0.1) (fun w8' w8 R_w8 => ?_)
  refine rf_w (wf_6 R_w8 h_v0) (fun w9' w9 R_w9 => ?_)
  refine rf_bo (gf_1 R_w9 h_v0) ?_
  refine rf_ck (io_F R_w9 h_v0) ?_
  refine rf_bx0 (ym_Fr_of R_w9 h_v0) (fun u11' u11 r11 R_u11 => ?_)
  refine rf_w (wf_4 R_u11 h_v0) (fun w12' w12 R_w12 => ?_)
  refine rf_ck (io_F R_w12 h_v0) ?_
  refine rf_bx0 (ym_Fr_set R_w12 h_v0) (fun u13' u13 r13 R_u13 => ?_)
  refine rf_ck (io_F R_u13 h_v0) ?_
  refine rf_bx0 (ym_Fr_set R_u13 h_v0) (fun u14' u14 r14 R_u14 => ?_)
  refine rf_ck (io_F R_u14 h_v0) ?_
  refine rf_bx0 (ym_Fr_set R_u14 h_v0) (fun u15' u15 r15 R_u15 => ?_)
  exact rf_ret R_u15 rfl
theorem ym_Fr_replace {N : Nat} {o : Option Nat} {c : Nat → Nat} {m : MS} {u : CS} (R : RP o c m u) {v0 : Nat} {v0' : Nat} {v1 : Int32} {v2 : Int32} {v3 : Int32} (h_v0 : FVn c v0 v0') : RF 0 o VE c u (fm_Fr_replace N u v0 v1 v2 v3) (hm_Fr_replace N m v0' v1 v2 v3) := yb_Fr_replace_0 (N := N) R h_v0
theorem yb_Ma_enter_37 {N : Nat} {p : Nat} {c : Nat → Nat} {m : MS} {u : CS} (R : RP (some p) c m u) {v2 : Int32} : RF 0 (some p) VE c u (fb_Ma_enter_37 N () u 55 v2) (hb_Ma_enter_37 N () m p v2) := by
  unfold fb_Ma_enter_37 hb_Ma_enter_37
  refine rf_w (px_55_5 R) (fun w1' w1 R_w1 => ?_)
  exact rf_ret R_w1 rfl
theorem yb_Ma_enter_0 {N : Nat} {p : Nat} {c : Nat → Nat} {m : MS} {u : CS} (R : RP (some p) c m u) {v1 : Int32} {v2 : Int32} {v3 : Int32} {v4 : Int32} {v5 : Int32} : RF 0 (some p) VE c u (fb_Ma_enter_0 N () u 55 v1 v2 v3 v4 v5) (hb_Ma_enter_0 N () m p v1 v2 v3 v4 v5) := by
  unfold fb_Ma_enter_0 hb_Ma_enter_0
  refine rf_br ?_ ?_
  · refine rf_bo (gR_M4 R) ?_
    refine rf_soF R.md (fun j4 h_j4 => ?_)
    refine rf_ck (io_F R h_j4) ?_
    refine rf_bx0 (ym_Fr_setPlace R h_j4) (fun u3' u3 r3 R_u3 => ?_)
    refine rf_bo (gR_M4 R_u3) ?_
    refine rf_soF R_u3.md (fun j7 h_j7 => ?_)
    refine rf_ck (io_F R_u3 h_j7) ?_
    refine rf_bx0 (ym_Fr_open R_u3 h_j7) (fun u6' u6 r6 R_u6 => ?_)
    exact (yb_Ma_enter_37 R_u6)
  · refine rf_bo (gR_M4 R) ?_
    refine rf_soF R.md (fun j10 h_j10 => ?_)
    refine rf_ck (io_F R h_j10) ?_
    refine rf_bx0 (ym_Fr_replace R h_j10) (fun u9' u9 r9 R_u9 => ?_)
    exact (yb_Ma_enter_37 R_u9)
theorem ym_Ma_enter {N : Nat} {p : Nat} {c : Nat → Nat} {m : MS} {u : CS} (R : RP (some p) c m u) {v1 : Int32} {v2 : Int32} {v3 : Int32} {v4 : Int32} {v5 : Int32} : RF 0 (some p) VE c u (fm_Ma_enter N u 55 v1 v2 v3 v4 v5) (hm_Ma_enter N m p v1 v2 v3 v4 v5) := yb_Ma_enter_0 (N := N) R
theorem yb_Ma_call_70 {N : Nat} {p : Nat} {c : Nat → Nat} {m : MS} {u : CS} (R : RP (some p) c m u) : RF 0 (some p) VE c u (fb_Ma_call_70 N () u) (hb_Ma_call_70 N () m p) := by
  unfold fb_Ma_call_70 hb_Ma_call_70
  exact rf_ret R rfl
theorem yb_Ma_call_0 {N : Nat} {p : Nat} {c : Nat → Nat} {m : MS} {u : CS} (R : RP (some p) c m u) {v1 : Int32} {v2 : Int32} : RF 0 (some p) VE c u (fb_Ma_call_0 N () u 55 v1 v2) (hb_Ma_call_0 N () m p v1 v2) := by
  unfold fb_Ma_call_0 hb_Ma_call_0
  refine rf_bo (rx_55_0 R) ?_
  refine rf_bo (gx_55_5 R) ?_
  refine rf_so ?_
  refine rf_ck (ox_22 R) ?_
  refine rf_bx0 (ym_Co_at R) (fun u3' u3 r3 R_u3 => ?_)
  refine rf_ck (ox_55 R_u3) ?_
  refine rf_bx0 (ym_Ma_begins R_u3) (fun u5' u5 r5 R_u5 => ?_)
  refine rf_br ?_ ?_
  · exact (yb_Ma_call_70 R_u5)
  · refine rf_br ?_ ?_
    · exact (yb_Ma_call_70 R_u5)
    · refine rf_bo (rx_55_0 R_u5) ?_
      refine rf_so ?_
      refine rf_bo (gx_22_2 R_u5) ?_
      refine rf_br ?_ ?_
      · exact (yb_Ma_call_70 R_u5)
      · refine rf_bo (rx_55_0 R_u5) ?_
        refine rf_so ?_
        refine rf_bo (rx_22_8 R_u5) ?_
        refine rf_so ?_
        refine rf_ai (ax_29 R_u5) ?_
        refine rf_bo (rx_55_0 R_u5) ?_
        refine rf_bo (gx_55_5 R_u5) ?_
        refine rf_so ?_
        refine rf_ck (ox_22 R_u5) ?_
        refine rf_bx0 (ym_Co_at R_u5) (fun u16' u16 r16 R_u16 => ?_)
        refine rf_bo (gx_55_5 R_u16) ?_
        refine rf_ck (ox_55 R_u16) ?_
        refine rf_bx0 (ym_Ma_enter R_u16) (fun u19' u19 r19 R_u19 => ?_)
        exact (yb_Ma_call_70 R_u19)
theorem ym_Ma_call {N : Nat} {p : Nat} {c : Nat → Nat} {m : MS} {u : CS} (R : RP (some p) c m u) {v1 : Int32} {v2 : Int32} : RF 0 (some p) VE c u (fm_Ma_call N u 55 v1 v2) (hm_Ma_call N m p v1 v2) := yb_Ma_call_0 (N := N) R
theorem yb_Fr_takeOut_39 {N : Nat} {o : Option Nat} {c : Nat → Nat} {m : MS} {u : CS} (R : RP o c m u) : RF 0 o VE c u (fb_Fr_takeOut_39 N () u) (hb_Fr_takeOut_39 N () m) := by
  unfold fb_Fr_takeOut_39 hb_Fr_takeOut_39
  exact rf_ret R rfl
theorem yb_Fr_takeOut_0 {N : Nat} {o : Option Nat} {c : Nat → Nat} {m : MS} {u : CS} (R : RP o c m u) {v0 : Nat} {v0' : Nat} {v1 : Int32} (h_v0 : FVn c v0 v0') : RF 0 o VE c u (fb_Fr_takeOut_0 N () u v0 v1) (hb_Fr_takeOut_0 N () m v0' v1) := by
  unfold fb_Fr_takeOut_0 hb_Fr_takeOut_0
  refine rf_bo (gf_6 R h_v0) ?_
  refine rf_br ?_ ?_
  · exact (yb_Fr_takeOut_39 R)
  · refine rf_bo (gR_F5 R h_v0) ?_
    refine rf_bo (gR_F5 R h_v0) ?_
    refine rf_so ?_
    refine rf_so ?_
    refine rf_wk (cq_35 R h_v0.1) (fun w6' w6 R_w6 => ?_)
    refine rf_bo (gf_6 R_w6 h_v0) ?_
    refine rf_w (wf_6 R_w6 h_v0) (fun w8' w8 R_w8 => ?_)
    exact (yb_Fr_takeOut_39 R_w8)
theorem ym_Fr_takeOut {N : Nat} {o : Option Nat} {c : Nat → Nat} {m : MS} {u : CS} (R : RP o c m u) {v0 : Nat} {v0' : Nat} {v1 : Int32} (h_v0 : FVn c v0 v0') : RF 0 o VE c u (fm_Fr_takeOut N u v0 v1) (hm_Fr_takeOut N m v0' v1) := yb_Fr_takeOut_0 (N := N) R h_v0
theorem yb_Ma_apply_0 {N : Nat} {p : Nat} {c : Nat → Nat} {m : MS} {u : CS} (R : RP (some p) c m u) {v1 : Int32} {v2 : Int32} : RF 1 (some p) VE c u (fb_Ma_apply_0 N () u 55 v1 v2) (hb_Ma_apply_0 N () m p v1 v2) := by
  unfold fb_Ma_apply_0 hb_Ma_apply_0
  refine rf_bo (gR_M4 R) ?_
  refine rf_soF R.md (fun j3 h_j3 => ?_)
  refine rf_ck (io_F R h_j3) ?_
  refine rf_bx0 (rf_gz (ym_Fr_below R h_j3) (by omega)) (fun u2' u2 r2 R_u2 => ?_)
  refine rf_gw ?_
  refine rf_bx0 (rf_gz (ym_Te_tag R_u2) (by omega)) (fun u4' u4 r4 R_u4 => ?_)
  refine rf_gw ?_
  refine rf_br ?_ ?_
  · refine rf_bo (gR_M3 R_u4) ?_
    refine rf_soP R_u4.md (fun j6 h_j6 => ?_)
    refine rf_bo (gR_P2 R_u4 h_j6) ?_
    refine rf_so ?_
    refine rf_ai (aq_2 R_u4 h_j6.1) ?_
    refine rf_bo (rx_55_0 R_u4) ?_
    refine rf_so ?_
    refine rf_ck (ox_22 R_u4) ?_
    refine rf_bx0 (rf_gz (ym_Co_takes R_u4) (by omega)) (fun u11' u11 r11 R_u11 => ?_)
    refine rf_gw ?_
    refine rf_br ?_ ?_
    · refine rf_bo (rx_55_0 R_u11) ?_
      refine rf_bo (gx_55_5 R_u11) ?_
      refine rf_so ?_
      refine rf_ck (ox_22 R_u11) ?_
      refine rf_bx0 (rf_gz (ym_Co_at R_u11) (by omega)) (fun u15' u15 r15 R_u15 => ?_)
      refine rf_gw ?_
      refine rf_ck (ox_55 R_u15) ?_
      refine rf_bx0 (rf_gz (ym_Ma_begins R_u15) (by omega)) (fun u17' u17 r17 R_u17 => ?_)
      refine rf_gw ?_
      refine rf_br ?_ ?_
      · exact rf_ret R_u17 rfl
      · refine rf_bo (gR_M4 R_u17) ?_
        refine rf_soF R_u17.md (fun j20 h_j20 => ?_)
        refine rf_ck (io_F R_u17 h_j20) ?_
        refine rf_bx0 (rf_gz (ym_Fr_takeOut R_u17 h_j20) (by omega)) (fun u19' u19 r19 R_u19 => ?_)
        refine rf_gw ?_
        refine rf_bx0 (rf_gz (ym_Ma_functionOf R_u19) (by omega)) (fun u21' u21 r21 R_u21 => ?_)
        refine rf_gw ?_
        refine rf_ck (ox_55 R_u21) ?_
        refine rf_bx0 (rf_gz (ym_Ma_entryOf R_u21) (by omega)) (fun u22' u22 r22 R_u22 => ?_)
        refine rf_gw ?_
        refine rf_bo (gx_55_5 R_u22) ?_
        refine rf_ck (ox_55 R_u22) ?_
        refine rf_bx0 (rf_gz (ym_Ma_enter R_u22) (by omega)) (fun u24' u24 r24 R_u24 => ?_)
        refine rf_gw ?_
        refine rf_bo (gR_M4 R_u24) ?_
        refine rf_bo (gR_M3 R_u24) ?_
        refine rf_soP R_u24.md (fun j27 h_j27 => ?_)
        refine rf_bo (gR_P2 R_u24 h_j27) ?_
        refine rf_ck (ox_55 R_u24) ?_
        refine rf_ck (all1 (okR_s R_u24 (by decide))) ?_
        refine rf_bx (rf_gw (ym_Ma_hold R_u24 ⟨R_u24.md, rfl⟩ ⟨_, h_j27.1, rfl, rfl⟩)) (by unfold zle; omega) (fun c_u29 u29' u29 r29 r29' R_u29 E_u29 v_u29 => ?_)
        cases v_u29
        refine rf_gw ?_
        exact rf_ret R_u29 rfl
    · refine rf_bx0 (rf_gz (ym_Te_make R_u11) (by omega)) (fun u30' u30 r30 R_u30 => ?_)
      refine rf_gw ?_
      refine rf_ck (ox_55 R_u30) ?_
      refine rf_bx0 (rf_gz (ym_Ma_tell R_u30) (by omega)) (fun u31' u31 r31 R_u31 => ?_)
      refine rf_gw ?_
      exact rf_ret R_u31 rfl
  · refine rf_ck (ox_55 R_u4) ?_
    refine rf_bx0 (rf_gz (ym_Ma_tell R_u4) (by omega)) (fun u32' u32 r32 R_u32 => ?_)
    refine rf_gw ?_
    exact rf_ret R_u32 rfl
theorem ym_Ma_apply {N : Nat} {p : Nat} {c : Nat → Nat} {m : MS} {u : CS} (R : RP (some p) c m u) {v1 : Int32} {v2 : Int32} : RF 1 (some p) VE c u (fm_Ma_apply N u 55 v1 v2) (hm_Ma_apply N m p v1 v2) := yb_Ma_apply_0 (N := N) R
theorem yb_Fr_catchTo_34 {N : Nat} {o : Option Nat} {c : Nat → Nat} {m : MS} {u : CS} (R : RP o c m u) {v0 : Nat} {v0' : Nat} {v1 : Int32} {v2 : Int32} (h_v0 : FVn c v0 v0') : RF 1 o VE c u (fb_Fr_catchTo_34 N () u v0 v1 v2) (hb_Fr_catchTo_34 N () m v0' v1 v2) := by
  unfold fb_Fr_catchTo_34 hb_Fr_catchTo_34
  refine rf_bo (gR_F7 R h_v0) ?_
  refine rf_bo (gf_1 R h_v0) ?_
  refine rf_so ?_
  refine rf_wk (sq_37 R h_v0.1) (fun w4' w4 R_w4 => ?_)
  refine rf_bo (gR_F7 R_w4 h_v0) ?_
  refine rf_bo (gf_4 R_w4 h_v0) ?_
  refine rf_so ?_
  refine rf_wk (sq_37 R_w4 h_v0.1) (fun w8' w8 R_w8 => ?_)
  refine rf_bo (gR_F7 R_w8 h_v0) ?_
  refine rf_bo (gf_6 R_w8 h_v0) ?_
  refine rf_so ?_
  refine rf_wk (sq_37 R_w8 h_v0.1) (fun w12' w12 R_w12 => ?_)
  refine rf_bo (gR_F7 R_w12 h_v0) ?_
  refine rf_so ?_
  refine rf_wk (sq_37 R_w12 h_v0.1) (fun w15' w15 R_w15 => ?_)
  refine rf_bo (gf_8 R_w15 h_v0) ?_
  refine rf_w (wf_8 R_w15 h_v0) (fun w17' w17 R_w17 => ?_)
  exact rf_ret R_w17 rfl
theorem yb_Fr_catchTo_0 {N : Nat} {o : Option Nat} {c : Nat → Nat} {m : MS} {u : CS} (R : RP o c m u) {v0 : Nat} {v0' : Nat} {v1 : Int32} (h_v0 : FVn c v0 v0') : RF 1 o VE c u (fb_Fr_catchTo_0 N () u v0 v1) (hb_Fr_catchTo_0 N () m v0' v1) := by
  unfold fb_Fr_catchTo_0 hb_Fr_catchTo_0
  refine rf_bo (gf_8 R h_v0) ?_
  refine rf_bo (gR_F7 R h_v0) ?_
  refine rf_so ?_
  refine rf_bo (nq_37 R h_v0.1) ?_
  refine rf_br ?_ ?_
  · exact (yb_Fr_catchTo_34 R h_v0)
  · refine rf_bo (gR_F7 R h_v0) ?_
    refine rf_bo (gR_F7 R h_v0) ?_
    refine rf_so ?_
    refine rf_bo (nq_37 R h_v0.1) ?_
    refine rf_ck (all1 (okR_F R h_v0)) ?_
    refine rf_growI R h_v0 (k := 37) (l := 47) (by unfold GRK; omega) (by omega) (by unfold zle; omega) (fun c_w27 w27' w27 R_w27 E_w27 => ?_)
    replace h_v0 := E_w27.F h_v0
    exact (yb_Fr_catchTo_34 R_w27 h_v0)
theorem ym_Fr_catchTo {N : Nat} {o : Option Nat} {c : Nat → Nat} {m : MS} {u : CS} (R : RP o c m u) {v0 : Nat} {v0' : Nat} {v1 : Int32} (h_v0 : FVn c v0 v0') : RF 1 o VE c u (fm_Fr_catchTo N u v0 v1) (hm_Fr_catchTo N m v0' v1) := yb_Fr_catchTo_0 (N := N) R h_v0
theorem yb_Ma_await_104 {N : Nat} {p : Nat} {c : Nat → Nat} {m : MS} {u : CS} (R : RP (some p) c m u) : RF 0 (some p) VE c u (fb_Ma_await_104 N () u 55) (hb_Ma_await_104 N () m p) := by
  unfold fb_Ma_await_104 hb_Ma_await_104
  refine rf_bo (gx_55_5 R) ?_
  refine rf_w (px_55_5 R) (fun w2' w2 R_w2 => ?_)
  exact rf_ret R_w2 rfl
theorem yb_Ma_await_96 {N : Nat} {p : Nat} {c : Nat → Nat} {m : MS} {u : CS} (R : RP (some p) c m u) : RF 0 (some p) VE c u (fb_Ma_await_96 N () u 55) (hb_Ma_await_96 N () m p) := by
  unfold fb_Ma_await_96 hb_Ma_await_96
  refine rf_bo (gR_M4 R) ?_
  refine rf_soF R.md (fun j5 h_j5 => ?_)
  refine rf_ck (io_F R h_j5) ?_
  refine rf_bx0 (ym_Fr_drop R h_j5) (fun u4' u4 r4 R_u4 => ?_)
  exact (yb_Ma_await_104 R_u4)
theorem yb_Ma_await_72 {N : Nat} {p : Nat} {c : Nat → Nat} {m : MS} {u : CS} (R : RP (some p) c m u) {v2 : Int64} {v4 : Int32} : RF 0 (some p) VE c u (fb_Ma_await_72 N () u 55 v2 v4) (hb_Ma_await_72 N () m p v2 v4) := by
  unfold fb_Ma_await_72 hb_Ma_await_72
  refine rf_br ?_ ?_
  · exact (yb_Ma_await_96 R)
  · refine rf_bo (gR_M3 R) ?_
    refine rf_bo (rx_55_1 R) ?_
    refine rf_so ?_
    refine rf_bo (gx_47_4 R) ?_
    refine rf_soP R.md (fun j10 h_j10 => ?_)
    refine rf_w (lq_10 R h_j10) (fun w11' w11 R_w11 => ?_)
    exact (yb_Ma_await_96 R_w11)
theorem yb_Ma_await_48 {N : Nat} {p : Nat} {c : Nat → Nat} {m : MS} {u : CS} (R : RP (some p) c m u) {v2 : Int64} {t0 : Int32} : RF 0 (some p) VE c u (fb_Ma_await_48 N () u 55 v2 t0) (hb_Ma_await_48 N () m p v2 t0) := by
  unfold fb_Ma_await_48 hb_Ma_await_48
  refine rf_br ?_ ?_
  · refine rf_bx0 (ym_Ma_atom R) (fun u12' u12 r12 R_u12 => ?_)
    refine rf_br ?_ ?_
    · exact (yb_Ma_await_72 R_u12)
    · refine rf_ck (ox_55 R_u12) ?_
      refine rf_bx0 (ym_Ma_wrong R_u12) (fun u13' u13 r13 R_u13 => ?_)
      exact rf_ret R_u13 rfl
  · exact (yb_Ma_await_72 R)
theorem yb_Ma_await_47 {N : Nat} {p : Nat} {c : Nat → Nat} {m : MS} {u : CS} (R : RP (some p) c m u) {v2 : Int64} : RF 0 (some p) VE c u (fb_Ma_await_47 N () u 55 v2) (hb_Ma_await_47 N () m p v2) := by
  unfold fb_Ma_await_47 hb_Ma_await_47
  exact (yb_Ma_await_48 R)
theorem yb_Ma_await_0 {N : Nat} {p : Nat} {c : Nat → Nat} {m : MS} {u : CS} (R : RP (some p) c m u) {v1 : Int32} : RF 0 (some p) VE c u (fb_Ma_await_0 N () u 55 v1) (hb_Ma_await_0 N () m p v1) := by
  unfold fb_Ma_await_0 hb_Ma_await_0
  refine rf_bo (gR_M3 R) ?_
  refine rf_soP R.md (fun j15 h_j15 => ?_)
  refine rf_w (wq_8 R h_j15) (fun w16' w16 R_w16 => ?_)
  refine rf_bo (gR_M3 R_w16) ?_
  refine rf_soP R_w16.md (fun j18 h_j18 => ?_)
  refine rf_w (lq_10 R_w16 h_j18) (fun w19' w19 R_w19 => ?_)
  refine rf_br ?_ ?_
  · exact (yb_Ma_await_104 R_w19)
  · refine rf_bo (gR_M4 R_w19) ?_
    refine rf_soF R_w19.md (fun j22 h_j22 => ?_)
    refine rf_ck (io_F R_w19 h_j22) ?_
    refine rf_bx0 (ym_Fr_below R_w19 h_j22) (fun u21' u21 r21 R_u21 => ?_)
    refine rf_bx0 (ym_Te_tag R_u21) (fun u23' u23 r23 R_u23 => ?_)
    refine rf_br ?_ ?_
    · refine rf_br ?_ ?_
      · exact (yb_Ma_await_47 R_u23)
      · exact (yb_Ma_await_48 R_u23)
    · exact (yb_Ma_await_47 R_u23)
theorem ym_Ma_await {N : Nat} {p : Nat} {c : Nat → Nat} {m : MS} {u : CS} (R : RP (some p) c m u) {v1 : Int32} : RF 0 (some p) VE c u (fm_Ma_await N u 55 v1) (hm_Ma_await N m p v1) := yb_Ma_await_0 (N := N) R
theorem yb_Pr_takeMessage_53 {N : Nat} {o : Option Nat} {c : Nat → Nat} {m : MS} {u : CS} (R : RP o c m u) {v0 : Nat} {v0' : Nat} (h_v0 : PVn c v0 v0') : RF 0 o VE c u (fb_Pr_takeMessage_53 N () u v0) (hb_Pr_takeMessage_53 N () m v0') := by
  unfold fb_Pr_takeMessage_53 hb_Pr_takeMessage_53
  refine rf_w (wq_8 R h_v0) (fun w1' w1 R_w1 => ?_)
  refine rf_w (lq_10 R_w1 h_v0) (fun w2' w2 R_w2 => ?_)
  exact rf_ret R_w2 rfl
theorem yb_Pr_takeMessage_0 {N : Nat} {o : Option Nat} {c : Nat → Nat} {m : MS} {u : CS} (R : RP o c m u) {v0 : Nat} {v0' : Nat} (h_v0 : PVn c v0 v0') : RF 0 o VE c u (fb_Pr_takeMessage_0 N () u v0) (hb_Pr_takeMessage_0 N () m v0') := by
  unfold fb_Pr_takeMessage_0 hb_Pr_takeMessage_0
  refine rf_bo (gq_8 R h_v0) ?_
  refine rf_bo (gq_7 R h_v0) ?_
  refine rf_br ?_ ?_
  · exact (yb_Pr_takeMessage_53 R h_v0)
  · refine rf_bo (gR_P6 R h_v0) ?_
    refine rf_bo (gq_8 R h_v0) ?_
    refine rf_bo (gR_P6 R h_v0) ?_
    refine rf_bo (gq_8 R h_v0) ?_
    refine rf_bo (gq_7 R h_v0) ?_
    refine rf_bo (gq_8 R h_v0) ?_
    refine rf_so ?_
    refine rf_so ?_
    refine rf_wk (cq_6 R h_v0.1) (fun w13' w13 R_w13 => ?_)
    refine rf_bo (gq_7 R_w13 h_v0) ?_
    refine rf_w (wq_7 R_w13 h_v0) (fun w15' w15 R_w15 => ?_)
    exact (yb_Pr_takeMessage_53 R_w15 h_v0)
theorem ym_Pr_takeMessage {N : Nat} {o : Option Nat} {c : Nat → Nat} {m : MS} {u : CS} (R : RP o c m u) {v0 : Nat} {v0' : Nat} (h_v0 : PVn c v0 v0') : RF 0 o VE c u (fm_Pr_takeMessage N u v0) (hm_Pr_takeMessage N m v0') := yb_Pr_takeMessage_0 (N := N) R h_v0
theorem yb_Ma_returns_0 {N : Nat} {p : Nat} {c : Nat → Nat} {m : MS} {u : CS} (R : RP (some p) c m u) : RF 1 (some p) VE c u (fb_Ma_returns_0 N () u 55) (hb_Ma_returns_0 N () m p) := by
  unfold fb_Ma_returns_0 hb_Ma_returns_0
  refine rf_bo (gR_M4 R) ?_
  refine rf_soF R.md (fun j2 h_j2 => ?_)
  refine rf_bo (gf_1 R h_j2) ?_
  refine rf_br ?_ ?_
  · refine rf_bo (gR_M4 R) ?_
    refine rf_soF R.md (fun j6 h_j6 => ?_)
    refine rf_ck (io_F R h_j6) ?_
    refine rf_bx0 (rf_gz (ym_Fr_below R h_j6) (by omega)) (fun u5' u5 r5 R_u5 => ?_)
    refine rf_gw ?_
    refine rf_bo (gR_M4 R_u5) ?_
    refine rf_soF R_u5.md (fun j9 h_j9 => ?_)
    refine rf_ck (io_F R_u5 h_j9) ?_
    refine rf_bx0 (rf_gz (ym_Fr_leave R_u5 h_j9) (by omega)) (fun u8' u8 r8 R_u8 => ?_)
    refine rf_gw ?_
    refine rf_bo (gR_M4 R_u8) ?_
    refine rf_soF R_u8.md (fun j12 h_j12 => ?_)
    refine rf_ck (io_F R_u8 h_j12) ?_
    refine rf_ck (all1 (okR_s R_u8 (by decide))) ?_
    refine rf_bx (rf_gw (ym_Fr_push R_u8 h_j12)) (by unfold zle; omega) (fun c_u11 u11' u11 r11 r11' R_u11 E_u11 v_u11 => ?_)
    cases v_u11
    refine rf_gw ?_
    refine rf_bo (gR_M4 R_u11) ?_
    refine rf_soF R_u11.md (fun j15 h_j15 => ?_)
    refine rf_ck (io_F R_u11 h_j15) ?_
    refine rf_bx0 (rf_gz (ym_Fr_place R_u11 h_j15) (by omega)) (fun u14' u14 r14 R_u14 => ?_)
    refine rf_gw ?_
    refine rf_w (px_55_5 R_u14) (fun w16' w16 R_w16 => ?_)
    exact rf_ret R_w16 rfl
  · refine rf_bo (rx_55_1 R) ?_
    refine rf_bo (gR_M3 R) ?_
    refine rf_so ?_
    refine rf_ck (ox_47 R) ?_
    refine rf_bx0 (rf_gz (ym_Wl_endsBy R ⟨R.md, rfl⟩) (by omega)) (fun u19' u19 r19 R_u19 => ?_)
    refine rf_gw ?_
    exact rf_ret R_u19 rfl
theorem ym_Ma_returns {N : Nat} {p : Nat} {c : Nat → Nat} {m : MS} {u : CS} (R : RP (some p) c m u) : RF 1 (some p) VE c u (fm_Ma_returns N u 55) (hm_Ma_returns N m p) := yb_Ma_returns_0 (N := N) R
theorem yb_Ma_waitOrLeave_162 {N : Nat} {p : Nat} {c : Nat → Nat} {m : MS} {u : CS} (R : RP (some p) c m u) : RF 1 (some p) VE c u (fb_Ma_waitOrLeave_162 N () u) (hb_Ma_waitOrLeave_162 N () m p) := by
  unfold fb_Ma_waitOrLeave_162 hb_Ma_waitOrLeave_162
  exact rf_ret R rfl
theorem yb_Ma_waitOrLeave_59 {N : Nat} {p : Nat} {c : Nat → Nat} {m : MS} {u : CS} (R : RP (some p) c m u) {t1 : Int32} : RF 1 (some p) VE c u (fb_Ma_waitOrLeave_59 N () u 55 t1) (hb_Ma_waitOrLeave_59 N () m p t1) := by
  unfold fb_Ma_waitOrLeave_59 hb_Ma_waitOrLeave_59
  refine rf_ck (ox_55 R) ?_
  refine rf_bx0 (rf_gz (ym_Ma_await R) (by omega)) (fun u1' u1 r1 R_u1 => ?_)
  refine rf_gw ?_
  exact (yb_Ma_waitOrLeave_162 R_u1)
theorem yb_Ma_waitOrLeave_0 {N : Nat} {p : Nat} {c : Nat → Nat} {m : MS} {u : CS} (R : RP (some p) c m u) {v1 : Int32} {v2 : Int32} : RF 1 (some p) VE c u (fb_Ma_waitOrLeave_0 N () u 55 v1 v2) (hb_Ma_waitOrLeave_0 N () m p v1 v2) := by
  unfold fb_Ma_waitOrLeave_0 hb_Ma_waitOrLeave_0
  refine rf_br ?_ ?_
  · refine rf_br ?_ ?_
    · exact (yb_Ma_waitOrLeave_59 R)
    · exact (yb_Ma_waitOrLeave_59 R)
  · refine rf_br ?_ ?_
    · refine rf_ck (ox_55 R) ?_
      refine rf_bx0 (rf_gz (ym_Ma_nextMessage R) (by omega)) (fun u2' u2 r2 R_u2 => ?_)
      refine rf_gw ?_
      exact (yb_Ma_waitOrLeave_162 R_u2)
    · refine rf_br ?_ ?_
      · refine rf_bo (gR_M3 R) ?_
        refine rf_soP R.md (fun j5 h_j5 => ?_)
        refine rf_ck (io_P R h_j5) ?_
        refine rf_bx0 (rf_gz (ym_Pr_takeMessage R h_j5) (by omega)) (fun u4' u4 r4 R_u4 => ?_)
        refine rf_gw ?_
        refine rf_bo (gx_55_5 R_u4) ?_
        refine rf_w (px_55_5 R_u4) (fun w7' w7 R_w7 => ?_)
        exact (yb_Ma_waitOrLeave_162 R_w7)
      · refine rf_br ?_ ?_
        · refine rf_bo (gR_M3 R) ?_
          refine rf_soP R.md (fun j9 h_j9 => ?_)
          refine rf_bo (gq_8 R h_j9) ?_
          refine rf_w (wq_8 R h_j9) (fun w11' w11 R_w11 => ?_)
          refine rf_w (px_55_5 R_w11) (fun w12' w12 R_w12 => ?_)
          exact (yb_Ma_waitOrLeave_162 R_w12)
        · refine rf_br ?_ ?_
          · refine rf_ck (ox_55 R) ?_
            refine rf_ck (all1 (okR_s R (by decide))) ?_
            refine rf_bx (rf_gw (ym_Ma_returns R)) (by unfold zle; omega) (fun c_u13 u13' u13 r13 r13' R_u13 E_u13 v_u13 => ?_)
            cases v_u13
            refine rf_gw ?_
            exact (yb_Ma_waitOrLeave_162 R_u13)
          · refine rf_br ?_ ?_
            · refine rf_ck (ox_55 R) ?_
              refine rf_bx0 (rf_gz (ym_Ma_wrong R) (by omega)) (fun u14' u14 r14 R_u14 => ?_)
              refine rf_gw ?_
              exact (yb_Ma_waitOrLeave_162 R_u14)
            · refine rf_br ?_ ?_
              · refine rf_bo (gR_M4 R) ?_
                refine rf_soF R.md (fun j17 h_j17 => ?_)
                refine rf_ck (io_F R h_j17) ?_
                refine rf_bx0 (rf_gz (ym_Fr_below R h_j17) (by omega)) (fun u16' u16 r16 R_u16 => ?_)
                refine rf_gw ?_
                refine rf_ck (ox_55 R_u16) ?_
                refine rf_bx0 (rf_gz (ym_Ma_tell R_u16) (by omega)) (fun u18' u18 r18 R_u18 => ?_)
                refine rf_gw ?_
                exact (yb_Ma_waitOrLeave_162 R_u18)
              · refine rf_br ?_ ?_
                · refine rf_ck (ox_55 R) ?_
                  refine rf_bx0 (rf_gz (ym_Ma_wrong R) (by omega)) (fun u19' u19 r19 R_u19 => ?_)
                  refine rf_gw ?_
                  exact (yb_Ma_waitOrLeave_162 R_u19)
                · refine rf_w (px_55_8 R) (fun w20' w20 R_w20 => ?_)
                  exact (yb_Ma_waitOrLeave_162 R_w20)
theorem ym_Ma_waitOrLeave {N : Nat} {p : Nat} {c : Nat → Nat} {m : MS} {u : CS} (R : RP (some p) c m u) {v1 : Int32} {v2 : Int32} : RF 1 (some p) VE c u (fm_Ma_waitOrLeave N u 55 v1 v2) (hm_Ma_waitOrLeave N m p v1 v2) := yb_Ma_waitOrLeave_0 (N := N) R
theorem yb_Ma_flow_343 {N : Nat} {p : Nat} {c : Nat → Nat} {m : MS} {u : CS} (R : RP (some p) c m u) : RF 1 (some p) VE c u (fb_Ma_flow_343 N () u) (hb_Ma_flow_343 N () m p) := by
  unfold fb_Ma_flow_343 hb_Ma_flow_343
  exact rf_ret R rfl
theorem yb_Ma_flow_284 {N : Nat} {p : Nat} {c : Nat → Nat} {m : MS} {u : CS} (R : RP (some p) c m u) {t1 : Int32} {t2 : Int32} : RF 1 (some p) VE c u (fb_Ma_flow_284 N () u 55 t1 t2) (hb_Ma_flow_284 N () m p t1 t2) := by
  unfold fb_Ma_flow_284 hb_Ma_flow_284
  refine rf_ck (ox_55 R) ?_
  refine rf_bx (rf_gw (ym_Ma_apply R)) (by unfold zle; omega) (fun c_u1 u1' u1 r1 r1' R_u1 E_u1 v_u1 => ?_)
  cases v_u1
  refine rf_gw ?_
  exact (yb_Ma_flow_343 R_u1)
theorem yb_Ma_flow_265 {N : Nat} {p : Nat} {c : Nat → Nat} {m : MS} {u : CS} (R : RP (some p) c m u) {t1 : Int32} {t2 : Int32} : RF 1 (some p) VE c u (fb_Ma_flow_265 N () u 55 t1 t2) (hb_Ma_flow_265 N () m p t1 t2) := by
  unfold fb_Ma_flow_265 hb_Ma_flow_265
  refine rf_ck (ox_55 R) ?_
  refine rf_bx0 (rf_gz (ym_Ma_call R) (by omega)) (fun u2' u2 r2 R_u2 => ?_)
  refine rf_gw ?_
  exact (yb_Ma_flow_343 R_u2)
theorem yb_Ma_flow_0 {N : Nat} {p : Nat} {c : Nat → Nat} {m : MS} {u : CS} (R : RP (some p) c m u) {v1 : Int32} : RF 1 (some p) VE c u (fb_Ma_flow_0 N () u 55 v1) (hb_Ma_flow_0 N () m p v1) := by
  unfold fb_Ma_flow_0 hb_Ma_flow_0
  refine rf_bo (rx_55_0 R) ?_
  refine rf_bo (gx_55_5 R) ?_
  refine rf_so ?_
  refine rf_ck (ox_22 R) ?_
  refine rf_bx0 (rf_gz (ym_Co_at R) (by omega)) (fun u5' u5 r5 R_u5 => ?_)
  refine rf_gw ?_
  refine rf_br ?_ ?_
  · refine rf_w (px_55_5 R_u5) (fun w7' w7 R_w7 => ?_)
    exact (yb_Ma_flow_343 R_w7)
  · refine rf_br ?_ ?_
    · refine rf_ck (ox_55 R_u5) ?_
      refine rf_ck (all1 (okR_s R_u5 (by decide))) ?_
      refine rf_bx (rf_gw (ym_Ma_tries R_u5)) (by unfold zle; omega) (fun c_u8 u8' u8 r8 r8' R_u8 E_u8 v_u8 => ?_)
      cases v_u8
      refine rf_gw ?_
      exact (yb_Ma_flow_343 R_u8)
    · refine rf_br ?_ ?_
      · refine rf_ck (ox_55 R_u5) ?_
        refine rf_ck (all1 (okR_s R_u5 (by decide))) ?_
        refine rf_bx (rf_gw (ym_Ma_match R_u5)) (by unfold zle; omega) (fun c_u9 u9' u9 r9 r9' R_u9 E_u9 v_u9 => ?_)
        cases v_u9
        refine rf_gw ?_
        exact (yb_Ma_flow_343 R_u9)
      · refine rf_br ?_ ?_
        · refine rf_w (px_55_13 R_u5) (fun w10' w10 R_w10 => ?_)
          refine rf_bo (rx_55_0 R_w10) ?_
          refine rf_bo (gx_55_5 R_w10) ?_
          refine rf_so ?_
          refine rf_ck (ox_22 R_w10) ?_
          refine rf_bx0 (rf_gz (ym_Co_at R_w10) (by omega)) (fun u13' u13 r13 R_u13 => ?_)
          refine rf_gw ?_
          refine rf_w (px_55_12 R_u13) (fun w15' w15 R_w15 => ?_)
          refine rf_bo (gR_M4 R_w15) ?_
          refine rf_soF R_w15.md (fun j17 h_j17 => ?_)
          refine rf_bo (gf_6 R_w15 h_j17) ?_
          refine rf_w (px_55_14 R_w15) (fun w19' w19 R_w19 => ?_)
          refine rf_bo (gx_55_5 R_w19) ?_
          refine rf_w (px_55_5 R_w19) (fun w21' w21 R_w21 => ?_)
          exact (yb_Ma_flow_343 R_w21)
        · refine rf_br ?_ ?_
          · refine rf_bo (gR_M4 R_u5) ?_
            refine rf_soF R_u5.md (fun j24 h_j24 => ?_)
            refine rf_ck (io_F R_u5 h_j24) ?_
            refine rf_bx0 (rf_gz (ym_Fr_below R_u5 h_j24) (by omega)) (fun u23' u23 r23 R_u23 => ?_)
            refine rf_gw ?_
            refine rf_bx0 (rf_gz (ym_Ma_atom R_u23) (by omega)) (fun u25' u25 r25 R_u25 => ?_)
            refine rf_gw ?_
            refine rf_br ?_ ?_
            · refine rf_bo (gR_M4 R_u25) ?_
              refine rf_soF R_u25.md (fun j28 h_j28 => ?_)
              refine rf_ck (io_F R_u25 h_j28) ?_
              refine rf_bx0 (rf_gz (ym_Fr_drop R_u25 h_j28) (by omega)) (fun u27' u27 r27 R_u27 => ?_)
              refine rf_gw ?_
              refine rf_bo (gx_55_5 R_u27) ?_
              refine rf_w (px_55_5 R_u27) (fun w30' w30 R_w30 => ?_)
              exact (yb_Ma_flow_343 R_w30)
            · refine rf_ck (ox_55 R_u25) ?_
              refine rf_bx0 (rf_gz (ym_Ma_guardFails R_u25) (by omega)) (fun u31' u31 r31 R_u31 => ?_)
              refine rf_gw ?_
              exact (yb_Ma_flow_343 R_u31)
          · refine rf_br ?_ ?_
            · refine rf_w (px_55_12 R_u5) (fun w32' w32 R_w32 => ?_)
              refine rf_bo (gx_55_5 R_w32) ?_
              refine rf_w (px_55_5 R_w32) (fun w34' w34 R_w34 => ?_)
              exact (yb_Ma_flow_343 R_w34)
            · refine rf_br ?_ ?_
              · refine rf_bo (gR_M4 R_u5) ?_
                refine rf_soF R_u5.md (fun j37 h_j37 => ?_)
                refine rf_ck (io_F R_u5 h_j37) ?_
                refine rf_bx0 (rf_gz (ym_Fr_drop R_u5 h_j37) (by omega)) (fun u36' u36 r36 R_u36 => ?_)
                refine rf_gw ?_
                refine rf_bo (gR_M4 R_u36) ?_
                refine rf_bo (rx_55_0 R_u36) ?_
                refine rf_bo (gx_55_5 R_u36) ?_
                refine rf_so ?_
                refine rf_ck (ox_22 R_u36) ?_
                refine rf_bx0 (rf_gz (ym_Co_at R_u36) (by omega)) (fun u41' u41 r41 R_u41 => ?_)
                refine rf_gw ?_
                refine rf_soF R_u41.md (fun j44 h_j44 => ?_)
                refine rf_ck (io_F R_u41 h_j44) ?_
                refine rf_bx0 (rf_gz (ym_Fr_setLine R_u41 h_j44) (by omega)) (fun u43' u43 r43 R_u43 => ?_)
                refine rf_gw ?_
                refine rf_bo (gx_55_5 R_u43) ?_
                refine rf_w (px_55_5 R_u43) (fun w46' w46 R_w46 => ?_)
                exact (yb_Ma_flow_343 R_w46)
              · refine rf_br ?_ ?_
                · refine rf_br ?_ ?_
                  · exact (yb_Ma_flow_265 R_u5)
                  · exact (yb_Ma_flow_265 R_u5)
                · refine rf_br ?_ ?_
                  · refine rf_br ?_ ?_
                    · exact (yb_Ma_flow_265 R_u5)
                    · exact (yb_Ma_flow_265 R_u5)
                  · refine rf_br ?_ ?_
                    · refine rf_br ?_ ?_
                      · exact (yb_Ma_flow_284 R_u5)
                      · exact (yb_Ma_flow_284 R_u5)
                    · refine rf_br ?_ ?_
                      · refine rf_br ?_ ?_
                        · exact (yb_Ma_flow_284 R_u5)
                        · exact (yb_Ma_flow_284 R_u5)
                      · refine rf_br ?_ ?_
                        · refine rf_bo (gR_M4 R_u5) ?_
                          refine rf_soF R_u5.md (fun j49 h_j49 => ?_)
                          refine rf_ck (io_F R_u5 h_j49) ?_
                          refine rf_ck (all1 (okR_s R_u5 (by decide))) ?_
                          refine rf_bx (rf_gw (ym_Fr_catchTo R_u5 h_j49)) (by unfold zle; omega) (fun c_u48 u48' u48 r48 r48' R_u48 E_u48 v_u48 => ?_)
                          cases v_u48
                          refine rf_gw ?_
                          refine rf_bo (gx_55_5 R_u48) ?_
                          refine rf_w (px_55_5 R_u48) (fun w51' w51 R_w51 => ?_)
                          exact (yb_Ma_flow_343 R_w51)
                        · refine rf_br ?_ ?_
                          · refine rf_bo (gR_M4 R_u5) ?_
                            refine rf_soF R_u5.md (fun j53 h_j53 => ?_)
                            refine rf_bo (gf_8 R_u5 h_j53) ?_
                            refine rf_w (wf_8 R_u5 h_j53) (fun w55' w55 R_w55 => ?_)
                            refine rf_bo (gx_55_5 R_w55) ?_
                            refine rf_w (px_55_5 R_w55) (fun w57' w57 R_w57 => ?_)
                            exact (yb_Ma_flow_343 R_w57)
                          · refine rf_ck (ox_55 R_u5) ?_
                            refine rf_ck (all1 (okR_s R_u5 (by decide))) ?_
                            refine rf_bx (rf_gw (ym_Ma_waitOrLeave R_u5)) (by unfold zle; omega) (fun c_u58 u58' u58 r58 r58' R_u58 E_u58 v_u58 => ?_)
                            cases v_u58
                            refine rf_gw ?_
                            exact (yb_Ma_flow_343 R_u58)
theorem ym_Ma_flow {N : Nat} {p : Nat} {c : Nat → Nat} {m : MS} {u : CS} (R : RP (some p) c m u) {v1 : Int32} : RF 1 (some p) VE c u (fm_Ma_flow N u 55 v1) (hm_Ma_flow N m p v1) := yb_Ma_flow_0 (N := N) R
theorem yb_Ma_wrap_0 {N : Nat} {p : Nat} {c : Nat → Nat} {m : MS} {u : CS} (R : RP (some p) c m u) {v1 : Int32} : RF 2 (some p) VE c u (fb_Ma_wrap_0 N () u 55 v1) (hb_Ma_wrap_0 N () m p v1) := by
  unfold fb_Ma_wrap_0 hb_Ma_wrap_0
  refine rf_ck (ox_55 R) ?_
  refine rf_bx (rf_gz (ym_Ma_room R) (by omega)) (by unfold zle; omega) (fun c_u1 u1' u1 r1 r1' R_u1 E_u1 v_u1 => ?_)
  cases v_u1
  refine rf_gw ?_
  refine rf_br ?_ ?_
  · refine rf_ckk ?_
    exact rf_ret R_u1 rfl
  · refine rf_bo (gR_M3 R_u1) ?_
    refine rf_bo (gR_M4 R_u1) ?_
    refine rf_soF R_u1.md (fun j5 h_j5 => ?_)
    refine rf_ck (io_F R_u1 h_j5) ?_
    refine rf_bx0 (rf_gz (ym_Fr_below R_u1 h_j5) (by omega)) (fun u4' u4 r4 R_u4 => ?_)
    refine rf_gw ?_
    refine rf_soP R_u4.md (fun j7 h_j7 => ?_)
    refine rf_ck (io_P R_u4 h_j7) ?_
    refine rf_bx0 (rf_gz (ym_Pr_pair R_u4 h_j7) (by omega)) (fun u6' u6 r6 R_u6 => ?_)
    refine rf_gw ?_
    refine rf_ck (ox_55 R_u6) ?_
    refine rf_ck (all1 (okR_s R_u6 (by decide))) ?_
    refine rf_bx (rf_gw (ym_Ma_answer R_u6)) (by unfold zle; omega) (fun c_u8 u8' u8 r8 r8' R_u8 E_u8 v_u8 => ?_)
    cases v_u8
    refine rf_gw ?_
    refine rf_ckk ?_
    exact rf_ret R_u8 rfl
theorem ym_Ma_wrap {N : Nat} {p : Nat} {c : Nat → Nat} {m : MS} {u : CS} (R : RP (some p) c m u) {v1 : Int32} : RF 2 (some p) VE c u (fm_Ma_wrap N u 55 v1) (hm_Ma_wrap N m p v1) := yb_Ma_wrap_0 (N := N) R
theorem yb_Ma_raise_172 {N : Nat} {p : Nat} {c : Nat → Nat} {m : MS} {u : CS} (R : RP (some p) c m u) : RF 2 (some p) VE c u (fb_Ma_raise_172 N () u) (hb_Ma_raise_172 N () m p) := by
  unfold fb_Ma_raise_172 hb_Ma_raise_172
  exact rf_ret R rfl
theorem yb_Ma_raise_168 {N : Nat} {p : Nat} {c : Nat → Nat} {m : MS} {u : CS} (R : RP (some p) c m u) {t1 : Int32} : RF 2 (some p) VE c u (fb_Ma_raise_168 N () u 55 t1) (hb_Ma_raise_168 N () m p t1) := by
  unfold fb_Ma_raise_168 hb_Ma_raise_168
  refine rf_ck (ox_55 R) ?_
  refine rf_bx (rf_gw (ym_Ma_wrap R)) (by unfold zle; omega) (fun c_u1 u1' u1 r1 r1' R_u1 E_u1 v_u1 => ?_)
  cases v_u1
  refine rf_gw ?_
  exact (yb_Ma_raise_172 R_u1)
theorem yb_Ma_raise_110 {N : Nat} {p : Nat} {c : Nat → Nat} {m : MS} {u : CS} (R : RP (some p) c m u) {t0 : Int64} : RF 2 (some p) VE c u (fb_Ma_raise_110 N () u 55 t0) (hb_Ma_raise_110 N () m p t0) := by
  unfold fb_Ma_raise_110 hb_Ma_raise_110
  refine rf_bo (rx_55_1 R) ?_
  refine rf_bo (gR_M3 R) ?_
  refine rf_bo (gR_M3 R) ?_
  refine rf_so ?_
  refine rf_ck (ox_47 R) ?_
  refine rf_bx0 (rf_gz (ym_Wl_endsWith R ⟨R.md, rfl⟩ ⟨R.md, rfl⟩) (by omega)) (fun u5' u5 r5 R_u5 => ?_)
  refine rf_gw ?_
  exact rf_ret R_u5 rfl
theorem yb_Ma_raise_103 {N : Nat} {p : Nat} {c : Nat → Nat} {m : MS} {u : CS} (R : RP (some p) c m u) {t0 : Nat} {t0' : Nat} {t1 : Int32} (h_t0 : PVn c t0 t0') : RF 2 (some p) VE c u (fb_Ma_raise_103 N () u 55 (some t0) t1) (hb_Ma_raise_103 N () m p t0' t1) := by
  unfold fb_Ma_raise_103 hb_Ma_raise_103
  refine rf_bo (gJ_s10 R) ?_
  refine rf_so ?_
  refine rf_ck (io_P R h_t0) ?_
  refine rf_bx0 (rf_gz (ym_Pr_pair R h_t0) (by omega)) (fun u8' u8 r8 R_u8 => ?_)
  refine rf_gw ?_
  exact (yb_Ma_raise_110 R_u8)
theorem yb_Ma_raise_65 {N : Nat} {p : Nat} {c : Nat → Nat} {m : MS} {u : CS} (R : RP (some p) c m u) {v1 : Int32} : RF 2 (some p) VE c u (fb_Ma_raise_65 N () u 55 v1) (hb_Ma_raise_65 N () m p v1) := by
  unfold fb_Ma_raise_65 hb_Ma_raise_65
  refine rf_bo (gR_M4 R) ?_
  refine rf_soF R.md (fun j11 h_j11 => ?_)
  refine rf_bo (gf_8 R h_j11) ?_
  refine rf_br ?_ ?_
  · refine rf_br ?_ ?_
    · refine rf_bo (gJ_s10 R) ?_
      exact (yb_Ma_raise_110 R)
    · refine rf_bo (gR_M3 R) ?_
      refine rf_br ?_ ?_
      · exact (yb_Ma_raise_103 R ⟨R.md, rfl⟩)
      · exact (yb_Ma_raise_103 R ⟨R.md, rfl⟩)
  · refine rf_bo (gR_M4 R) ?_
    refine rf_soF R.md (fun j15 h_j15 => ?_)
    refine rf_ck (io_F R h_j15) ?_
    refine rf_bx0 (rf_gz (ym_Fr_unwind R h_j15) (by omega)) (fun u14' u14 r14 R_u14 => ?_)
    refine rf_gw ?_
    refine rf_w (px_55_5 R_u14) (fun w16' w16 R_w16 => ?_)
    refine rf_bo (gR_M4 R_w16) ?_
    refine rf_bo (gJ_s10 R_w16) ?_
    refine rf_soF R_w16.md (fun j20 h_j20 => ?_)
    refine rf_ck (io_F R_w16 h_j20) ?_
    refine rf_ck (all1 (okR_s R_w16 (by decide))) ?_
    refine rf_bx (rf_gw (ym_Fr_push R_w16 h_j20)) (by unfold zle; omega) (fun c_u19 u19' u19 r19 r19' R_u19 E_u19 v_u19 => ?_)
    cases v_u19
    refine rf_gw ?_
    refine rf_br ?_ ?_
    · exact (yb_Ma_raise_172 R_u19)
    · refine rf_br ?_ ?_
      · exact (yb_Ma_raise_168 R_u19)
      · exact (yb_Ma_raise_168 R_u19)
theorem yb_Ma_raise_0 {N : Nat} {p : Nat} {c : Nat → Nat} {m : MS} {u : CS} (R : RP (some p) c m u) : RF 2 (some p) VE c u (fb_Ma_raise_0 N () u 55) (hb_Ma_raise_0 N () m p) := by
  unfold fb_Ma_raise_0 hb_Ma_raise_0
  refine rf_bo (gx_55_9 R) ?_
  refine rf_w (px_55_9 R) (fun w24' w24 R_w24 => ?_)
  refine rf_bo (gx_55_12 R_w24) ?_
  refine rf_br ?_ ?_
  · refine rf_bo (gx_55_11 R_w24) ?_
    refine rf_br ?_ ?_
    · exact (yb_Ma_raise_65 R_w24)
    · refine rf_bo (gR_M4 R_w24) ?_
      refine rf_bo (gJ_s10 R_w24) ?_
      refine rf_soF R_w24.md (fun j30 h_j30 => ?_)
      refine rf_ck (io_F R_w24 h_j30) ?_
      refine rf_ck (all1 (okR_s R_w24 (by decide))) ?_
      refine rf_bx (rf_gw (ym_Fr_push R_w24 h_j30)) (by unfold zle; omega) (fun c_u29 u29' u29 r29 r29' R_u29 E_u29 v_u29 => ?_)
      cases v_u29
      refine rf_gw ?_
      refine rf_bo (gx_55_11 R_u29) ?_
      refine rf_ck (ox_55 R_u29) ?_
      refine rf_ck (all1 (okR_s R_u29 (by decide))) ?_
      refine rf_bx (rf_gw (ym_Ma_wrap R_u29)) (by unfold zle; omega) (fun c_u32 u32' u32 r32 r32' R_u32 E_u32 v_u32 => ?_)
      cases v_u32
      refine rf_gw ?_
      refine rf_br ?_ ?_
      · exact rf_ret R_u32 rfl
      · refine rf_bo (gR_M4 R_u32) ?_
        refine rf_soF R_u32.md (fun j35 h_j35 => ?_)
        refine rf_ck (io_F R_u32 h_j35) ?_
        refine rf_bx0 (rf_gz (ym_Fr_below R_u32 h_j35) (by omega)) (fun u34' u34 r34 R_u34 => ?_)
        refine rf_gw ?_
        refine rf_w (pL_s10 R_u34) (fun w36' w36 R_w36 => ?_)
        exact (yb_Ma_raise_65 R_w36)
  · refine rf_ck (ox_55 R_w24) ?_
    refine rf_bx0 (rf_gz (ym_Ma_guardFails R_w24) (by omega)) (fun u37' u37 r37 R_u37 => ?_)
    refine rf_gw ?_
    exact rf_ret R_u37 rfl
theorem ym_Ma_raise {N : Nat} {p : Nat} {c : Nat → Nat} {m : MS} {u : CS} (R : RP (some p) c m u) : RF 2 (some p) VE c u (fm_Ma_raise N u 55) (hm_Ma_raise N m p) := yb_Ma_raise_0 (N := N) R
theorem yb_Wl_tellWatchers_92 {N : Nat} {o : Option Nat} {c : Nat → Nat} {m : MS} {u : CS} {G : (CS → Nat → Option Nat → Int32 → Int32 → Option (CS × Unit))} {G' : (MS → Nat → Int32 → Int32 → Option (MS × Unit))} (hG : ∀ (c : Nat → Nat) (m : MS) (u : CS) (v1 : Nat) (v1' : Nat) (v2 : Int32) (v3 : Int32), RP o c m u → PVn c v1 v1' → RF 3 o VE c u (G u 47 (some v1) v2 v3) (G' m v1' v2 v3)) (R : RP o c m u) {v1 : Nat} {v1' : Nat} {v2 : Int32} {v3 : Int32} (h_v1 : PVn c v1 v1') : RF 3 o VE c u (fb_Wl_tellWatchers_92 N G u 47 (some v1) v2 v3) (hb_Wl_tellWatchers_92 N G' m v1' v2 v3) := by
  unfold fb_Wl_tellWatchers_92 hb_Wl_tellWatchers_92
  exact (hG _ _ _ _ _ _ _ R h_v1)
theorem yb_Wl_tellWatchers_70 {N : Nat} {o : Option Nat} {c : Nat → Nat} {m : MS} {u : CS} {G : (CS → Nat → Option Nat → Int32 → Int32 → Option (CS × Unit))} {G' : (MS → Nat → Int32 → Int32 → Option (MS × Unit))} (hG : ∀ (c : Nat → Nat) (m : MS) (u : CS) (v1 : Nat) (v1' : Nat) (v2 : Int32) (v3 : Int32), RP o c m u → PVn c v1 v1' → RF 3 o VE c u (G u 47 (some v1) v2 v3) (G' m v1' v2 v3)) (R : RP o c m u) {v1 : Nat} {v1' : Nat} {v2 : Int32} {v3 : Int32} (h_v1 : PVn c v1 v1') : RF 3 o VE c u (fb_Wl_tellWatchers_70 N G u 47 (some v1) v2 v3) (hb_Wl_tellWatchers_70 N G' m v1' v2 v3) := by
  unfold fb_Wl_tellWatchers_70 hb_Wl_tellWatchers_70
  refine rf_bo (rx_47_7 R) ?_
  refine rf_so ?_
  refine rf_ai (ax_49 R) ?_
  refine rf_so ?_
  refine rf_bo (gI_P0 R h_v1) ?_
  refine rf_br ?_ ?_
  · exact (yb_Wl_tellWatchers_92 hG R h_v1)
  · refine rf_ck (ox_47 R) ?_
    refine rf_bx0 (ym_Wl_keepWatch R) (fun u6' u6 r6 R_u6 => ?_)
    exact (yb_Wl_tellWatchers_92 hG R_u6 h_v1)
theorem yb_Wl_tellWatchers_4 {N : Nat} {o : Option Nat} {c : Nat → Nat} {m : MS} {u : CS} {G : (CS → Nat → Option Nat → Int32 → Int32 → Option (CS × Unit))} {G' : (MS → Nat → Int32 → Int32 → Option (MS × Unit))} (hG : ∀ (c : Nat → Nat) (m : MS) (u : CS) (v1 : Nat) (v1' : Nat) (v2 : Int32) (v3 : Int32), RP o c m u → PVn c v1 v1' → RF 3 o VE c u (G u 47 (some v1) v2 v3) (G' m v1' v2 v3)) (R : RP o c m u) {v1 : Nat} {v1' : Nat} {v2 : Int32} {v3 : Int32} (h_v1 : PVn c v1 v1') : RF 3 o VE c u (fb_Wl_tellWatchers_4 N G u 47 (some v1) v2 v3) (hb_Wl_tellWatchers_4 N G' m v1' v2 v3) := by
  unfold fb_Wl_tellWatchers_4 hb_Wl_tellWatchers_4
  refine rf_bo (gx_47_10 R) ?_
  refine rf_br ?_ ?_
  · refine rf_w (px_47_10 R) (fun w8' w8 R_w8 => ?_)
    exact rf_ret R_w8 rfl
  · refine rf_bo (rx_47_7 R) ?_
    refine rf_so ?_
    refine rf_ai (ax_49 R) ?_
    refine rf_ck (ox_47 R) ?_
    refine rf_bxP (ym_Wl_find R) (fun u12' u12 r12 r12' R_u12 h_r12 => ?_)
    refine rf_bo (rx_47_8 R_u12) ?_
    refine rf_so ?_
    refine rf_ai (ax_50 R_u12) ?_
    refine rf_so ?_
    refine rf_bo (gI_P0 R_u12 h_v1) ?_
    refine rf_br ?_ ?_
    · refine rf_br2 (PV_n h_r12) ?_ ?_
      · exact (yb_Wl_tellWatchers_70 hG R_u12 h_v1)
      · refine rf_so ?_
        refine rf_bo (gI_P0 R_u12 h_v1) ?_
        refine rf_bo (rx_47_9 R_u12) ?_
        refine rf_so ?_
        refine rf_ai (ax_51 R_u12) ?_
        refine rf_so ?_
        refine rf_bo (gJ_P16 R_u12 h_v1) ?_
        refine rf_so ?_
        refine rf_home R_u12 h_v1 (fun r26 h_r26 => ?_)
        refine rf_ck (ox_47 R_u12) ?_
        refine rf_opt h_r12 (fun r12_j r12_q e1_r12 e2_r12 h_r12j => ?_)
        subst e1_r12
        refine rf_bx (ym_Wl_post R_u12 h_r12j h_r26) (by unfold zle; omega) (fun c_u27 u27' u27 r27 r27' R_u27 E_u27 v_u27 => ?_)
        cases v_u27
        replace h_v1 := E_u27.P h_v1
        exact (yb_Wl_tellWatchers_92 hG R_u27 h_v1)
    · exact (yb_Wl_tellWatchers_70 hG R_u12 h_v1)
theorem yb_Wl_tellWatchers_0 {N : Nat} {o : Option Nat} {c : Nat → Nat} {m : MS} {u : CS} {G : (CS → Nat → Option Nat → Int32 → Int32 → Option (CS × Unit))} {G' : (MS → Nat → Int32 → Int32 → Option (MS × Unit))} (hG : ∀ (c : Nat → Nat) (m : MS) (u : CS) (v1 : Nat) (v1' : Nat) (v2 : Int32) (v3 : Int32), RP o c m u → PVn c v1 v1' → RF 3 o VE c u (G u 47 (some v1) v2 v3) (G' m v1' v2 v3)) (R : RP o c m u) {v1 : Nat} {v1' : Nat} (h_v1 : PVn c v1 v1') : RF 3 o VE c u (fb_Wl_tellWatchers_0 N G u 47 (some v1)) (hb_Wl_tellWatchers_0 N G' m v1') := by
  unfold fb_Wl_tellWatchers_0 hb_Wl_tellWatchers_0
  exact (hG _ _ _ _ _ _ _ R h_v1)
theorem yg_Wl_tellWatchers {N : Nat} {o : Option Nat} : ∀ n, (∀ (c : Nat → Nat) (m : MS) (u : CS) (v1 : Nat) (v1' : Nat) (v2 : Int32) (v3 : Int32), RP o c m u → PVn c v1 v1' → RF 3 o VE c u ((gg_Wl_tellWatchers N n) u 47 (some v1) v2 v3) ((hg_Wl_tellWatchers N n) m v1' v2 v3)) := by
  intro n
  induction n with
  | zero => exact fun c m u v1 v1' v2 v3 R h_v1 => rf_none
  | succ n ih => exact fun c m u v1 v1' v2 v3 R h_v1 => yb_Wl_tellWatchers_4 (N := N) ih R h_v1
theorem ym_Wl_tellWatchers {N : Nat} {o : Option Nat} {c : Nat → Nat} {m : MS} {u : CS} (R : RP o c m u) {v1 : Nat} {v1' : Nat} (h_v1 : PVn c v1 v1') : RF 3 o VE c u (fm_Wl_tellWatchers N u 47 (some v1)) (hm_Wl_tellWatchers N m v1') := yb_Wl_tellWatchers_0 (N := N) (yg_Wl_tellWatchers (N := N) N) R h_v1
theorem yb_Wl_settle_104 {N : Nat} {o : Option Nat} {c : Nat → Nat} {m : MS} {u : CS} {G : (CS → Nat → Option (CS × Unit)) × (CS → Nat → Option Nat → Int32 → Option (CS × Unit))} {G' : (MS → Option (MS × Unit)) × (MS → Nat → Int32 → Option (MS × Unit))} (hG1 : ∀ (c : Nat → Nat) (m : MS) (u : CS), RP o c m u → RF 3 o VE c u (G.1 u 47) (G'.1 m)) (hG2 : ∀ (c : Nat → Nat) (m : MS) (u : CS) (v1 : Nat) (v1' : Nat) (v2 : Int32), RP o c m u → PVn c v1 v1' → RF 3 o VE c u (G.2 u 47 (some v1) v2) (G'.2 m v1' v2)) (R : RP o c m u) : RF 3 o VE c u (fb_Wl_settle_104 N G u 47) (hb_Wl_settle_104 N G' m) := by
  unfold fb_Wl_settle_104 hb_Wl_settle_104
  refine rf_bo (gx_47_16 R) ?_
  refine rf_w (px_47_16 R) (fun w2' w2 R_w2 => ?_)
  exact (hG1 _ _ _ R_w2)
theorem yb_Wl_settle_88 {N : Nat} {o : Option Nat} {c : Nat → Nat} {m : MS} {u : CS} {G : (CS → Nat → Option (CS × Unit)) × (CS → Nat → Option Nat → Int32 → Option (CS × Unit))} {G' : (MS → Option (MS × Unit)) × (MS → Nat → Int32 → Option (MS × Unit))} (hG1 : ∀ (c : Nat → Nat) (m : MS) (u : CS), RP o c m u → RF 3 o VE c u (G.1 u 47) (G'.1 m)) (hG2 : ∀ (c : Nat → Nat) (m : MS) (u : CS) (v1 : Nat) (v1' : Nat) (v2 : Int32), RP o c m u → PVn c v1 v1' → RF 3 o VE c u (G.2 u 47 (some v1) v2) (G'.2 m v1' v2)) (R : RP o c m u) {v1 : Nat} {v1' : Nat} {v2 : Int32} (h_v1 : PVn c v1 v1') : RF 3 o VE c u (fb_Wl_settle_88 N G u 47 (some v1) v2) (hb_Wl_settle_88 N G' m v1' v2) := by
  unfold fb_Wl_settle_88 hb_Wl_settle_88
  exact (hG2 _ _ _ _ _ _ R h_v1)
theorem yb_Wl_settle_40 {N : Nat} {o : Option Nat} {c : Nat → Nat} {m : MS} {u : CS} {G : (CS → Nat → Option (CS × Unit)) × (CS → Nat → Option Nat → Int32 → Option (CS × Unit))} {G' : (MS → Option (MS × Unit)) × (MS → Nat → Int32 → Option (MS × Unit))} (hG1 : ∀ (c : Nat → Nat) (m : MS) (u : CS), RP o c m u → RF 3 o VE c u (G.1 u 47) (G'.1 m)) (hG2 : ∀ (c : Nat → Nat) (m : MS) (u : CS) (v1 : Nat) (v1' : Nat) (v2 : Int32), RP o c m u → PVn c v1 v1' → RF 3 o VE c u (G.2 u 47 (some v1) v2) (G'.2 m v1' v2)) (R : RP o c m u) {v1 : Nat} {v1' : Nat} {v2 : Int32} (h_v1 : PVn c v1 v1') : RF 3 o VE c u (fb_Wl_settle_40 N G u 47 (some v1) v2) (hb_Wl_settle_40 N G' m v1' v2) := by
  unfold fb_Wl_settle_40 hb_Wl_settle_40
  refine rf_so ?_
  refine rf_bo (gq_15 R h_v1) ?_
  refine rf_br ?_ ?_
  · refine rf_so ?_
    refine rf_w (wq_15 R h_v1) (fun w6' w6 R_w6 => ?_)
    refine rf_ck (ox_47 R_w6) ?_
    refine rf_bx (ym_Wl_tellWatchers R_w6 h_v1) (by unfold zle; omega) (fun c_u7 u7' u7 r7 r7' R_u7 E_u7 v_u7 => ?_)
    cases v_u7
    exact (yb_Wl_settle_104 hG1 hG2 R_u7)
  · refine rf_so ?_
    refine rf_bo (gR_P14 R h_v1) ?_
    refine rf_so ?_
    refine rf_ai (aq_14 R h_v1.1) ?_
    refine rf_ck (ox_47 R) ?_
    refine rf_bxP (ym_Wl_find R) (fun u12' u12 r12 r12' R_u12 h_r12 => ?_)
    refine rf_br2 (PV_n h_r12) ?_ ?_
    · exact (yb_Wl_settle_88 hG1 hG2 R_u12 h_v1)
    · refine rf_so ?_
      refine rf_bo (gI_P0 R_u12 h_v1) ?_
      refine rf_boQ h_r12 (fun j16 j16' e1_j16 e2_j16 h_j16 => ?_)
      subst e1_j16
      refine rf_so ?_
      refine rf_ck (io_P R_u12 h_j16) ?_
      refine rf_bx0 (ym_Pr_removeLink R_u12 h_j16) (fun u15' u15 r15 R_u15 => ?_)
      refine rf_so ?_
      refine rf_bo (gI_P0 R_u15 h_v1) ?_
      refine rf_so ?_
      refine rf_bo (gJ_P16 R_u15 h_v1) ?_
      refine rf_so ?_
      refine rf_home R_u15 h_v1 (fun r22 h_r22 => ?_)
      refine rf_ck (ox_47 R_u15) ?_
      refine rf_bx (ym_Wl_signal R_u15 h_j16 h_r22) (by unfold zle; omega) (fun c_u23 u23' u23 r23 r23' R_u23 E_u23 v_u23 => ?_)
      cases v_u23
      replace h_v1 := E_u23.P h_v1
      exact (yb_Wl_settle_88 hG1 hG2 R_u23 h_v1)
theorem yb_Wl_settle_0 {N : Nat} {o : Option Nat} {c : Nat → Nat} {m : MS} {u : CS} {G : (CS → Nat → Option (CS × Unit)) × (CS → Nat → Option Nat → Int32 → Option (CS × Unit))} {G' : (MS → Option (MS × Unit)) × (MS → Nat → Int32 → Option (MS × Unit))} (hG1 : ∀ (c : Nat → Nat) (m : MS) (u : CS), RP o c m u → RF 3 o VE c u (G.1 u 47) (G'.1 m)) (hG2 : ∀ (c : Nat → Nat) (m : MS) (u : CS) (v1 : Nat) (v1' : Nat) (v2 : Int32), RP o c m u → PVn c v1 v1' → RF 3 o VE c u (G.2 u 47 (some v1) v2) (G'.2 m v1' v2)) (R : RP o c m u) : RF 3 o VE c u (fb_Wl_settle_0 N G u 47) (hb_Wl_settle_0 N G' m) := by
  unfold fb_Wl_settle_0 hb_Wl_settle_0
  refine rf_bo (gx_47_16 R) ?_
  refine rf_bo (gx_47_15 R) ?_
  refine rf_br ?_ ?_
  · exact rf_ret R rfl
  · refine rf_bo (rx_47_1 R) ?_
    refine rf_bo (rx_47_14 R) ?_
    refine rf_bo (gx_47_16 R) ?_
    refine rf_so ?_
    refine rf_ai (ax_54 R) ?_
    refine rf_so ?_
    refine rf_aP R (fun r32 h_r32 => ?_)
    refine rf_br2 (PV_n h_r32) ?_ ?_
    · exact (yb_Wl_settle_104 hG1 hG2 R)
    · refine rf_boQ h_r32 (fun j33 j33' e1_j33 e2_j33 h_j33 => ?_)
      subst e1_j33
      refine rf_so ?_
      refine rf_w (wq_12 R h_j33) (fun w34' w34 R_w34 => ?_)
      exact (hG2 _ _ _ _ _ _ R_w34 h_j33)
theorem yg_Wl_settle {N : Nat} {o : Option Nat} : ∀ n, (∀ (c : Nat → Nat) (m : MS) (u : CS), RP o c m u → RF 3 o VE c u ((gg_Wl_settle N n).1 u 47) ((hg_Wl_settle N n).1 m)) ∧ (∀ (c : Nat → Nat) (m : MS) (u : CS) (v1 : Nat) (v1' : Nat) (v2 : Int32), RP o c m u → PVn c v1 v1' → RF 3 o VE c u ((gg_Wl_settle N n).2 u 47 (some v1) v2) ((hg_Wl_settle N n).2 m v1' v2)) := by
  intro n
  induction n with
  | zero => exact ⟨fun c m u R => rf_none, fun c m u v1 v1' v2 R h_v1 => rf_none⟩
  | succ n ih => exact ⟨fun c m u R => yb_Wl_settle_0 (N := N) ih.1 ih.2 R, fun c m u v1 v1' v2 R h_v1 => yb_Wl_settle_40 (N := N) ih.1 ih.2 R h_v1⟩
theorem ym_Wl_settle {N : Nat} {o : Option Nat} {c : Nat → Nat} {m : MS} {u : CS} (R : RP o c m u) : RF 3 o VE c u (fm_Wl_settle N u 47) (hm_Wl_settle N m) := yb_Wl_settle_0 (N := N) (yg_Wl_settle (N := N) N).1 (yg_Wl_settle (N := N) N).2 R
theorem yb_Ma_goOn_219 {N : Nat} {p : Nat} {c : Nat → Nat} {m : MS} {u : CS} {G : (CS → Nat → Int32 → Option (CS × Int32))} {G' : (MS → Nat → Int32 → Option (MS × Int32))} (hG : ∀ (c : Nat → Nat) (m : MS) (u : CS) (v3 : Int32), RP (some p) c m u → RF 2 (some p) VE c u (G u 55 v3) (G' m p v3)) (R : RP (some p) c m u) : RF 2 (some p) VE c u (fb_Ma_goOn_219 N G u 55) (hb_Ma_goOn_219 N G' m p) := by
  unfold fb_Ma_goOn_219 hb_Ma_goOn_219
  refine rf_bo (gR_M4 R) ?_
  refine rf_bo (gx_55_5 R) ?_
  refine rf_soF R.md (fun j4 h_j4 => ?_)
  refine rf_ck (io_F R h_j4) ?_
  refine rf_bx0 (rf_gz (ym_Fr_setPlace R h_j4) (by omega)) (fun u3' u3 r3 R_u3 => ?_)
  refine rf_gw ?_
  refine rf_bo (gx_55_6 R_u3) ?_
  exact rf_ret R_u3 rfl
theorem yb_Ma_goOn_206 {N : Nat} {p : Nat} {c : Nat → Nat} {m : MS} {u : CS} {G : (CS → Nat → Int32 → Option (CS × Int32))} {G' : (MS → Nat → Int32 → Option (MS × Int32))} (hG : ∀ (c : Nat → Nat) (m : MS) (u : CS) (v3 : Int32), RP (some p) c m u → RF 2 (some p) VE c u (G u 55 v3) (G' m p v3)) (R : RP (some p) c m u) {v3 : Int32} : RF 2 (some p) VE c u (fb_Ma_goOn_206 N G u 55 v3) (hb_Ma_goOn_206 N G' m p v3) := by
  unfold fb_Ma_goOn_206 hb_Ma_goOn_206
  refine rf_bo (rx_55_1 R) ?_
  refine rf_so ?_
  refine rf_ck (ox_47 R) ?_
  refine rf_bx (rf_gz (ym_Wl_settle R) (by omega)) (by unfold zle; omega) (fun c_u7 u7' u7 r7 r7' R_u7 E_u7 v_u7 => ?_)
  cases v_u7
  refine rf_gw ?_
  exact (hG _ _ _ _ R_u7)
theorem yb_Ma_goOn_195 {N : Nat} {p : Nat} {c : Nat → Nat} {m : MS} {u : CS} {G : (CS → Nat → Int32 → Option (CS × Int32))} {G' : (MS → Nat → Int32 → Option (MS × Int32))} (hG : ∀ (c : Nat → Nat) (m : MS) (u : CS) (v3 : Int32), RP (some p) c m u → RF 2 (some p) VE c u (G u 55 v3) (G' m p v3)) (R : RP (some p) c m u) {v3 : Int32} : RF 2 (some p) VE c u (fb_Ma_goOn_195 N G u 55 v3) (hb_Ma_goOn_195 N G' m p v3) := by
  unfold fb_Ma_goOn_195 hb_Ma_goOn_195
  refine rf_bo (gx_55_9 R) ?_
  refine rf_br ?_ ?_
  · exact (yb_Ma_goOn_206 hG R)
  · refine rf_ck (ox_55 R) ?_
    refine rf_ck (all1 (okR_s R (by decide))) ?_
    refine rf_bx (rf_gw (ym_Ma_raise R)) (by unfold zle; omega) (fun c_u10 u10' u10 r10 r10' R_u10 E_u10 v_u10 => ?_)
    cases v_u10
    refine rf_gw ?_
    exact (yb_Ma_goOn_206 hG R_u10)
theorem yb_Ma_goOn_67 {N : Nat} {p : Nat} {c : Nat → Nat} {m : MS} {u : CS} {G : (CS → Nat → Int32 → Option (CS × Int32))} {G' : (MS → Nat → Int32 → Option (MS × Int32))} (hG : ∀ (c : Nat → Nat) (m : MS) (u : CS) (v3 : Int32), RP (some p) c m u → RF 2 (some p) VE c u (G u 55 v3) (G' m p v3)) (R : RP (some p) c m u) {v3 : Int32} : RF 2 (some p) VE c u (fb_Ma_goOn_67 N G u 55 v3) (hb_Ma_goOn_67 N G' m p v3) := by
  unfold fb_Ma_goOn_67 hb_Ma_goOn_67
  refine rf_br ?_ ?_
  · exact (yb_Ma_goOn_219 hG R)
  · refine rf_bo (gR_M3 R) ?_
    refine rf_soP R.md (fun j12 h_j12 => ?_)
    refine rf_bo (gq_9 R h_j12) ?_
    refine rf_br ?_ ?_
    · refine rf_bo (gx_55_8 R) ?_
      refine rf_br ?_ ?_
      · refine rf_bo (rx_55_0 R) ?_
        refine rf_bo (gx_55_5 R) ?_
        refine rf_so ?_
        refine rf_ck (ox_22 R) ?_
        refine rf_bx0 (rf_gz (ym_Co_at R) (by omega)) (fun u17' u17 r17 R_u17 => ?_)
        refine rf_gw ?_
        refine rf_br ?_ ?_
        · refine rf_bo (rx_55_0 R_u17) ?_
          refine rf_bo (gx_55_5 R_u17) ?_
          refine rf_so ?_
          refine rf_ck (ox_22 R_u17) ?_
          refine rf_bx0 (rf_gz (ym_Co_at R_u17) (by omega)) (fun u29' u29 r29 R_u29 => ?_)
          refine rf_gw ?_
          refine rf_ck (ox_55 R_u29) ?_
          refine rf_ck (all1 (okR_s R_u29 (by decide))) ?_
          refine rf_bx (rf_gw (ym_Ma_predefined R_u29)) (by unfold zle; omega) (fun c_u31 u31' u31 r31 r31' R_u31 E_u31 v_u31 => ?_)
          cases v_u31
          refine rf_gw ?_
          exact (yb_Ma_goOn_195 hG R_u31)
        · refine rf_br ?_ ?_
          · refine rf_bo (rx_55_0 R_u17) ?_
            refine rf_bo (gx_55_5 R_u17) ?_
            refine rf_so ?_
            refine rf_ck (ox_22 R_u17) ?_
            refine rf_bx0 (rf_gz (ym_Co_at R_u17) (by omega)) (fun u24' u24 r24 R_u24 => ?_)
            refine rf_gw ?_
            refine rf_ck (ox_55 R_u24) ?_
            refine rf_ck (all1 (okR_s R_u24 (by decide))) ?_
            refine rf_bx (rf_gw (ym_Ma_toward R_u24)) (by unfold zle; omega) (fun c_u26 u26' u26 r26 r26' R_u26 E_u26 v_u26 => ?_)
            cases v_u26
            refine rf_gw ?_
            exact (yb_Ma_goOn_195 hG R_u26)
          · refine rf_br ?_ ?_
            · refine rf_br ?_ ?_
              · refine rf_ck (ox_55 R_u17) ?_
                refine rf_ck (all1 (okR_s R_u17 (by decide))) ?_
                refine rf_bx (rf_gw (ym_Ma_flow R_u17)) (by unfold zle; omega) (fun c_u19 u19' u19 r19 r19' R_u19 E_u19 v_u19 => ?_)
                cases v_u19
                refine rf_gw ?_
                exact (yb_Ma_goOn_195 hG R_u19)
              · refine rf_ck (ox_55 R_u17) ?_
                refine rf_ck (all1 (okR_s R_u17 (by decide))) ?_
                refine rf_bx (rf_gw (ym_Ma_value R_u17)) (by unfold zle; omega) (fun c_u20 u20' u20 r20 r20' R_u20 E_u20 v_u20 => ?_)
                cases v_u20
                refine rf_gw ?_
                exact (yb_Ma_goOn_195 hG R_u20)
            · refine rf_ck (ox_55 R_u17) ?_
              refine rf_ck (all1 (okR_s R_u17 (by decide))) ?_
              refine rf_bx (rf_gw (ym_Ma_making R_u17)) (by unfold zle; omega) (fun c_u21 u21' u21 r21 r21' R_u21 E_u21 v_u21 => ?_)
              cases v_u21
              refine rf_gw ?_
              exact (yb_Ma_goOn_195 hG R_u21)
      · exact (yb_Ma_goOn_219 hG R)
    · exact (yb_Ma_goOn_219 hG R)
theorem yb_Ma_goOn_0 {N : Nat} {c : Nat → Nat} {m : MS} {u : CS} {G : (CS → Nat → Int32 → Option (CS × Int32))} {G' : (MS → Nat → Int32 → Option (MS × Int32))} (hG : ∀ (p : Nat), ∀ (c : Nat → Nat) (m : MS) (u : CS) (v3 : Int32), RP (some p) c m u → RF 2 (some p) VE c u (G u 55 v3) (G' m p v3)) (R : RP none c m u) {v1 : Nat} {v1' : Nat} {v2 : Int32} (h_v1 : PVn c v1 v1') : RF 2 none VE c u (fb_Ma_goOn_0 N G u 55 (some v1) v2) (hb_Ma_goOn_0 N G' m v1' v2) := by
  unfold fb_Ma_goOn_0 hb_Ma_goOn_0
  refine rf_take R h_v1 (fun w35 R_w35 => ?_)
  refine rf_bo (gR_M4 R_w35) ?_
  refine rf_soF R_w35.md (fun j38 h_j38 => ?_)
  refine rf_ck (io_F R_w35 h_j38) ?_
  refine rf_bx0 (rf_gz (ym_Fr_place R_w35 h_j38) (by omega)) (fun u37' u37 r37 R_u37 => ?_)
  refine rf_gw ?_
  refine rf_w (px_55_5 R_u37) (fun w39' w39 R_w39 => ?_)
  refine rf_w (px_55_6 R_w39) (fun w40' w40 R_w40 => ?_)
  refine rf_w (px_55_7 R_w40) (fun w41' w41 R_w41 => ?_)
  refine rf_w (px_55_8 R_w41) (fun w42' w42 R_w42 => ?_)
  refine rf_w (px_55_9 R_w42) (fun w43' w43 R_w43 => ?_)
  refine rf_w (px_55_12 R_w43) (fun w44' w44 R_w44 => ?_)
  refine rf_bo (gR_M3 R_w44) ?_
  refine rf_soP R_w44.md (fun j46 h_j46 => ?_)
  refine rf_w (wq_9 R_w44 h_j46) (fun w47' w47 R_w47 => ?_)
  refine rf_bo (gR_M4 R_w47) ?_
  refine rf_soF R_w47.md (fun j49 h_j49 => ?_)
  refine rf_w (wf_9 R_w47 h_j49) (fun w50' w50 R_w50 => ?_)
  exact (hG _ _ _ _ _ R_w50)
theorem yg_Ma_goOn {N : Nat} {p : Nat} : ∀ n, (∀ (c : Nat → Nat) (m : MS) (u : CS) (v3 : Int32), RP (some p) c m u → RF 2 (some p) VE c u ((gg_Ma_goOn N n) u 55 v3) ((hg_Ma_goOn N n) m p v3)) := by
  intro n
  induction n with
  | zero => exact fun c m u v3 R => rf_none
  | succ n ih => exact fun c m u v3 R => yb_Ma_goOn_67 (N := N) ih R
theorem ym_Ma_goOn {N : Nat} {c : Nat → Nat} {m : MS} {u : CS} (R : RP none c m u) {v1 : Nat} {v1' : Nat} {v2 : Int32} (h_v1 : PVn c v1 v1') : RF 2 none VE c u (fm_Ma_goOn N u 55 (some v1) v2) (hm_Ma_goOn N m v1' v2) := yb_Ma_goOn_0 (N := N) (fun p => yg_Ma_goOn (N := N) (p := p) N) R h_v1
end
section
set_option maxRecDepth 100000
theorem yb_H_go_81 {N : Nat} {c : Nat → Nat} {m : MS} {u : CS} (R : RP none c m u) {v2 : Int32} {v3 : Nat} {v3' : Nat} (h_v3 : PVn c v3 v3') : RF 2 none VE c u (fb_H_go_81 N () u 0 v2 (some v3)) (hb_H_go_81 N () m v2 v3') := by
  unfold fb_H_go_81 hb_H_go_81
  refine rf_bo (rx_0_7 R) ?_
  refine rf_so ?_
  refine rf_ck (ox_55 R) ?_
  refine rf_ck (all2 (okR_s R (by decide)) (okR_P R h_v3)) ?_
  refine rf_bx (rf_gw (ym_Ma_goOn R h_v3)) (by unfold zle; omega) (fun c_u2 u2' u2 r2 r2' R_u2 E_u2 v_u2 => ?_)
  cases v_u2
  refine rf_gw ?_
  exact rf_ret R_u2 rfl
theorem yb_H_go_71 {N : Nat} {c : Nat → Nat} {m : MS} {u : CS} (R : RP none c m u) : RF 2 none VE c u (fb_H_go_71 N () u) (hb_H_go_71 N () m) := by
  unfold fb_H_go_71 hb_H_go_71
  exact rf_ret R rfl
theorem yb_H_go_11 {N : Nat} {c : Nat → Nat} {m : MS} {u : CS} (R : RP none c m u) : RF 2 none VE c u (fb_H_go_11 N () u) (hb_H_go_11 N () m) := by
  unfold fb_H_go_11 hb_H_go_11
  exact rf_ret R rfl
theorem yb_H_go_0 {N : Nat} {c : Nat → Nat} {m : MS} {u : CS} (R : RP none c m u) {v1 : Int32} {v2 : Int32} : RF 2 none VE c u (fb_H_go_0 N () u 0 v1 v2) (hb_H_go_0 N () m v1 v2) := by
  unfold fb_H_go_0 hb_H_go_0
  refine rf_br ?_ ?_
  · exact (yb_H_go_11 R)
  · refine rf_br ?_ ?_
    · refine rf_bo (rx_0_6 R) ?_
      refine rf_so ?_
      refine rf_ck (ox_47 R) ?_
      refine rf_bxP (rf_gz (ym_Wl_find R) (by omega)) (fun u5' u5 r5 r5' R_u5 h_r5 => ?_)
      refine rf_gw ?_
      refine rf_br2 (PV_n h_r5) ?_ ?_
      · exact rf_ret R_u5 rfl
      · refine rf_boQ h_r5 (fun j7 j7' e1_j7 e2_j7 h_j7 => ?_)
        subst e1_j7
        refine rf_so ?_
        refine rf_bo (gq_9 R_u5 h_j7) ?_
        refine rf_br ?_ ?_
        · exact (yb_H_go_71 R_u5)
        · refine rf_so ?_
          refine rf_bo (gq_9 R_u5 h_j7) ?_
          refine rf_br ?_ ?_
          · refine rf_bo (rx_0_6 R_u5) ?_
            refine rf_so ?_
            refine rf_ck (ox_47 R_u5) ?_
            refine rf_bx0 (rf_gz (ym_Wl_isReady R_u5 h_j7) (by omega)) (fun u12' u12 r12 R_u12 => ?_)
            refine rf_gw ?_
            refine rf_br ?_ ?_
            · exact (yb_H_go_71 R_u12)
            · exact (yb_H_go_81 R_u12 h_j7)
          · exact (yb_H_go_81 R_u5 h_j7)
    · exact (yb_H_go_11 R)
theorem ym_H_go {N : Nat} {c : Nat → Nat} {m : MS} {u : CS} (R : RP none c m u) {v1 : Int32} {v2 : Int32} : RF 2 none VE c u (fm_H_go N u 0 v1 v2) (hm_H_go N m v1 v2) := yb_H_go_0 (N := N) R
theorem yb_H_clock_24 {N : Nat} {c : Nat → Nat} {m : MS} {u : CS} (R : RP none c m u) : RF 0 none VE c u (fb_H_clock_24 N () u) (hb_H_clock_24 N () m) := by
  unfold fb_H_clock_24 hb_H_clock_24
  exact rf_ret R rfl
theorem yb_H_clock_0 {N : Nat} {c : Nat → Nat} {m : MS} {u : CS} (R : RP none c m u) {v1 : Int32} : RF 0 none VE c u (fb_H_clock_0 N () u 0 v1) (hb_H_clock_0 N () m v1) := by
  unfold fb_H_clock_0 hb_H_clock_0
  refine rf_br ?_ ?_
  · exact (yb_H_clock_24 R)
  · refine rf_br ?_ ?_
    · exact (yb_H_clock_24 R)
    · refine rf_bo (rx_0_6 R) ?_
      refine rf_so ?_
      refine rf_bo (gx_47_4 R) ?_
      refine rf_br ?_ ?_
      · refine rf_bo (rx_0_6 R) ?_
        refine rf_so ?_
        refine rf_bo (gx_47_3 R) ?_
        refine rf_br ?_ ?_
        · exact rf_ret R rfl
        · refine rf_bo (rx_0_6 R) ?_
          refine rf_so ?_
          refine rf_bo (gx_47_4 R) ?_
          refine rf_w (px_47_4 R) (fun w10' w10 R_w10 => ?_)
          refine rf_bo (rx_0_6 R_w10) ?_
          refine rf_so ?_
          refine rf_bo (gx_47_4 R_w10) ?_
          exact rf_ret R_w10 rfl
      · exact (yb_H_clock_24 R)
theorem ym_H_clock {N : Nat} {c : Nat → Nat} {m : MS} {u : CS} (R : RP none c m u) {v1 : Int32} : RF 0 none VE c u (fm_H_clock N u 0 v1) (hm_H_clock N m v1) := yb_H_clock_0 (N := N) R
theorem yb_Wl_postPair_17 {N : Nat} {o : Option Nat} {c : Nat → Nat} {m : MS} {u : CS} (R : RP o c m u) : RF 3 o VE c u (fb_Wl_postPair_17 N () u) (hb_Wl_postPair_17 N () m) := by
  unfold fb_Wl_postPair_17 hb_Wl_postPair_17
  exact rf_ret R rfl
theorem yb_Wl_postPair_0 {N : Nat} {o : Option Nat} {c : Nat → Nat} {m : MS} {u : CS} (R : RP o c m u) {v1 : Nat} {v1' : Nat} {v2 : Int32} (h_v1 : PVn c v1 v1') : RF 3 o VE c u (fb_Wl_postPair_0 N () u 47 (some v1) v2) (hb_Wl_postPair_0 N () m v1' v2) := by
  unfold fb_Wl_postPair_0 hb_Wl_postPair_0
  refine rf_so ?_
  refine rf_bo (gq_9 R h_v1) ?_
  refine rf_br ?_ ?_
  · exact (yb_Wl_postPair_17 R)
  · refine rf_so ?_
    refine rf_bo (gq_7 R h_v1) ?_
    refine rf_br ?_ ?_
    · refine rf_so ?_
      refine rf_ck (io_P R h_v1) ?_
      refine rf_bx (ym_Pr_want R h_v1) (by unfold zle; omega) (fun c_u5 u5' u5 r5 r5' R_u5 E_u5 v_u5 => ?_)
      cases v_u5
      replace h_v1 := E_u5.P h_v1
      refine rf_br ?_ ?_
      · refine rf_ck (ox_47 R_u5) ?_
        refine rf_bx0 (ym_Wl_endsBy R_u5 h_v1) (fun u32' u32 r32 R_u32 => ?_)
        exact rf_ret R_u32 rfl
      · refine rf_so ?_
        refine rf_bo (gq_4 R_u5 h_v1) ?_
        refine rf_so ?_
        refine rf_bo (gR_P2 R_u5 h_v1) ?_
        refine rf_bx0 (ym_Te_make R_u5) (fun u11' u11 r11 R_u11 => ?_)
        refine rf_so ?_
        refine rf_wk (sq_2 R_u11 h_v1.1) (fun w13' w13 R_w13 => ?_)
        refine rf_so ?_
        refine rf_bo (gR_P2 R_w13 h_v1) ?_
        refine rf_bx0 (ym_Te_make R_w13) (fun u16' u16 r16 R_u16 => ?_)
        refine rf_so ?_
        refine rf_wk (sq_2 R_u16 h_v1.1) (fun w18' w18 R_w18 => ?_)
        refine rf_so ?_
        refine rf_bo (gR_P2 R_w18 h_v1) ?_
        refine rf_so ?_
        refine rf_bo (gI_P0 R_w18 h_v1) ?_
        refine rf_bx0 (ym_Te_make R_w18) (fun u23' u23 r23 R_u23 => ?_)
        refine rf_so ?_
        refine rf_wk (sq_2 R_u23 h_v1.1) (fun w25' w25 R_w25 => ?_)
        refine rf_so ?_
        refine rf_bo (gq_4 R_w25 h_v1) ?_
        refine rf_w (wq_4 R_w25 h_v1) (fun w28' w28 R_w28 => ?_)
        refine rf_bx0 (ym_Te_make R_w28) (fun u29' u29 r29 R_u29 => ?_)
        refine rf_so ?_
        refine rf_ck (io_P R_u29 h_v1) ?_
        refine rf_bx0 (ym_Pr_comes R_u29 h_v1) (fun u30' u30 r30 R_u30 => ?_)
        exact rf_ret R_u30 rfl
    · exact (yb_Wl_postPair_17 R)
theorem ym_Wl_postPair {N : Nat} {o : Option Nat} {c : Nat → Nat} {m : MS} {u : CS} (R : RP o c m u) {v1 : Nat} {v1' : Nat} {v2 : Int32} (h_v1 : PVn c v1 v1') : RF 3 o VE c u (fm_Wl_postPair N u 47 (some v1) v2) (hm_Wl_postPair N m v1' v2) := yb_Wl_postPair_0 (N := N) R h_v1
theorem yb_H_send_112 {N : Nat} {c : Nat → Nat} {m : MS} {u : CS} (R : RP none c m u) : RF 3 none VE c u (fb_H_send_112 N () u 0) (hb_H_send_112 N () m) := by
  unfold fb_H_send_112 hb_H_send_112
  refine rf_bo (rx_0_6 R) ?_
  refine rf_so ?_
  refine rf_ck (ox_47 R) ?_
  refine rf_bx (ym_Wl_settle R) (by unfold zle; omega) (fun c_u2 u2' u2 r2 r2' R_u2 E_u2 v_u2 => ?_)
  cases v_u2
  exact rf_ret R_u2 rfl
theorem yb_H_send_91 {N : Nat} {c : Nat → Nat} {m : MS} {u : CS} (R : RP none c m u) {v3 : Int32} {v4 : Option Nat} {v4' : Option Nat} {t0 : Int32} (h_v4 : PVo c v4 v4') : RF 3 none VE c u (fb_H_send_91 N () u 0 v3 v4 t0) (hb_H_send_91 N () m v3 v4' t0) := by
  unfold fb_H_send_91 hb_H_send_91
  refine rf_bo (rx_0_6 R) ?_
  refine rf_bx0 (ym_Te_make R) (fun u5' u5 r5 R_u5 => ?_)
  refine rf_so ?_
  refine rf_ck (ox_47 R_u5) ?_
  refine rf_opt h_v4 (fun v4_j v4_q e1_v4 e2_v4 h_v4j => ?_)
  subst e1_v4
  refine rf_bx (ym_Wl_post R_u5 h_v4j PV_0) (by unfold zle; omega) (fun c_u6 u6' u6 r6 r6' R_u6 E_u6 v_u6 => ?_)
  cases v_u6
  exact (yb_H_send_112 R_u6)
theorem yb_H_send_54 {N : Nat} {c : Nat → Nat} {m : MS} {u : CS} (R : RP none c m u) : RF 3 none VE c u (fb_H_send_54 N () u) (hb_H_send_54 N () m) := by
  unfold fb_H_send_54 hb_H_send_54
  exact rf_ret R rfl
theorem yb_H_send_45 {N : Nat} {c : Nat → Nat} {m : MS} {u : CS} (R : RP none c m u) {v2 : Int32} {v3 : Int32} {v4 : Option Nat} {v4' : Option Nat} (h_v4 : PVo c v4 v4') : RF 3 none VE c u (fb_H_send_45 N () u 0 v2 v3 v4) (hb_H_send_45 N () m v2 v3 v4') := by
  unfold fb_H_send_45 hb_H_send_45
  refine rf_br ?_ ?_
  · exact (yb_H_send_54 R)
  · refine rf_br ?_ ?_
    · refine rf_br ?_ ?_
      · refine rf_bo (rx_0_6 R) ?_
        refine rf_so ?_
        refine rf_ck (ox_47 R) ?_
        refine rf_opt h_v4 (fun v4_j v4_q e1_v4 e2_v4 h_v4j => ?_)
        subst e1_v4
        refine rf_bx (ym_Wl_postPair R h_v4j) (by unfold zle; omega) (fun c_u9 u9' u9 r9 r9' R_u9 E_u9 v_u9 => ?_)
        cases v_u9
        exact (yb_H_send_112 R_u9)
      · refine rf_br ?_ ?_
        · exact (yb_H_send_91 R h_v4)
        · exact (yb_H_send_91 R h_v4)
    · exact (yb_H_send_54 R)
theorem yb_H_send_35 {N : Nat} {c : Nat → Nat} {m : MS} {u : CS} (R : RP none c m u) : RF 3 none VE c u (fb_H_send_35 N () u) (hb_H_send_35 N () m) := by
  unfold fb_H_send_35 hb_H_send_35
  exact rf_ret R rfl
theorem yb_H_send_0 {N : Nat} {c : Nat → Nat} {m : MS} {u : CS} (R : RP none c m u) {v1 : Int32} {v2 : Int32} {v3 : Int32} : RF 3 none VE c u (fb_H_send_0 N () u 0 v1 v2 v3) (hb_H_send_0 N () m v1 v2 v3) := by
  unfold fb_H_send_0 hb_H_send_0
  refine rf_bo (rx_0_6 R) ?_
  refine rf_so ?_
  refine rf_ck (ox_47 R) ?_
  refine rf_bxP (ym_Wl_find R) (fun u12' u12 r12 r12' R_u12 h_r12 => ?_)
  refine rf_br2 (PV_n h_r12) ?_ ?_
  · exact (yb_H_send_35 R_u12)
  · refine rf_br ?_ ?_
    · refine rf_br ?_ ?_
      · exact (yb_H_send_35 R_u12)
      · refine rf_bo (rx_0_0 R_u12) ?_
        refine rf_so ?_
        refine rf_bo (gx_1_2 R_u12) ?_
        refine rf_br ?_ ?_
        · exact (yb_H_send_45 R_u12 h_r12)
        · exact (yb_H_send_35 R_u12)
    · exact (yb_H_send_45 R_u12 h_r12)
theorem ym_H_send {N : Nat} {c : Nat → Nat} {m : MS} {u : CS} (R : RP none c m u) {v1 : Int32} {v2 : Int32} {v3 : Int32} : RF 3 none VE c u (fm_H_send N u 0 v1 v2 v3) (hm_H_send N m v1 v2 v3) := yb_H_send_0 (N := N) R
theorem yb_Pr_wakes_26 {N : Nat} {o : Option Nat} {c : Nat → Nat} {m : MS} {u : CS} (R : RP o c m u) {t0 : Int32} : RF 0 o VE c u (fb_Pr_wakes_26 N () u t0) (hb_Pr_wakes_26 N () m t0) := by
  unfold fb_Pr_wakes_26 hb_Pr_wakes_26
  exact rf_ret R rfl
theorem yb_Pr_wakes_0 {N : Nat} {o : Option Nat} {c : Nat → Nat} {m : MS} {u : CS} (R : RP o c m u) {v0 : Nat} {v0' : Nat} (h_v0 : PVn c v0 v0') : RF 0 o VE c u (fb_Pr_wakes_0 N () u v0) (hb_Pr_wakes_0 N () m v0') := by
  unfold fb_Pr_wakes_0 hb_Pr_wakes_0
  refine rf_bo (gJ_P10 R h_v0) ?_
  refine rf_br ?_ ?_
  · exact (yb_Pr_wakes_26 R)
  · refine rf_bo (gJ_P10 R h_v0) ?_
    refine rf_lt ?_
    exact (yb_Pr_wakes_26 R)
theorem ym_Pr_wakes {N : Nat} {o : Option Nat} {c : Nat → Nat} {m : MS} {u : CS} (R : RP o c m u) {v0 : Nat} {v0' : Nat} (h_v0 : PVn c v0 v0') : RF 0 o VE c u (fm_Pr_wakes N u v0) (hm_Pr_wakes N m v0') := yb_Pr_wakes_0 (N := N) R h_v0
theorem yb_H_process_269 {N : Nat} {c : Nat → Nat} {m : MS} {u : CS} (R : RP none c m u) {t0 : Int32} : RF 0 none VE c u (fb_H_process_269 N () u t0) (hb_H_process_269 N () m t0) := by
  unfold fb_H_process_269 hb_H_process_269
  exact rf_ret R rfl
theorem yb_H_process_252 {N : Nat} {c : Nat → Nat} {m : MS} {u : CS} (R : RP none c m u) {t0 : Int32} : RF 0 none VE c u (fb_H_process_252 N () u t0) (hb_H_process_252 N () m t0) := by
  unfold fb_H_process_252 hb_H_process_252
  exact rf_ret R rfl
theorem yb_H_process_233 {N : Nat} {c : Nat → Nat} {m : MS} {u : CS} (R : RP none c m u) {t0 : Int32} : RF 0 none VE c u (fb_H_process_233 N () u t0) (hb_H_process_233 N () m t0) := by
  unfold fb_H_process_233 hb_H_process_233
  exact rf_ret R rfl
theorem yb_H_process_219 {N : Nat} {c : Nat → Nat} {m : MS} {u : CS} (R : RP none c m u) {t0 : Int32} : RF 0 none VE c u (fb_H_process_219 N () u t0) (hb_H_process_219 N () m t0) := by
  unfold fb_H_process_219 hb_H_process_219
  exact rf_ret R rfl
theorem yb_H_process_218 {N : Nat} {c : Nat → Nat} {m : MS} {u : CS} (R : RP none c m u) : RF 0 none VE c u (fb_H_process_218 N () u) (hb_H_process_218 N () m) := by
  unfold fb_H_process_218 hb_H_process_218
  exact (yb_H_process_219 R)
theorem yb_H_process_201 {N : Nat} {c : Nat → Nat} {m : MS} {u : CS} (R : RP none c m u) {t0 : Int32} : RF 0 none VE c u (fb_H_process_201 N () u t0) (hb_H_process_201 N () m t0) := by
  unfold fb_H_process_201 hb_H_process_201
  exact rf_ret R rfl
theorem yb_H_process_183 {N : Nat} {c : Nat → Nat} {m : MS} {u : CS} (R : RP none c m u) {t0 : Int32} : RF 0 none VE c u (fb_H_process_183 N () u t0) (hb_H_process_183 N () m t0) := by
  unfold fb_H_process_183 hb_H_process_183
  exact rf_ret R rfl
theorem yb_H_process_169 {N : Nat} {c : Nat → Nat} {m : MS} {u : CS} (R : RP none c m u) {t0 : Int32} : RF 0 none VE c u (fb_H_process_169 N () u t0) (hb_H_process_169 N () m t0) := by
  unfold fb_H_process_169 hb_H_process_169
  exact rf_ret R rfl
theorem yb_H_process_150 {N : Nat} {c : Nat → Nat} {m : MS} {u : CS} (R : RP none c m u) {t0 : Int32} : RF 0 none VE c u (fb_H_process_150 N () u t0) (hb_H_process_150 N () m t0) := by
  unfold fb_H_process_150 hb_H_process_150
  exact rf_ret R rfl
theorem yb_H_process_136 {N : Nat} {c : Nat → Nat} {m : MS} {u : CS} (R : RP none c m u) {t0 : Int32} : RF 0 none VE c u (fb_H_process_136 N () u t0) (hb_H_process_136 N () m t0) := by
  unfold fb_H_process_136 hb_H_process_136
  exact rf_ret R rfl
theorem yb_H_process_119 {N : Nat} {c : Nat → Nat} {m : MS} {u : CS} (R : RP none c m u) {t0 : Int32} : RF 0 none VE c u (fb_H_process_119 N () u t0) (hb_H_process_119 N () m t0) := by
  unfold fb_H_process_119 hb_H_process_119
  exact rf_ret R rfl
theorem yb_H_process_115 {N : Nat} {c : Nat → Nat} {m : MS} {u : CS} (R : RP none c m u) {v3 : Nat} {v3' : Nat} (h_v3 : PVn c v3 v3') : RF 0 none VE c u (fb_H_process_115 N () u (some v3)) (hb_H_process_115 N () m v3') := by
  unfold fb_H_process_115 hb_H_process_115
  refine rf_so ?_
  refine rf_bo (gq_9 R h_v3) ?_
  exact (yb_H_process_119 R)
theorem yb_H_process_28 {N : Nat} {c : Nat → Nat} {m : MS} {u : CS} (R : RP none c m u) {v1 : Int32} {v2 : Int32} {v3 : Nat} {v3' : Nat} {t0 : Int32} (h_v3 : PVn c v3 v3') : RF 0 none VE c u (fb_H_process_28 N () u 0 v1 v2 (some v3) t0) (hb_H_process_28 N () m v1 v2 v3' t0) := by
  unfold fb_H_process_28 hb_H_process_28
  refine rf_br ?_ ?_
  · refine rf_so ?_
    refine rf_bo (gq_9 R h_v3) ?_
    refine rf_br ?_ ?_
    · refine rf_bo (rx_0_6 R) ?_
      refine rf_so ?_
      refine rf_ck (ox_47 R) ?_
      refine rf_bx0 (ym_Wl_isReady R h_v3) (fun u6' u6 r6 R_u6 => ?_)
      refine rf_br ?_ ?_
      · exact (yb_H_process_115 R_u6 h_v3)
      · exact (yb_H_process_119 R_u6)
    · exact (yb_H_process_115 R h_v3)
  · refine rf_br ?_ ?_
    · refine rf_br ?_ ?_
      · refine rf_so ?_
        refine rf_bo (gR_P1 R h_v3) ?_
        refine rf_soF h_v3.1 (fun j10 h_j10 => ?_)
        refine rf_bo (gf_1 R h_j10) ?_
        exact (yb_H_process_136 R)
      · exact (yb_H_process_136 R)
    · refine rf_br ?_ ?_
      · refine rf_br ?_ ?_
        · refine rf_so ?_
          refine rf_bo (gq_4 R h_v3) ?_
          exact (yb_H_process_150 R)
        · exact (yb_H_process_150 R)
      · refine rf_br ?_ ?_
        · refine rf_so ?_
          refine rf_bo (gq_5 R h_v3) ?_
          exact rf_ret R rfl
        · refine rf_br ?_ ?_
          · refine rf_br ?_ ?_
            · refine rf_so ?_
              refine rf_bo (gq_7 R h_v3) ?_
              exact (yb_H_process_169 R)
            · exact (yb_H_process_169 R)
          · refine rf_br ?_ ?_
            · refine rf_br ?_ ?_
              · refine rf_so ?_
                refine rf_bo (gq_15 R h_v3) ?_
                exact (yb_H_process_183 R)
              · exact (yb_H_process_183 R)
            · refine rf_br ?_ ?_
              · refine rf_br ?_ ?_
                · refine rf_bo (rx_0_6 R) ?_
                  refine rf_so ?_
                  refine rf_ck (ox_47 R) ?_
                  refine rf_bx0 (ym_Wl_watchesOf R) (fun u21' u21 r21 R_u21 => ?_)
                  exact (yb_H_process_201 R_u21)
                · exact (yb_H_process_201 R)
              · refine rf_br ?_ ?_
                · refine rf_br ?_ ?_
                  · refine rf_so ?_
                    refine rf_bo (gq_11 R h_v3) ?_
                    refine rf_br ?_ ?_
                    · exact (yb_H_process_218 R)
                    · exact (yb_H_process_219 R)
                  · exact (yb_H_process_218 R)
                · refine rf_br ?_ ?_
                  · refine rf_br ?_ ?_
                    · refine rf_so ?_
                      refine rf_bo (gq_12 R h_v3) ?_
                      exact (yb_H_process_233 R)
                    · exact (yb_H_process_233 R)
                  · refine rf_br ?_ ?_
                    · refine rf_so ?_
                      refine rf_bo (gq_13 R h_v3) ?_
                      exact rf_ret R rfl
                    · refine rf_br ?_ ?_
                      · refine rf_br ?_ ?_
                        · refine rf_so ?_
                          refine rf_ck (io_P R h_v3) ?_
                          refine rf_bx0 (ym_Pr_wakes R h_v3) (fun u29' u29 r29 R_u29 => ?_)
                          exact (yb_H_process_252 R_u29)
                        · exact (yb_H_process_252 R)
                      · refine rf_br ?_ ?_
                        · refine rf_br ?_ ?_
                          · refine rf_so ?_
                            refine rf_bo (gR_P1 R h_v3) ?_
                            refine rf_soF h_v3.1 (fun j33 h_j33 => ?_)
                            refine rf_bo (gf_9 R h_j33) ?_
                            exact (yb_H_process_269 R)
                          · exact (yb_H_process_269 R)
                        · exact rf_ret R rfl
theorem yb_H_process_0 {N : Nat} {c : Nat → Nat} {m : MS} {u : CS} (R : RP none c m u) {v1 : Int32} {v2 : Int32} : RF 0 none VE c u (fb_H_process_0 N () u 0 v1 v2) (hb_H_process_0 N () m v1 v2) := by
  unfold fb_H_process_0 hb_H_process_0
  refine rf_bo (rx_0_6 R) ?_
  refine rf_so ?_
  refine rf_ck (ox_47 R) ?_
  refine rf_bxP (ym_Wl_find R) (fun u36' u36 r36 r36' R_u36 h_r36 => ?_)
  refine rf_br2 (PV_n h_r36) ?_ ?_
  · exact rf_ret R_u36 rfl
  · refine rf_boQ h_r36 (fun j38 j38' e1_j38 e2_j38 h_j38 => ?_)
    subst e1_j38
    refine rf_so ?_
    refine rf_bo (gq_9 R_u36 h_j38) ?_
    refine rf_br ?_ ?_
    · exact (yb_H_process_28 R_u36 h_j38)
    · exact (yb_H_process_28 R_u36 h_j38)
theorem ym_H_process {N : Nat} {c : Nat → Nat} {m : MS} {u : CS} (R : RP none c m u) {v1 : Int32} {v2 : Int32} : RF 0 none VE c u (fm_H_process N u 0 v1 v2) (hm_H_process N m v1 v2) := yb_H_process_0 (N := N) R
theorem yb_H_frame_40 {N : Nat} {c : Nat → Nat} {m : MS} {u : CS} (R : RP none c m u) : RF 0 none VE c u (fb_H_frame_40 N () u) (hb_H_frame_40 N () m) := by
  unfold fb_H_frame_40 hb_H_frame_40
  exact rf_ret R rfl
theorem yb_H_frame_0 {N : Nat} {c : Nat → Nat} {m : MS} {u : CS} (R : RP none c m u) {v1 : Int32} {v2 : Int32} {v3 : Int32} : RF 0 none VE c u (fb_H_frame_0 N () u 0 v1 v2 v3) (hb_H_frame_0 N () m v1 v2 v3) := by
  unfold fb_H_frame_0 hb_H_frame_0
  refine rf_bo (rx_0_6 R) ?_
  refine rf_so ?_
  refine rf_ck (ox_47 R) ?_
  refine rf_bxP (ym_Wl_find R) (fun u2' u2 r2 r2' R_u2 h_r2 => ?_)
  refine rf_br2 (PV_n h_r2) ?_ ?_
  · exact (yb_H_frame_40 R_u2)
  · refine rf_boQ h_r2 (fun j4 j4' e1_j4 e2_j4 h_j4 => ?_)
    subst e1_j4
    refine rf_so ?_
    refine rf_bo (gq_9 R_u2 h_j4) ?_
    refine rf_br ?_ ?_
    · exact (yb_H_frame_40 R_u2)
    · refine rf_br ?_ ?_
      · exact (yb_H_frame_40 R_u2)
      · refine rf_so ?_
        refine rf_bo (gR_P1 R_u2 h_j4) ?_
        refine rf_soF h_j4.1 (fun j8 h_j8 => ?_)
        refine rf_bo (gf_1 R_u2 h_j8) ?_
        refine rf_br ?_ ?_
        · refine rf_so ?_
          refine rf_bo (gR_P1 R_u2 h_j4) ?_
          refine rf_soF h_j4.1 (fun j12 h_j12 => ?_)
          refine rf_bo (gf_1 R_u2 h_j12) ?_
          refine rf_br ?_ ?_
          · refine rf_so ?_
            refine rf_bo (gR_P1 R_u2 h_j4) ?_
            refine rf_soF h_j4.1 (fun j17 h_j17 => ?_)
            refine rf_ck (io_F R_u2 h_j17) ?_
            refine rf_bx0 (ym_Fr_of R_u2 h_j17) (fun u16' u16 r16 R_u16 => ?_)
            exact rf_ret R_u16 rfl
          · refine rf_br ?_ ?_
            · refine rf_so ?_
              refine rf_bo (gR_P1 R_u2 h_j4) ?_
              refine rf_soF h_j4.1 (fun j21 h_j21 => ?_)
              refine rf_ck (io_F R_u2 h_j21) ?_
              refine rf_bx0 (ym_Fr_of R_u2 h_j21) (fun u20' u20 r20 R_u20 => ?_)
              exact rf_ret R_u20 rfl
            · refine rf_br ?_ ?_
              · refine rf_so ?_
                refine rf_bo (gR_P1 R_u2 h_j4) ?_
                refine rf_soF h_j4.1 (fun j25 h_j25 => ?_)
                refine rf_ck (io_F R_u2 h_j25) ?_
                refine rf_bx0 (ym_Fr_namesIn R_u2 h_j25) (fun u24' u24 r24 R_u24 => ?_)
                exact rf_ret R_u24 rfl
              · refine rf_br ?_ ?_
                · refine rf_so ?_
                  refine rf_bo (gR_P1 R_u2 h_j4) ?_
                  refine rf_soF h_j4.1 (fun j29 h_j29 => ?_)
                  refine rf_ck (io_F R_u2 h_j29) ?_
                  refine rf_bx0 (ym_Fr_waitsIn R_u2 h_j29) (fun u28' u28 r28 R_u28 => ?_)
                  exact rf_ret R_u28 rfl
                · exact rf_ret R_u2 rfl
        · exact (yb_H_frame_40 R_u2)
theorem ym_H_frame {N : Nat} {c : Nat → Nat} {m : MS} {u : CS} (R : RP none c m u) {v1 : Int32} {v2 : Int32} {v3 : Int32} : RF 0 none VE c u (fm_H_frame N u 0 v1 v2 v3) (hm_H_frame N m v1 v2 v3) := yb_H_frame_0 (N := N) R
theorem yb_H_link_33 {N : Nat} {c : Nat → Nat} {m : MS} {u : CS} (R : RP none c m u) : RF 0 none VE c u (fb_H_link_33 N () u) (hb_H_link_33 N () m) := by
  unfold fb_H_link_33 hb_H_link_33
  exact rf_ret R rfl
theorem yb_H_link_0 {N : Nat} {c : Nat → Nat} {m : MS} {u : CS} (R : RP none c m u) {v1 : Int32} {v2 : Int32} : RF 0 none VE c u (fb_H_link_0 N () u 0 v1 v2) (hb_H_link_0 N () m v1 v2) := by
  unfold fb_H_link_0 hb_H_link_0
  refine rf_bo (rx_0_6 R) ?_
  refine rf_so ?_
  refine rf_ck (ox_47 R) ?_
  refine rf_bxP (ym_Wl_find R) (fun u2' u2 r2 r2' R_u2 h_r2 => ?_)
  refine rf_br2 (PV_n h_r2) ?_ ?_
  · exact (yb_H_link_33 R_u2)
  · refine rf_boQ h_r2 (fun j4 j4' e1_j4 e2_j4 h_j4 => ?_)
    subst e1_j4
    refine rf_so ?_
    refine rf_bo (gq_9 R_u2 h_j4) ?_
    refine rf_br ?_ ?_
    · exact (yb_H_link_33 R_u2)
    · refine rf_br ?_ ?_
      · exact (yb_H_link_33 R_u2)
      · refine rf_so ?_
        refine rf_bo (gq_15 R_u2 h_j4) ?_
        refine rf_br ?_ ?_
        · refine rf_so ?_
          refine rf_bo (gR_P14 R_u2 h_j4) ?_
          refine rf_so ?_
          refine rf_ai (aq_14 R_u2 h_j4.1) ?_
          exact rf_ret R_u2 rfl
        · exact (yb_H_link_33 R_u2)
theorem ym_H_link {N : Nat} {c : Nat → Nat} {m : MS} {u : CS} (R : RP none c m u) {v1 : Int32} {v2 : Int32} : RF 0 none VE c u (fm_H_link N u 0 v1 v2) (hm_H_link N m v1 v2) := yb_H_link_0 (N := N) R
theorem yb_H_show_209 {N : Nat} {c : Nat → Nat} {m : MS} {u : CS} (R : RP none c m u) {v4 : Nat} {v4' : Nat} {t0 : Int64} (h_v4 : PVn c v4 v4') : RF 0 none VE c u (fb_H_show_209 N () u 0 (some v4) t0) (hb_H_show_209 N () m v4' t0) := by
  unfold fb_H_show_209 hb_H_show_209
  refine rf_bo (rx_0_5 R) ?_
  refine rf_so ?_
  refine rf_bo (gR_P2 R h_v4) ?_
  refine rf_bo (rx_0_8 R) ?_
  refine rf_so ?_
  refine rf_ck (ox_43 R) ?_
  refine rf_bx0 (ym_Te_text R ⟨_, h_v4.1, rfl, rfl⟩ (by unfold isOu; omega)) (fun u5' u5 r5 R_u5 => ?_)
  refine rf_w (px_0_9 R_u5) (fun w7' w7 R_w7 => ?_)
  refine rf_bo (gx_0_9 R_w7) ?_
  exact rf_ret R_w7 rfl
theorem yb_H_show_145 {N : Nat} {c : Nat → Nat} {m : MS} {u : CS} (R : RP none c m u) {v2 : Int32} {v3 : Int32} {v4 : Nat} {v4' : Nat} {v5 : Nat} {v5' : Nat} {v6 : Int32} {t0 : Int32} (h_v4 : PVn c v4 v4') (h_v5 : FVn c v5 v5') : RF 0 none VE c u (fb_H_show_145 N () u 0 v2 v3 (some v4) (some v5) v6 t0) (hb_H_show_145 N () m v2 v3 v4' v5' v6 t0) := by
  unfold fb_H_show_145 hb_H_show_145
  refine rf_br ?_ ?_
  · refine rf_br ?_ ?_
    · refine rf_so ?_
      refine rf_bo (gR_P6 R h_v4) ?_
      refine rf_so ?_
      refine rf_ai (aq_6 R h_v4.1) ?_
      exact (yb_H_show_209 R h_v4)
    · refine rf_br ?_ ?_
      · refine rf_so ?_
        refine rf_bo (gR_F3 R h_v5) ?_
        refine rf_so ?_
        refine rf_ck (io_F R h_v5) ?_
        refine rf_bx0 (ym_Fr_of R h_v5) (fun u17' u17 r17 R_u17 => ?_)
        refine rf_so ?_
        refine rf_ai (aq_33 R_u17 h_v5.1) ?_
        exact (yb_H_show_209 R_u17 h_v4)
      · refine rf_so ?_
        refine rf_bo (gR_F5 R h_v5) ?_
        refine rf_so ?_
        refine rf_ck (io_F R h_v5) ?_
        refine rf_bx0 (ym_Fr_of R h_v5) (fun u11' u11 r11 R_u11 => ?_)
        refine rf_so ?_
        refine rf_ai (aq_35 R_u11 h_v5.1) ?_
        exact (yb_H_show_209 R_u11 h_v4)
  · exact rf_ret R rfl
theorem yb_H_show_93 {N : Nat} {c : Nat → Nat} {m : MS} {u : CS} (R : RP none c m u) : RF 0 none VE c u (fb_H_show_93 N () u) (hb_H_show_93 N () m) := by
  unfold fb_H_show_93 hb_H_show_93
  exact rf_ret R rfl
theorem yb_H_show_39 {N : Nat} {c : Nat → Nat} {m : MS} {u : CS} (R : RP none c m u) : RF 0 none VE c u (fb_H_show_39 N () u) (hb_H_show_39 N () m) := by
  unfold fb_H_show_39 hb_H_show_39
  exact rf_ret R rfl
theorem yb_H_show_19 {N : Nat} {c : Nat → Nat} {m : MS} {u : CS} (R : RP none c m u) : RF 0 none VE c u (fb_H_show_19 N () u) (hb_H_show_19 N () m) := by
  unfold fb_H_show_19 hb_H_show_19
  exact rf_ret R rfl
theorem yb_H_show_0 {N : Nat} {c : Nat → Nat} {m : MS} {u : CS} (R : RP none c m u) {v1 : Int32} {v2 : Int32} {v3 : Int32} : RF 0 none VE c u (fb_H_show_0 N () u 0 v1 v2 v3) (hb_H_show_0 N () m v1 v2 v3) := by
  unfold fb_H_show_0 hb_H_show_0
  refine rf_bo (rx_0_6 R) ?_
  refine rf_so ?_
  refine rf_ck (ox_47 R) ?_
  refine rf_bxP (ym_Wl_find R) (fun u26' u26 r26 r26' R_u26 h_r26 => ?_)
  refine rf_br2 (PV_n h_r26) ?_ ?_
  · exact (yb_H_show_19 R_u26)
  · refine rf_br ?_ ?_
    · refine rf_br ?_ ?_
      · refine rf_boQ h_r26 (fun j40 j40' e1_j40 e2_j40 h_j40 => ?_)
        subst e1_j40
        refine rf_so ?_
        refine rf_bo (gq_9 R_u26 h_j40) ?_
        refine rf_br ?_ ?_
        · refine rf_br ?_ ?_
          · refine rf_bo (rx_0_5 R_u26) ?_
            refine rf_so ?_
            refine rf_home R_u26 h_j40 (fun r44 h_r44 => ?_)
            refine rf_boQ h_r44 (fun j45 j45' e1_j45 e2_j45 h_j45 => ?_)
            subst e1_j45
            refine rf_so ?_
            refine rf_bo (gR_P2 R_u26 h_j45) ?_
            refine rf_so ?_
            refine rf_bo (gJ_P16 R_u26 h_j40) ?_
            refine rf_bo (rx_0_8 R_u26) ?_
            refine rf_so ?_
            refine rf_ck (ox_43 R_u26) ?_
            refine rf_bx0 (ym_Te_text R_u26 ⟨_, h_j45.1, rfl, rfl⟩ (by unfold isOu; omega)) (fun u50' u50 r50 R_u50 => ?_)
            refine rf_w (px_0_9 R_u50) (fun w52' w52 R_w52 => ?_)
            refine rf_bo (gx_0_9 R_w52) ?_
            exact rf_ret R_w52 rfl
          · exact (yb_H_show_39 R_u26)
        · exact (yb_H_show_39 R_u26)
      · refine rf_br ?_ ?_
        · exact (yb_H_show_93 R_u26)
        · refine rf_br ?_ ?_
          · exact (yb_H_show_93 R_u26)
          · refine rf_boQ h_r26 (fun j28 j28' e1_j28 e2_j28 h_j28 => ?_)
            subst e1_j28
            refine rf_so ?_
            refine rf_bo (gq_9 R_u26 h_j28) ?_
            refine rf_br ?_ ?_
            · exact (yb_H_show_93 R_u26)
            · refine rf_so ?_
              refine rf_bo (gR_P1 R_u26 h_j28) ?_
              refine rf_soF h_j28.1 (fun j32 h_j32 => ?_)
              refine rf_bo (gf_1 R_u26 h_j32) ?_
              refine rf_br ?_ ?_
              · refine rf_so ?_
                refine rf_bo (gq_7 R_u26 h_j28) ?_
                exact (yb_H_show_145 R_u26 h_j28 ⟨h_j28.1, rfl⟩)
              · refine rf_br ?_ ?_
                · refine rf_soF h_j28.1 (fun j37 h_j37 => ?_)
                  refine rf_ck (io_F R_u26 h_j37) ?_
                  refine rf_bx0 (ym_Fr_namesIn R_u26 h_j37) (fun u36' u36 r36 R_u36 => ?_)
                  exact (yb_H_show_145 R_u36 h_j28 ⟨h_j28.1, rfl⟩)
                · refine rf_soF h_j28.1 (fun j35 h_j35 => ?_)
                  refine rf_ck (io_F R_u26 h_j35) ?_
                  refine rf_bx0 (ym_Fr_waitsIn R_u26 h_j35) (fun u34' u34 r34 R_u34 => ?_)
                  exact (yb_H_show_145 R_u34 h_j28 ⟨h_j28.1, rfl⟩)
    · exact (yb_H_show_19 R_u26)
theorem ym_H_show {N : Nat} {c : Nat → Nat} {m : MS} {u : CS} (R : RP none c m u) {v1 : Int32} {v2 : Int32} {v3 : Int32} : RF 0 none VE c u (fm_H_show N u 0 v1 v2 v3) (hm_H_show N m v1 v2 v3) := yb_H_show_0 (N := N) R
end
section
def HDCc (c : Int64) : Prop := 0 ≤ va c ∧ so c = 8
def BKc (h : Nat → Int64) (n : Nat) (ow kd : Nat → Nat) (Fv : Int64 → Int64 → Prop) (t : Int64) : Prop :=
  0 ≤ va t ∧ (so t = 5 → HDCc (h (vn t))) ∧ (so t = 3 → 0 ≤ va (h (vn t + 1)) ∧ Fv (h (vn t)) (h (vn t + 1))) ∧ vn t + blk h t ≤ n ∧ (kd (vn t) : Int) = so t ∧ ∀ j, j < blk h t → ow (vn t + j) = vn t
def SZc (h : Nat → Int64) (n : Nat) (ow kd : Nat → Nat) (Fv : Int64 → Int64 → Prop) (P : Int64 → Prop) : Nat → Int64 → Nat → Prop
  | 0, _, _ => False
  | f + 1, t, s => (¬ isH t ∧ P t ∧ s = 0) ∨ (isH t ∧ BKc h n ow kd Fv t ∧ ∃ c : Nat → Nat, (∀ j, prt t ≤ j → j < blk h t → SZc h n ow kd Fv P f (h (vn t + j)) (c j)) ∧ s = blk h t + smm c (prt t) (blk h t - prt t))
section
variable {h : Nat → Int64} {n : Nat} {ow kd : Nat → Nat} {Fv : Int64 → Int64 → Prop} {P : Int64 → Prop}
theorem SZ_monoc : ∀ {f : Nat} {t : Int64} {s : Nat}, SZc h n ow kd Fv P f t s → SZc h n ow kd Fv P (f + 1) t s
  | 0, _, _, z => z.elim
  | f + 1, t, s, z => by
    rcases z with z | ⟨z1, z2, c, z3, z4⟩
    · exact Or.inl z
    · exact Or.inr ⟨z1, z2, c, fun j a b => SZ_monoc (z3 j a b), z4⟩
theorem SZ_lec {f g : Nat} {t : Int64} {s : Nat} (hz : SZc h n ow kd Fv P f t s) (hl : f ≤ g) : SZc h n ow kd Fv P g t s := by
  induction hl with
  | refl => exact hz
  | step _ ih => exact SZ_monoc ih
theorem SZ_func : ∀ {f g : Nat} {t : Int64} {s r : Nat}, SZc h n ow kd Fv P f t s → SZc h n ow kd Fv P g t r → s = r
  | 0, _, _, _, _, z, _ => z.elim
  | _ + 1, 0, _, _, _, _, z => z.elim
  | f + 1, g + 1, t, s, r, z, y => by
    rcases z with ⟨z1, -, z3⟩ | ⟨z1, -, c, z3, z4⟩
    · rcases y with ⟨-, -, y3⟩ | ⟨y1, -⟩
      · rw [z3, y3]
      · exact absurd y1 z1
    · rcases y with ⟨y1, -⟩ | ⟨-, -, d, y3, y4⟩
      · exact absurd z1 y1
      · rw [z4, y4, smm_eq (d := d) (fun j a b => SZ_func (z3 j a (by have := prt_le (h := h) z1; omega)) (y3 j a (by have := prt_le (h := h) z1; omega)))]
theorem SZ_extc {h2 : Nat → Int64} {n2 : Nat} {ow2 kd2 : Nat → Nat} {Fv2 : Int64 → Int64 → Prop} {P2 : Int64 → Prop} (hn : n ≤ n2) (hh : ∀ i, i < n → h2 i = h i) (ho : ∀ i, i < n → ow2 i = ow i) (hk : ∀ i, i < n → kd2 i = kd i) (hF : ∀ a b, Fv a b → Fv2 a b) (hP : ∀ t, P t → P2 t) : ∀ {f : Nat} {t : Int64} {s : Nat}, SZc h n ow kd Fv P f t s → SZc h2 n2 ow2 kd2 Fv2 P2 f t s
  | 0, _, _, z => z.elim
  | f + 1, t, s, z => by
    rcases z with ⟨z1, z2, z3⟩ | ⟨z1, ⟨b1, b2, b3, b4, b5, b6⟩, c, z3, z4⟩
    · exact Or.inl ⟨z1, hP t z2, z3⟩
    · have hb : 0 < blk h t := by
        unfold blk
        rcases z1 with e | e | e <;> rw [e] <;> simp <;> omega
      have e0 : h2 (vn t) = h (vn t) := hh _ (by omega)
      have hb2 : so t = 3 → 2 ≤ blk h t := fun e => by unfold blk; rw [e]; simp
      have e1 : so t = 3 → h2 (vn t + 1) = h (vn t + 1) := fun e => hh _ (by have := hb2 e; omega)
      have eb : blk h2 t = blk h t := by
        unfold blk
        rw [e0]
        by_cases e : so t = 3
        · rw [e1 e]
        · simp [e]
      refine Or.inr ⟨z1, ⟨b1, fun e => by rw [e0]; exact b2 e, fun e => ?_, by omega, ?_, ?_⟩, c, ?_, ?_⟩
      · rw [e0, e1 e]; exact ⟨(b3 e).1, hF _ _ (b3 e).2⟩
      · rw [hk _ (by omega)]; exact b5
      · rw [eb]; intro j hj; rw [ho _ (by omega)]; exact b6 j hj
      · rw [eb]; intro j a b; rw [hh _ (by omega)]; exact SZ_extc hn hh ho hk hF hP (z3 j a b)
      · rw [eb]; exact z4
end
def HPc (h : Nat → Int64) (n : Nat) (ow kd : Nat → Nat) (Fv : Int64 → Int64 → Prop) (P : Int64 → Prop) : Prop :=
  ∀ t, isH t → GT n ow kd P t → ∃ f s, SZc h n ow kd Fv P f t s ∧ (500 < s → so t = 5 ∧ blk h t = 3 ∧ ¬ isH (h (vn t + 1)))
section
variable {h : Nat → Int64} {n : Nat} {ow kd : Nat → Nat} {Fv : Int64 → Int64 → Prop} {P : Int64 → Prop}
theorem BK_gtc {t : Int64} (z : isH t) (b : BKc h n ow kd Fv t) : GT n ow kd P t := by
  have hb := blk_pos (h := h) z
  exact Or.inr ⟨z, b.1, by have := b.2.2.2.1; omega, by have := b.2.2.2.2.2 0 hb; exact this, b.2.2.2.2.1⟩
theorem SZ_gtc {f : Nat} {t : Int64} {s : Nat} (z : SZc h n ow kd Fv P f t s) : GT n ow kd P t := by
  cases f with
  | zero => exact z.elim
  | succ f =>
    rcases z with ⟨z1, z2, -⟩ | ⟨z1, z2, -⟩
    · exact Or.inl ⟨z1, z2⟩
    · exact BK_gtc z1 z2
theorem HP_szc (g : HPc h n ow kd Fv P) {t : Int64} (ht : GT n ow kd P t) : ∃ f s, SZc h n ow kd Fv P f t s := by
  by_cases z : isH t
  · obtain ⟨f, s, a, -⟩ := g t z ht; exact ⟨f, s, a⟩
  · rcases ht with ⟨-, b⟩ | ⟨a, -⟩
    · exact ⟨1, 0, Or.inl ⟨z, b, rfl⟩⟩
    · exact absurd a z
theorem HP_bkc (g : HPc h n ow kd Fv P) {t : Int64} (z : isH t) (ht : GT n ow kd P t) : BKc h n ow kd Fv t ∧ ∀ j, prt t ≤ j → j < blk h t → GT n ow kd P (h (vn t + j)) := by
  obtain ⟨f, s, a, -⟩ := g t z ht
  cases f with
  | zero => exact a.elim
  | succ f =>
    rcases a with ⟨a, -⟩ | ⟨-, b, c, d, -⟩
    · exact absurd z a
    · exact ⟨b, fun j h1 h2 => SZ_gtc (d j h1 h2)⟩
theorem SZ_allc {m : Nat} {q : Nat → Int64} : (∀ j, j < m → ∃ f s, SZc h n ow kd Fv P f (q j) s) → ∃ f, ∃ c : Nat → Nat, ∀ j, j < m → SZc h n ow kd Fv P f (q j) (c j) := by
  induction m with
  | zero => intro _; exact ⟨0, fun _ => 0, fun j hj => absurd hj (Nat.not_lt_zero j)⟩
  | succ m ih =>
    intro H
    obtain ⟨f, c, hc⟩ := ih (fun j hj => H j (by omega))
    obtain ⟨f2, s, hs⟩ := H m (by omega)
    refine ⟨f + f2, fun j => if j = m then s else c j, fun j hj => ?_⟩
    by_cases e : j = m
    · subst e; simp only [if_pos rfl]; exact SZ_lec hs (by omega)
    · simp only [if_neg e]; exact SZ_lec (hc j (by omega)) (by omega)
theorem HP_newc (g : HPc h n ow kd Fv P) {h2 : Nat → Int64} {m : Nat} {x : Int64} (hh : ∀ i, i < n → h2 i = h i) (hx : isH x) (h0 : 0 ≤ va x) (hv : vn x = n) (hb : blk h2 x = m)
    (b2 : so x = 5 → HDCc (h2 n)) (b3 : so x = 3 → 0 ≤ va (h2 (n + 1)) ∧ Fv (h2 n) (h2 (n + 1)))
    (hp : ∀ j, prt x ≤ j → j < m → GT n ow kd P (h2 (n + j)))
    (hs : (so x = 5 ∧ m = 3 ∧ ¬ isH (h2 (n + 1))) ∨ ∀ f c, (∀ j, prt x ≤ j → j < m → SZc h n ow kd Fv P f (h2 (n + j)) (c j)) → m + smm c (prt x) (m - prt x) ≤ 500) :
    ∃ ow2 kd2, HPc h2 (n + m) ow2 kd2 Fv P ∧ GT (n + m) ow2 kd2 P x ∧ (∀ t, GT n ow kd P t → GT (n + m) ow2 kd2 P t) ∧ (∀ f t s, SZc h n ow kd Fv P f t s → SZc h2 (n + m) ow2 kd2 Fv P f t s) ∧ ∃ f s, SZc h2 (n + m) ow2 kd2 Fv P f x s := by
  have mp : 0 < m := by rw [← hb]; exact blk_pos hx
  have ext : ∀ f t s, SZc h n ow kd Fv P f t s → SZc h2 (n + m) (fun i => if n ≤ i then n else ow i) (fun i => if i = n then (so x).toNat else kd i) Fv P f t s := fun f t s z =>
    SZ_extc (by omega) hh (fun i hi => if_neg (by omega)) (fun i hi => if_neg (by omega)) (fun _ _ q => q) (fun _ q => q) z
  have sx : 0 ≤ so x := by rcases hx with e | e | e <;> omega
  have gx : GT (n + m) (fun i => if n ≤ i then n else ow i) (fun i => if i = n then (so x).toNat else kd i) P x :=
    Or.inr ⟨hx, h0, by omega, by rw [hv]; simp, by rw [hv]; simp; omega⟩
  have bx : BKc h2 (n + m) (fun i => if n ≤ i then n else ow i) (fun i => if i = n then (so x).toNat else kd i) Fv x := by
    refine ⟨h0, by rw [hv]; exact b2, by rw [hv]; exact b3, by rw [hv, hb]; exact Nat.le_refl _, by rw [hv]; simp; omega, fun j _ => ?_⟩
    rw [hv]; exact if_pos (by omega)
  obtain ⟨f0, c0, hc0⟩ := SZ_allc (h := h) (n := n) (ow := ow) (kd := kd) (Fv := Fv) (P := P) (m := m - prt x) (q := fun j => h2 (n + (prt x + j))) (fun j hj => HP_szc g (hp (prt x + j) (by omega) (by omega)))
  have hc1 : ∀ j, prt x ≤ j → j < m → SZc h n ow kd Fv P f0 (h2 (n + j)) (c0 (j - prt x)) := fun j h1 h2' => by
    have := hc0 (j - prt x) (by omega)
    rw [show prt x + (j - prt x) = j from by omega] at this
    exact this
  have szx : SZc h2 (n + m) (fun i => if n ≤ i then n else ow i) (fun i => if i = n then (so x).toNat else kd i) Fv P (f0 + 1) x (m + smm (fun j => c0 (j - prt x)) (prt x) (m - prt x)) :=
    Or.inr ⟨hx, bx, fun j => c0 (j - prt x), by rw [hb, hv]; exact fun j h1 h2' => ext _ _ _ (hc1 j h1 h2'), by rw [hb]⟩
  refine ⟨_, _, ?_, gx, ?_, ext, _, _, szx⟩
  · intro t ht hg
    rcases hg with ⟨z, -⟩ | ⟨-, g1, g2, g3, g4⟩
    · exact absurd ht z
    by_cases e : vn t < n
    · have e1 : ow (vn t) = vn t := by have := g3; simp only [if_neg (show ¬ n ≤ vn t by omega)] at this; exact this
      have e2 : (kd (vn t) : Int) = so t := by have := g4; simp only [if_neg (show ¬ vn t = n by omega)] at this; exact this
      obtain ⟨f, s, z1, z2⟩ := g t ht (Or.inr ⟨ht, g1, e, e1, e2⟩)
      refine ⟨f, s, ext _ _ _ z1, fun hs5 => ?_⟩
      obtain ⟨q1, q2, q3⟩ := z2 hs5
      have bkt := (HP_bkc g ht (Or.inr ⟨ht, g1, e, e1, e2⟩)).1
      have r1 : blk h2 t = 3 := by
        have q2' := q2
        unfold blk at q2' ⊢
        rw [q1] at q2' ⊢
        simp at q2' ⊢
        rw [hh _ e]; exact q2'
      have : vn t + 3 ≤ n := by have := bkt.2.2.2.1; omega
      exact ⟨q1, r1, by rw [hh _ (by omega)]; exact q3⟩
    · have e1 : vn t = n := by have := g3; simp only [if_pos (show n ≤ vn t by omega)] at this; exact this.symm
      have e2 : so t = so x := by have := g4; simp only [if_pos e1] at this; omega
      have eb : blk h2 t = m := by rw [← hb]; unfold blk; rw [e2, e1, hv]
      have ep : prt t = prt x := by unfold prt; rw [e2]
      have sz2 : SZc h2 (n + m) (fun i => if n ≤ i then n else ow i) (fun i => if i = n then (so x).toNat else kd i) Fv P (f0 + 1) t (m + smm (fun j => c0 (j - prt x)) (prt x) (m - prt x)) := by
        refine Or.inr ⟨ht, ⟨g1, ?_, ?_, ?_, g4, ?_⟩, fun j => c0 (j - prt x), ?_, ?_⟩
        · rw [e1, e2]; exact b2
        · rw [e1, e2]; exact b3
        · rw [eb, e1]; exact Nat.le_refl _
        · intro j _; rw [e1]; exact if_pos (by omega)
        · rw [eb, e1, ep]; exact fun j h1 h2' => ext _ _ _ (hc1 j h1 h2')
        · rw [eb, ep]
      refine ⟨_, _, sz2, fun h5 => ?_⟩
      rcases hs with ⟨s1, s2, s3⟩ | hs
      · exact ⟨by rw [e2]; exact s1, by rw [eb]; exact s2, by rw [e1]; exact s3⟩
      · have := hs f0 _ hc1; omega
  · intro t ht
    rcases ht with z | ⟨z1, z2, z3, z4, z5⟩
    · exact Or.inl z
    · refine Or.inr ⟨z1, z2, by omega, ?_, ?_⟩
      · show (if n ≤ vn t then n else ow (vn t)) = vn t
        rw [if_neg (by omega)]; exact z4
      · show ((if vn t = n then (so x).toNat else kd (vn t) : Nat) : Int) = so t
        rw [if_neg (by omega)]; exact z5
end
section
variable {h : Nat → Int64} {n : Nat} {ow kd : Nat → Nat} {Fv : Int64 → Int64 → Prop} {P : Int64 → Prop}
theorem SZ_samec {f : Nat} {t x : Int64} {s : Nat} (e1 : so t = so x) (e2 : va t = va x) (ht : isH x) (z : SZc h n ow kd Fv P f x s) : SZc h n ow kd Fv P f t s := by
  cases f with
  | zero => exact z.elim
  | succ f =>
    have ev : vn t = vn x := by unfold vn; rw [e2]
    have eb : blk h t = blk h x := by unfold blk; rw [e1, ev]
    have ep : prt t = prt x := by unfold prt; rw [e1]
    rcases z with ⟨z1, -⟩ | ⟨z1, z2, c, z3, z4⟩
    · exact absurd ht z1
    · refine Or.inr ⟨by unfold isH; rw [e1]; exact z1, ?_, c, by rw [ep, eb, ev]; exact z3, by rw [eb, ep]; exact z4⟩
      unfold BKc
      rw [e1, e2, ev, eb]
      exact z2
theorem SZ_bigc (g : HPc h n ow kd Fv P) : ∀ (s : Nat) (f : Nat) (t : Int64), SZc h n ow kd Fv P f t s → 500 < s → ∃ S : Nat → Prop, ∃ _ : DecidablePred S, s ≤ 500 + cnt S ow n ∧ ∀ k, S k → ∃ f2 s2, ∃ x : Int64, isH x ∧ vn x = k ∧ SZc h n ow kd Fv P f2 x s2 ∧ s2 ≤ s := by
  intro s
  induction s using Nat.strongRecOn with
  | _ s ih =>
    intro f t z hs
    have ht : isH t := Classical.byContradiction (fun c => by
      cases f with
      | zero => exact z
      | succ f =>
        rcases z with ⟨-, -, z3⟩ | ⟨z1, -⟩
        · omega
        · exact c z1)
    have gt := SZ_gtc z
    obtain ⟨f1, s1, y1, y2⟩ := g t ht gt
    have es := SZ_func z y1
    subst es
    obtain ⟨q1, q2, q3⟩ := y2 hs
    obtain ⟨b, -⟩ := HP_bkc g ht gt
    have bo := b.2.2.2.2.2
    have bn := b.2.2.2.1
    cases f with
    | zero => exact z.elim
    | succ f =>
      rcases z with ⟨z1, -⟩ | ⟨z1, z2, c, z3, z4⟩
      · exact absurd ht z1
      have ep : prt t = 1 := by unfold prt; rw [q1]; rfl
      rw [q2, ep] at z3 z4
      have c1 : c 1 = 0 := by
        have := z3 1 (by omega) (by omega)
        cases f with
        | zero => exact this.elim
        | succ f =>
          rcases this with ⟨-, -, w⟩ | ⟨w, -⟩
          · exact w
          · exact absurd w q3
      have e2 : s = 3 + c 2 := by rw [z4]; show 3 + (0 + c (1 + 0) + c (1 + 1)) = _; rw [show c (1 + 0) = 0 from c1]; show 3 + (0 + 0 + c 2) = _; omega
      have z2' := z3 2 (by omega) (by omega)
      by_cases hc : 500 < c 2
      · obtain ⟨S, dS, i1, i2⟩ := ih (c 2) (by omega) f _ z2' hc
        have nS : ¬ S (vn t) := fun w => by
          obtain ⟨f2, s2, x, x1, x2, x3, x4⟩ := i2 _ w
          have gx := SZ_gtc x3
          have tx : so t = so x := by
            rcases gx with ⟨w1, -⟩ | ⟨-, -, -, -, w5⟩
            · exact absurd x1 w1
            · rw [← w5, x2]; exact b.2.2.2.2.1.symm
          have vx : va t = va x := by
            have p1 := b.1
            have p2 : 0 ≤ va x := by
              rcases gx with ⟨w1, -⟩ | ⟨-, w2, -⟩
              · exact absurd x1 w1
              · exact w2
            unfold vn at x2
            omega
          have := SZ_func (SZ_samec tx vx x1 x3) y1
          omega
        refine ⟨fun k => S k ∨ k = vn t, fun k => inferInstance, ?_, ?_⟩
        · have := cnt_add (S := S) (S2 := fun k => S k ∨ k = vn t) (ow := ow) (k := vn t) (b := 3) (fun j hj => bo j (by omega)) nS (fun i => Iff.rfl) n (by omega)
          omega
        · rintro k (w | w)
          · obtain ⟨f2, s2, x, x1, x2, x3, x4⟩ := i2 k w
            exact ⟨f2, s2, x, x1, x2, x3, by omega⟩
          · exact ⟨_, _, t, ht, w.symm, y1, Nat.le_refl _⟩
      · refine ⟨fun k => k = vn t, fun k => inferInstance, ?_, ?_⟩
        · have := cnt_add (S := fun _ => False) (S2 := fun k => k = vn t) (ow := ow) (k := vn t) (b := 3) (fun j hj => bo j (by omega)) (fun w => w) (fun i => by simp) n (by omega)
          omega
        · rintro k w
          exact ⟨_, _, t, ht, w.symm, y1, Nat.le_refl _⟩
theorem SZ_1000c (g : HPc h n ow kd Fv P) (hn : n ≤ 500) {f : Nat} {t : Int64} {s : Nat} (z : SZc h n ow kd Fv P f t s) : s ≤ 1000 := by
  by_cases hs : 500 < s
  · obtain ⟨S, dS, a, -⟩ := SZ_bigc g s f t z hs
    have := cnt_le (S := S) (ow := ow) n
    omega
  · omega
theorem SZ_gcc {h2 : Nat → Int64} {n2 : Nat} {ow2 kd2 : Nat → Nat} {fw : Int64 → Int64} {R : Int64 → Prop} (h0 : ∀ t, ¬ isH t → fw t = t)
    (h1 : ∀ t, isH t → R t → BKc h n ow kd Fv t → isH (fw t) ∧ prt (fw t) = prt t ∧ BKc h2 n2 ow2 kd2 Fv (fw t) ∧ blk h2 (fw t) = blk h t ∧ ∀ j, prt t ≤ j → j < blk h t → h2 (vn (fw t) + j) = fw (h (vn t + j)) ∧ (isH (h (vn t + j)) → R (h (vn t + j)))) :
    ∀ {f : Nat} {t : Int64} {s : Nat}, SZc h n ow kd Fv P f t s → (isH t → R t) → SZc h2 n2 ow2 kd2 Fv P f (fw t) s
  | 0, _, _, z, _ => z.elim
  | f + 1, t, s, z, r => by
    rcases z with ⟨z1, z2, z3⟩ | ⟨z1, z2, c, z3, z4⟩
    · rw [h0 t z1]; exact Or.inl ⟨z1, z2, z3⟩
    · obtain ⟨a1, a2, a3, a4, a5⟩ := h1 t z1 (r z1) z2
      refine Or.inr ⟨a1, a3, c, ?_, ?_⟩
      · rw [a2, a4]
        intro j p1 p2
        obtain ⟨e1, e2⟩ := a5 j p1 p2
        rw [e1]
        exact SZ_gcc h0 h1 (z3 j p1 p2) e2
      · rw [a2, a4]; exact z4
end
section
variable {h : Nat → Int64} {n : Nat} {ow kd : Nat → Nat} {Fv : Int64 → Int64 → Prop} {P : Int64 → Prop}
theorem SZ_ownc {h2 : Nat → Int64} {n2 : Nat} {ow2 kd2 : Nat → Nat} {Fv2 : Int64 → Int64 → Prop} {P2 : Int64 → Prop} (hn : n ≤ n2) (hh : ∀ i, i < n → ow i ≤ i → h2 i = h i) (ho : ∀ i, i < n → ow i ≤ i → ow2 i = ow i) (hk : ∀ i, i < n → ow i ≤ i → kd2 i = kd i) (hF : ∀ a b, Fv a b → Fv2 a b) (hP : ∀ t, P t → P2 t) : ∀ {f : Nat} {t : Int64} {s : Nat}, SZc h n ow kd Fv P f t s → SZc h2 n2 ow2 kd2 Fv2 P2 f t s
  | 0, _, _, z => z.elim
  | f + 1, t, s, z => by
    rcases z with ⟨z1, z2, z3⟩ | ⟨z1, ⟨b1, b2, b3, b4, b5, b6⟩, c, z3, z4⟩
    · exact Or.inl ⟨z1, hP t z2, z3⟩
    · have hb := blk_pos (h := h) z1
      have o0 : ow (vn t) = vn t := b6 0 hb
      have e0 : h2 (vn t) = h (vn t) := hh _ (by omega) (by omega)
      have e1 : so t = 3 → h2 (vn t + 1) = h (vn t + 1) := fun e => by
        have := blk_2 (h := h) e
        have := b6 1 (by omega)
        exact hh _ (by omega) (by omega)
      have eb : blk h2 t = blk h t := by
        unfold blk
        rw [e0]
        by_cases e : so t = 3
        · rw [e1 e]
        · simp [e]
      refine Or.inr ⟨z1, ⟨b1, fun e => by rw [e0]; exact b2 e, fun e => ?_, by omega, ?_, ?_⟩, c, ?_, ?_⟩
      · rw [e0, e1 e]; exact ⟨(b3 e).1, hF _ _ (b3 e).2⟩
      · rw [hk _ (by omega) (by omega)]; exact b5
      · rw [eb]; intro j hj; have := b6 j hj; rw [ho _ (by omega) (by omega)]; exact this
      · rw [eb]; intro j a b; have := b6 j b; rw [hh _ (by omega) (by omega)]; exact SZ_ownc hn hh ho hk hF hP (z3 j a b)
      · rw [eb]; exact z4
theorem HP_ownc {h2 : Nat → Int64} {n2 : Nat} {ow2 kd2 : Nat → Nat} (g : HPc h n ow kd Fv P) (hn : n ≤ n2) (hh : ∀ i, i < n → ow i ≤ i → h2 i = h i) (ho : ∀ i, i < n → ow i ≤ i → ow2 i = ow i) (hk : ∀ i, i < n → ow i ≤ i → kd2 i = kd i) (hx : ∀ i, i < n2 → ow2 i = i → i < n ∧ ow i = i) : HPc h2 n2 ow2 kd2 Fv P := by
  intro t ht gt
  rcases gt with ⟨z, -⟩ | ⟨-, g1, g2, g3, g4⟩
  · exact absurd ht z
  obtain ⟨q1, q2⟩ := hx _ g2 g3
  have gt0 : GT n ow kd P t := Or.inr ⟨ht, g1, q1, q2, by rw [← hk _ q1 (by omega)]; exact g4⟩
  obtain ⟨f, s, z1, z2⟩ := g t ht gt0
  refine ⟨f, s, SZ_ownc hn hh ho hk (fun _ _ q => q) (fun _ q => q) z1, fun h5 => ?_⟩
  obtain ⟨r1, r2, r3⟩ := z2 h5
  have b := (HP_bkc g ht gt0).1
  have b6 := b.2.2.2.2.2
  have b4 := b.2.2.2.1
  have o1 := b6 1 (by omega)
  refine ⟨r1, ?_, by rw [hh _ (by omega) (by omega)]; exact r3⟩
  have q2' := r2
  unfold blk at q2' ⊢
  rw [r1] at q2' ⊢
  simp at q2' ⊢
  rw [hh _ q1 (by omega)]; exact q2'
theorem HP_holec {h2 : Nat → Int64} (m : Nat) (g : HPc h n ow kd Fv P) (hh : ∀ i, i < n → h2 i = h i) : HPc h2 (n + m) (owH n ow) kd Fv P :=
  HP_ownc g (by omega) (fun i hi _ => hh i hi) (fun i hi _ => if_neg (by omega)) (fun _ _ _ => rfl) (fun i hi e => by
    unfold owH at e
    by_cases q : n ≤ i
    · rw [if_pos q] at e; omega
    · rw [if_neg q] at e; exact ⟨by omega, e⟩)
theorem SZ_holec {h2 : Nat → Int64} {f : Nat} {t : Int64} {s : Nat} (m : Nat) (hh : ∀ i, i < n → h2 i = h i) (z : SZc h n ow kd Fv P f t s) : SZc h2 (n + m) (owH n ow) kd Fv P f t s := SZ_ownc (by omega) (fun i hi _ => hh i hi) (fun i hi _ => if_neg (by omega)) (fun _ _ _ => rfl) (fun _ _ q => q) (fun _ q => q) z
theorem HP_putc (g : HPc h n ow kd Fv P) {h2 : Nat → Int64} {m k : Nat} {x : Int64} (hh : ∀ i, ¬ (k ≤ i ∧ i < k + m) → h2 i = h i) (hkm : k + m ≤ n) (hno : ∀ j, j < m → k + j < ow (k + j)) (hx : isH x) (h0 : 0 ≤ va x) (hv : vn x = k) (hb : blk h2 x = m)
    (b2 : so x = 5 → HDCc (h2 k)) (b3 : so x = 3 → 0 ≤ va (h2 (k + 1)) ∧ Fv (h2 k) (h2 (k + 1)))
    (hp : ∀ j, prt x ≤ j → j < m → GT n ow kd P (h2 (k + j)))
    (hs : (so x = 5 ∧ m = 3 ∧ ¬ isH (h2 (k + 1))) ∨ ∀ f c, (∀ j, prt x ≤ j → j < m → SZc h n ow kd Fv P f (h2 (k + j)) (c j)) → m + smm c (prt x) (m - prt x) ≤ 500) :
    ∃ ow2 kd2, (∀ i, i < n → ow i ≤ i → ow2 i = ow i) ∧ (∀ i, i < n → ow i ≤ i → kd2 i = kd i) ∧ (∀ i, ¬ (k ≤ i ∧ i < k + m) → ow2 i = ow i) ∧ HPc h2 n ow2 kd2 Fv P ∧ GT n ow2 kd2 P x ∧ (∀ f t s, SZc h n ow kd Fv P f t s → SZc h2 n ow2 kd2 Fv P f t s) ∧ ∀ f c, (∀ j, prt x ≤ j → j < m → SZc h n ow kd Fv P f (h2 (k + j)) (c j)) → SZc h2 n ow2 kd2 Fv P (f + 1) x (m + smm c (prt x) (m - prt x)) := by
  have mp : 0 < m := by rw [← hb]; exact blk_pos hx
  have sx : 0 ≤ so x := by rcases hx with e | e | e <;> omega
  have out : ∀ i, i < n → ow i ≤ i → ¬ (k ≤ i ∧ i < k + m) := fun i _ q z => by
    have := hno (i - k) (by omega)
    rw [show k + (i - k) = i from by omega] at this
    omega
  have ho : ∀ i, i < n → ow i ≤ i → (fun i => if k ≤ i ∧ i < k + m then k else ow i) i = ow i := fun i a b => if_neg (out i a b)
  have hk : ∀ i, i < n → ow i ≤ i → (fun i => if i = k then (so x).toNat else kd i) i = kd i := fun i a b => if_neg (fun z => out i a b (by omega))
  have ext : ∀ f t s, SZc h n ow kd Fv P f t s → SZc h2 n (fun i => if k ≤ i ∧ i < k + m then k else ow i) (fun i => if i = k then (so x).toNat else kd i) Fv P f t s := fun f t s z =>
    SZ_ownc (Nat.le_refl _) (fun i a b => hh i (out i a b)) ho hk (fun _ _ q => q) (fun _ q => q) z
  have bkt : ∀ t : Int64, isH t → 0 ≤ va t → vn t = k → so t = so x → BKc h2 n (fun i => if k ≤ i ∧ i < k + m then k else ow i) (fun i => if i = k then (so x).toNat else kd i) Fv t ∧ blk h2 t = m ∧ prt t = prt x := fun t _ t0 tv ts => by
    have eb : blk h2 t = m := by rw [← hb]; unfold blk; rw [ts, tv, hv]
    refine ⟨⟨t0, by rw [tv, ts]; exact b2, by rw [tv, ts]; exact b3, by rw [eb, tv]; exact hkm, ?_, ?_⟩, eb, prt_so ts⟩
    · show ((if vn t = k then (so x).toNat else kd (vn t) : Nat) : Int) = so t
      rw [if_pos tv, ts]; omega
    · rw [eb]
      intro j hj
      show (if k ≤ vn t + j ∧ vn t + j < k + m then k else _) = vn t
      rw [if_pos (by omega), tv]
  have szx : ∀ t : Int64, isH t → 0 ≤ va t → vn t = k → so t = so x → ∀ f c, (∀ j, prt x ≤ j → j < m → SZc h n ow kd Fv P f (h2 (k + j)) (c j)) → SZc h2 n (fun i => if k ≤ i ∧ i < k + m then k else ow i) (fun i => if i = k then (so x).toNat else kd i) Fv P (f + 1) t (m + smm c (prt x) (m - prt x)) := fun t th t0 tv ts f c hc => by
    obtain ⟨q1, q2, q3⟩ := bkt t th t0 tv ts
    exact Or.inr ⟨th, q1, c, by rw [q2, q3, tv]; exact fun j a b => ext _ _ _ (hc j a b), by rw [q2, q3]⟩
  obtain ⟨f0, c0, hc0⟩ := SZ_allc (h := h) (n := n) (ow := ow) (kd := kd) (Fv := Fv) (P := P) (m := m - prt x) (q := fun j => h2 (k + (prt x + j))) (fun j hj => HP_szc g (hp (prt x + j) (by omega) (by omega)))
  have hc1 : ∀ j, prt x ≤ j → j < m → SZc h n ow kd Fv P f0 (h2 (k + j)) ((fun j => c0 (j - prt x)) j) := fun j h1 h2' => by
    have := hc0 (j - prt x) (by omega)
    rw [show prt x + (j - prt x) = j from by omega] at this
    exact this
  refine ⟨_, _, ho, hk, fun i hi => if_neg hi, ?_, BK_gtc hx (bkt x hx h0 hv rfl).1, ext, szx x hx h0 hv rfl⟩
  intro t ht gt
  rcases gt with ⟨z, -⟩ | ⟨-, g1, g2, g3, g4⟩
  · exact absurd ht z
  by_cases e : vn t = k
  · have e2 : so t = so x := by
      have := g4
      simp only [if_pos e] at this
      omega
    have sz2 := szx t ht g1 e e2 f0 _ hc1
    obtain ⟨q1, q2, q3⟩ := bkt t ht g1 e e2
    refine ⟨_, _, sz2, fun h5 => ?_⟩
    rcases hs with ⟨s1, s2, s3⟩ | hs
    · exact ⟨by rw [e2]; exact s1, by rw [q2]; exact s2, by rw [e]; exact s3⟩
    · have := hs f0 _ hc1; omega
  · have e1 : ow (vn t) = vn t := by
      have := g3
      by_cases q : k ≤ vn t ∧ vn t < k + m
      · simp only [if_pos q] at this; omega
      · simp only [if_neg q] at this; exact this
    have e2 : (kd (vn t) : Int) = so t := by have := g4; simp only [if_neg e] at this; exact this
    have gt0 : GT n ow kd P t := Or.inr ⟨ht, g1, g2, e1, e2⟩
    obtain ⟨f, s, z1, z2⟩ := g t ht gt0
    refine ⟨f, s, ext _ _ _ z1, fun h5 => ?_⟩
    obtain ⟨r1, r2, r3⟩ := z2 h5
    have b := (HP_bkc g ht gt0).1
    have b6 := b.2.2.2.2.2
    have b4 := b.2.2.2.1
    have o1 := b6 1 (by omega)
    refine ⟨r1, ?_, by rw [hh _ (out _ (by omega) (by omega))]; exact r3⟩
    have q2' := r2
    unfold blk at q2' ⊢
    rw [r1] at q2' ⊢
    simp at q2' ⊢
    rw [hh _ (out _ g2 (by omega))]; exact q2'
end
end
section
set_option maxRecDepth 100000
theorem tagI (t : Int64) : (t >>> ((32 : Int32).toInt64 &&& 63)).toInt32 = I (so t) := I_of _
theorem valI (t : Int64) : t.toInt32 = I (va t) := I_of _
theorem m1I : (-1 : Int32) = I (-1) := rfl
section
variable {α β : Type} {Q : MS → α → Prop} {u v w : MS} {N : Nat}
theorem e_in {x : Int} {n : Nat} {y : Option (MS × α)} (h : 0 ≤ x ∧ x < n) (hn : n ≤ 2147483647) (q : OK Q y) : OK Q (ck (inb (I x) n) y) := ok_ck.mpr ⟨(I_inb (by omega) (by omega)).mpr h, q⟩
theorem tnI {x : Int} {n : Nat} (h : x = ((n : Nat) : Int)) (hn : n < 2147483648) : (I x).toNatClampNeg = n := by
  rw [I_tn (by omega) (by omega), h]; exact Int.toNat_natCast n
theorem e_tag {t : Int64} : hm_Te_tag N u t = some (u, I (so t)) := by unfold hm_Te_tag hb_Te_tag_0; rw [tagI]
theorem e_make {s x : Int} : hm_Te_make N u (I s) (I x) = some (u, mk s x) := rfl
theorem nh_so {t : Int64} (h : so t ≠ 3 ∧ so t ≠ 5 ∧ so t ≠ 7) : ¬ isH t := by unfold isH; omega
end
section
variable {h : Nat → Int64} {n N b : Nat} {ow kd : Nat → Nat} {Fv : Int64 → Int64 → Prop} {P : Int64 → Prop} {u : MS} {t : Int64}
theorem vn_e {t : Int64} (h : 0 ≤ va t) : va t = ((vn t : Nat) : Int) := by unfold vn; omega
theorem BK_ge (z : isH t) : 1 ≤ blk h t := blk_pos z
theorem cellsAt_h (hh : u.2.2.2 b = h) (hn : n ≤ 512) (z : isH t) (k : BKc h n ow kd Fv t) : hm_Te_cellsAt N u b t = some (u, I (blk h t)) := by
  obtain ⟨k1, k2, k3, k4, k5, k6⟩ := k
  have hb := blk_pos (h := h) z
  have hv : va t = ((vn t : Nat) : Int) := by unfold vn; omega
  unfold hm_Te_cellsAt hb_Te_cellsAt_0 hb_Te_cellsAt_49
  rw [tagI, valI, hh]
  show br (decide (I (so t) = 7)) _ _ = _
  have hr := so_r t
  rw [I_lit (n := 7), I_lit (n := 5), I_lit (n := 3), decE hr.1 hr.2 (by decide) (by decide), decE hr.1 hr.2 (by decide) (by decide), decE hr.1 hr.2 (by decide) (by decide)]
  have z7 : (OfNat.ofNat 7 : Int) = 7 := rfl
  have z5 : (OfNat.ofNat 5 : Int) = 5 := rfl
  have z3 : (OfNat.ofNat 3 : Int) = 3 := rfl
  rw [z7, z5, z3]
  rcases z with z | z | z
  · rw [decide_eq_false (by omega), decide_eq_false (by omega), decide_eq_true z, br_fq, br_fq, br_tq]
    have e : blk h t = 2 + vn (h (vn t + 1)) := by unfold blk; rw [if_neg (by omega), if_neg (by omega), if_pos z]
    have k3 := k3 z
    have hw : va (h (vn t + 1)) = ((vn (h (vn t + 1)) : Nat) : Int) := vn_e k3.1
    rw [I_lit (n := 1), I_add, hv, tnI (n := vn t + 1) (by show _ + (1 : Int) = _; omega) (by omega), valI, I_lit (n := 2), I_add]
    rw [(I_inb (by show _ ≤ _ + (1 : Int); omega) (by show _ + (1 : Int) < _; omega)).mpr ⟨by show 0 ≤ _ + (1 : Int); omega, by show _ + (1 : Int) < _; omega⟩, ck_t, hw, e]
    congr 3
    show _ + (2 : Int) = _
    omega
  · rw [decide_eq_false (by omega), decide_eq_true z, br_fq, br_tq]
    have e : blk h t = 1 + vn (h (vn t)) := by unfold blk; rw [if_neg (by omega), if_pos z]
    have k2 := k2 z
    have hw : va (h (vn t)) = ((vn (h (vn t)) : Nat) : Int) := vn_e k2.1
    rw [hv, tnI (n := vn t) rfl (by omega), valI, I_lit (n := 1), I_add, (I_inb (by omega) (by omega)).mpr ⟨by omega, by omega⟩, ck_t, hw, e]
    congr 3
    show _ + (1 : Int) = _
    omega
  · rw [decide_eq_true z, br_tq]
    have e : blk h t = 2 := by unfold blk; rw [if_pos z]
    rw [e]; rfl
theorem cellsAt_n (z : ¬ isH t) : hm_Te_cellsAt N u b t = some (u, 0) := by
  unfold hm_Te_cellsAt hb_Te_cellsAt_0 hb_Te_cellsAt_49
  rw [tagI]
  show br (decide (I (so t) = 7)) _ _ = _
  have hr := so_r t
  rw [I_lit (n := 7), I_lit (n := 5), I_lit (n := 3), decE hr.1 hr.2 (by decide) (by decide), decE hr.1 hr.2 (by decide) (by decide), decE hr.1 hr.2 (by decide) (by decide)]
  unfold isH at z
  rw [decide_eq_false (show ¬ so t = (OfNat.ofNat 7 : Int) from fun y => z (Or.inr (Or.inr y))), decide_eq_false (show ¬ so t = (OfNat.ofNat 5 : Int) from fun y => z (Or.inr (Or.inl y))), decide_eq_false (show ¬ so t = (OfNat.ofNat 3 : Int) from fun y => z (Or.inl y)), br_fq, br_fq, br_fq]
end
end
section
set_option maxRecDepth 100000
section
variable {h : Nat → Int64} {n N b : Nat} {ow kd : Nat → Nat} {Fv : Int64 → Int64 → Prop} {P : Int64 → Prop} {u v w : MS} {t : Int64}
theorem smm_add {c : Nat → Nat} {a : Nat} : ∀ {x y : Nat}, smm c a (x + y) = smm c a x + smm c (a + x) y
  | x, 0 => by rfl
  | x, y + 1 => by
    show smm c a (x + y) + c (a + (x + y)) = smm c a x + (smm c (a + x) y + c (a + x + y))
    rw [smm_add, show a + (x + y) = a + x + y by omega]; omega
theorem FRj {is ls as js : List Nat} {u w : MS} (f : FR is ls as js u w) {k : Nat} (hk : k ∉ js) : w.2.2.2 k = u.2.2.2 k := f.2.2.2 k hk
theorem wj_row {k i : Nat} {x : Int64} {j : Nat} : (wj u k i x).2.2.2 k j = if j = i then x else u.2.2.2 k j := by
  rw [J_wj, if_pos rfl]
def STKc (h : Nat → Int64) (n : Nat) (ow kd : Nat → Nat) (Fv : Int64 → Int64 → Prop) (P : Int64 → Prop) (u : MS) (c : Nat → Nat) (top : Nat) : Prop := ∀ j, j < top → (∃ f, SZc h n ow kd Fv P f (u.2.2.2 45 j) (c j)) ∧ (top = 1 ∨ isH (u.2.2.2 45 j))
theorem SZ_blkc {f s : Nat} (z : SZc h n ow kd Fv P f t s) (ht : isH t) : ∃ f2 c, BKc h n ow kd Fv t ∧ (∀ j, prt t ≤ j → j < blk h t → SZc h n ow kd Fv P f2 (h (vn t + j)) (c j)) ∧ s = blk h t + smm c (prt t) (blk h t - prt t) := by
  cases f with
  | zero => exact z.elim
  | succ f =>
    rcases z with z | ⟨-, z2, c, z3, z4⟩
    · exact absurd ht z.1
    · exact ⟨f, c, z2, z3, z4⟩
theorem SZ_nhc {f s : Nat} (z : SZc h n ow kd Fv P f t s) (ht : ¬ isH t) : s = 0 := by
  cases f with
  | zero => exact z.elim
  | succ f =>
    rcases z with z | z
    · exact z.2.2
    · exact absurd z.1 ht
theorem SZ_posc {f s : Nat} (z : SZc h n ow kd Fv P f t s) (ht : isH t) : 1 ≤ s := by
  obtain ⟨f2, c, -, -, e⟩ := SZ_blkc z ht
  have := blk_pos (h := h) ht
  omega
theorem head_nh (k : BKc h n ow kd Fv t) (ht : isH t) (hF : ∀ a b, Fv a b → so a = 8 ∧ so b = 8) {j : Nat} (hj : j < prt t) : ¬ isH (h (vn t + j)) := by
  obtain ⟨k1, k2, k3, -⟩ := k
  apply nh_so
  rcases ht with z | z | z
  · have hp : prt t = 2 := by unfold prt; rw [if_neg (by omega), if_neg (by omega)]
    have := hF _ _ (k3 z).2
    rcases (show j = 0 ∨ j = 1 by omega) with rfl | rfl
    · rw [Nat.add_zero]; omega
    · omega
  · have hp : prt t = 1 := by unfold prt; rw [if_neg (by omega), if_pos z]
    have := (k2 z).2
    rw [show j = 0 by omega, Nat.add_zero]; omega
  · have hp : prt t = 0 := by unfold prt; rw [if_pos z]
    omega
theorem smm_le_mono {c : Nat → Nat} {a : Nat} : ∀ {x y : Nat}, x ≤ y → smm c a x ≤ smm c a y
  | x, 0, hh => by rw [show x = 0 by omega]; exact Nat.le_refl _
  | x, y + 1, hh => by
    by_cases e : x = y + 1
    · rw [e]; exact Nat.le_refl _
    · exact Nat.le_trans (smm_le_mono (y := y) (by omega)) (Nat.le_add_right _ _)
theorem stk_top {c : Nat → Nat} {top : Nat} (hs : STKc h n ow kd Fv P u c top) : top ≤ 1 + smm c 0 top := by
  by_cases e : top ≤ 1
  · omega
  · have : ∀ k, k ≤ top → k ≤ smm c 0 k := by
      intro k
      induction k with
      | zero => intro _; exact Nat.zero_le _
      | succ k ih =>
        intro hk
        obtain ⟨⟨f, z⟩, y⟩ := hs k (by omega)
        have := SZ_posc z (y.resolve_left (by omega))
        have := ih (by omega)
        show k + 1 ≤ smm c 0 k + c (0 + k)
        rw [Nat.zero_add]; omega
    have := this top (Nat.le_refl _)
    omega
def wgt (d : Nat → Nat) (p : Nat) : Nat → Nat := fun j => if j < p then 0 else d j
theorem wgt_0 {d : Nat → Nat} {p : Nat} : ∀ {k : Nat}, k ≤ p → smm (wgt d p) 0 k = 0
  | 0, _ => rfl
  | k + 1, hk => by
    show smm (wgt d p) 0 k + wgt d p (0 + k) = 0
    rw [wgt_0 (by omega), Nat.zero_add]
    exact if_pos (by omega)
theorem wgt_sum {d : Nat → Nat} {p m : Nat} (h : p ≤ m) : smm (wgt d p) 0 m = smm d p (m - p) := by
  have e : m = p + (m - p) := by omega
  have e2 := smm_add (c := wgt d p) (a := 0) (x := p) (y := m - p)
  rw [← e, wgt_0 (Nat.le_refl _), Nat.zero_add, Nat.zero_add] at e2
  rw [e2]
  exact smm_eq (fun j h1 _ => if_neg (by omega))
theorem smm_cut {c : Nat → Nat} {i m : Nat} (h : i < m) : smm c i (m - i) = c i + smm c (i + 1) (m - (i + 1)) := by
  have := smm_add (c := c) (a := i) (x := 1) (y := m - (i + 1))
  rw [show 1 + (m - (i + 1)) = m - i by omega] at this
  rw [this]
  show 0 + c (i + 0) + _ = _
  rw [Nat.add_zero, Nat.zero_add]
theorem GT_of_sz {f s : Nat} (z : SZc h n ow kd Fv P f t s) : GT n ow kd P t := SZ_gtc z
theorem size_loop {s : Nat} {u0 : MS} (hb : b ≠ 45) (hh : u0.2.2.2 b = h) (hn : n ≤ 512) (hF : ∀ a b, Fv a b → so a = 8 ∧ so b = 8) (hs : s ≤ 1900) : ∀ M : Nat,
    (∀ (w : MS) (tot top cn : Nat) (c : Nat → Nat), FR [] [] [] [45] u0 w → STKc h n ow kd Fv P w c top → tot + smm c 0 top = s → cn ≤ tot + (if top = 0 then 2000 else 0) → 3 * smm c 0 top + 2 * top + 3 ≤ M → OK (fun w r => FR [] [] [] [45] u0 w ∧ r = I s) ((hg_Te_size N M).1 w b (I tot) (I top) (I cn))) ∧
    (∀ (w : MS) (x : Int64) (tot top cn i : Nat) (c d : Nat → Nat), FR [] [] [] [45] u0 w → isH x → BKc h n ow kd Fv x → (∃ f, ∀ j, prt x ≤ j → j < blk h x → SZc h n ow kd Fv P f (h (vn x + j)) (d j)) → (∀ j, j < top → (∃ f, SZc h n ow kd Fv P f (w.2.2.2 45 j) (c j)) ∧ isH (w.2.2.2 45 j)) → i ≤ blk h x → tot + smm c 0 top + smm (wgt d (prt x)) i (blk h x - i) = s → cn + 1 ≤ tot → 3 * smm c 0 top + 2 * top + 3 * smm (wgt d (prt x)) i (blk h x - i) + 3 * (blk h x - i) + 4 ≤ M → OK (fun w r => FR [] [] [] [45] u0 w ∧ r = I s) ((hg_Te_size N M).2 w b (I tot) (I top) (I cn) (I (va x)) (I (blk h x)) (I i))) := by
  intro M
  induction M with
  | zero => exact ⟨fun w tot top cn c _ _ _ _ hM => by omega, fun w x tot top cn i c d _ _ _ _ _ _ _ _ hM => by omega⟩
  | succ M ih =>
    refine ⟨fun w tot top cn c f hst hsum hcn hM => ?_, fun w x tot top cn i c d f hx hk hd hst hi hsum hcn hM => ?_⟩
    · show OK _ (hb_Te_size_16 N (hg_Te_size N M) w b (I tot) (I top) (I cn))
      have ht := stk_top hst
      unfold hb_Te_size_16 hb_Te_size_140
      have hw : w.2.2.2 b = h := by rw [FRj f (by simpa using hb)]; exact hh
      rw [I_lit (n := 1000000000), m1I, lit0q]
      have hcn2 : cn ≤ 10000 := by split at hcn <;> omega
      refine k_le ⟨by decide, by decide⟩ ⟨by omega, by omega⟩ (fun y => ?_) (fun _ => ?_)
      · exact absurd y (by show ¬ (1000000000 : Int) ≤ _; omega)
      refine k_le ⟨by omega, by omega⟩ ⟨by decide, by decide⟩ (fun y => ?_) (fun y => ?_)
      · have e0 : top = 0 := by omega
        subst e0
        refine ok_some.mpr ⟨f, ?_⟩
        have : smm c 0 0 = 0 := rfl
        rw [show tot = s by omega]
      · have e1 : I ((top : Int)) + I (-1) = I (((top - 1 : Nat) : Int)) := by rw [I_add]; congr 1; omega
        rw [e1]
        refine e_in ⟨by omega, by omega⟩ (by decide) (e_in ⟨by omega, by omega⟩ (by decide) ?_)
        rw [tnI (n := top - 1) rfl (by omega)]
        obtain ⟨⟨fz, z⟩, hor⟩ := hst (top - 1) (by omega)
        have hsplit : smm c 0 top = smm c 0 (top - 1) + c (top - 1) := by
          have := smm_add (c := c) (a := 0) (x := top - 1) (y := 1)
          rw [show top - 1 + 1 = top by omega] at this
          rw [this]
          show _ + (0 + c (0 + (top - 1) + 0)) = _
          rw [Nat.zero_add, Nat.zero_add, Nat.add_zero]
        have hcn3 : cn ≤ tot := by have := hcn; rw [if_neg (show ¬ top = 0 by omega)] at this; omega
        by_cases hx : isH (w.2.2.2 45 (top - 1))
        · obtain ⟨f2, d, k1, k2, k3⟩ := SZ_blkc z hx
          have hbp := blk_pos (h := h) hx
          have hbl := k1.2.2.2.1
          rw [cellsAt_h hw hn hx k1, bnd_so, I_add, valI, show (0 : Int) = ((0 : Nat) : Int) from rfl, show ((tot : Nat) : Int) + ((blk h (w.2.2.2 45 (top - 1)) : Nat) : Int) = ((tot + blk h (w.2.2.2 45 (top - 1)) : Nat) : Int) by omega]
          have hp := prt_le (h := h) hx
          have hwg := wgt_sum (d := d) hp
          refine ih.2 w (w.2.2.2 45 (top - 1)) _ (top - 1) cn 0 c d f hx k1 ⟨f2, k2⟩ (fun j hj => ?_) (Nat.zero_le _) ?_ ?_ ?_
          · obtain ⟨a, a2⟩ := hst j (by omega)
            exact ⟨a, a2.resolve_left (by omega)⟩
          · rw [Nat.sub_zero]; omega
          · omega
          · rw [Nat.sub_zero]; omega
        · have e0 := SZ_nhc z hx
          have et : top = 1 := hor.resolve_right hx
          rw [cellsAt_n hx, bnd_so, lit0q, I_add, valI, Int.add_zero]
          subst et
          cases M with
          | zero => omega
          | succ M2 =>
            show OK _ (hb_Te_size_64 N (hg_Te_size N M2) w b (I tot) (I ((1 - 1 : Nat) : Int)) (I cn) (I (va (w.2.2.2 45 (1 - 1)))) (I 0) (I 0))
            unfold hb_Te_size_64 hb_Te_size_134
            refine k_le ⟨by decide, by decide⟩ ⟨by decide, by decide⟩ (fun _ => ?_) (fun y => absurd y (by decide))
            rw [lit1q, I_add]
            cases M2 with
            | zero => omega
            | succ M3 =>
              show OK _ (hb_Te_size_16 N (hg_Te_size N M3) w b (I tot) (I ((1 - 1 : Nat) : Int)) (I _))
              unfold hb_Te_size_16 hb_Te_size_140
              rw [I_lit (n := 1000000000), m1I, lit0q]
              refine k_le ⟨by decide, by decide⟩ ⟨by omega, by omega⟩ (fun y => ?_) (fun _ => ?_)
              · exact absurd y (by show ¬ (1000000000 : Int) ≤ _; omega)
              refine k_le ⟨by decide, by decide⟩ ⟨by decide, by decide⟩ (fun _ => ?_) (fun y => absurd y (by decide))
              refine ok_some.mpr ⟨f, ?_⟩
              have h0 : smm c 0 (1 - 1) = 0 := rfl
              rw [show tot = s by omega]
    · show OK _ (hb_Te_size_64 N (hg_Te_size N M) w b (I tot) (I top) (I cn) (I (va x)) (I (blk h x)) (I i))
      have hw : w.2.2.2 b = h := by rw [FRj f (by simpa using hb)]; exact hh
      have hbl := hk.2.2.2.1
      have hvx := vn_e hk.1
      have hp := prt_le (h := h) hx
      obtain ⟨fd, hd⟩ := hd
      have ht : top ≤ smm c 0 top + 1 := by
        have := stk_top (h := h) (n := n) (ow := ow) (kd := kd) (Fv := Fv) (P := P) (u := w) (c := c) (top := top) (fun j hj => ⟨(hst j hj).1, Or.inr (hst j hj).2⟩)
        omega
      unfold hb_Te_size_64 hb_Te_size_134 hb_Te_size_128 hb_Te_size_111
      have stepN : ∀ w2 : MS, FR [] [] [] [45] u0 w2 → (∀ j, j < top → w2.2.2.2 45 j = w.2.2.2 45 j) → i < blk h x → wgt d (prt x) i = 0 → OK (fun w r => FR [] [] [] [45] u0 w ∧ r = I s) ((hg_Te_size N M).2 w2 b (I tot) (I top) (I cn) (I (va x)) (I (blk h x)) (I i + 1)) := by
        intro w2 f2 e2 hi2 h0
        rw [lit1q, I_add, show ((i : Nat) : Int) + 1 = ((i + 1 : Nat) : Int) by omega]
        have hc := smm_cut (c := wgt d (prt x)) hi2
        refine ih.2 w2 x tot top cn (i + 1) c d f2 hx hk ⟨fd, hd⟩ (fun j hj => by rw [e2 j hj]; exact hst j hj) (by omega) (by omega) hcn (by omega)
      refine k_le ⟨by omega, by omega⟩ ⟨by omega, by omega⟩ (fun y => ?_) (fun y => ?_)
      · have ei : i = blk h x := by omega
        subst ei
        rw [lit1q, I_add, show ((cn : Nat) : Int) + 1 = ((cn + 1 : Nat) : Int) by omega]
        have h0 : smm (wgt d (prt x)) (blk h x) (blk h x - blk h x) = 0 := by rw [Nat.sub_self]; rfl
        refine ih.1 w tot top (cn + 1) c f (fun j hj => ⟨(hst j hj).1, Or.inr (hst j hj).2⟩) (by omega) ?_ (by omega)
        split <;> omega
      · have hi2 : i < blk h x := by omega
        rw [I_lit (n := 2048)]
        refine k_le ⟨by decide, by decide⟩ ⟨by omega, by omega⟩ (fun y => absurd y (by show ¬ (2048 : Int) ≤ _; omega)) (fun _ => ?_)
        rw [I_add, hvx, show ((vn x : Nat) : Int) + ((i : Nat) : Int) = ((vn x + i : Nat) : Int) by omega]
        refine e_in ⟨by omega, by omega⟩ (by decide) (ok_lt.mpr ?_)
        rw [tnI (n := vn x + i) rfl (by omega), hw, tagI]
        have hr := so_r (h (vn x + i))
        have push : isH (h (vn x + i)) → OK (fun w r => FR [] [] [] [45] u0 w ∧ r = I s) (ck (inb (I ((vn x + i : Nat) : Int)) 512) (ck (inb (I (top : Int)) 2048) (lt (upJ w 45 (vp_updL (w.2.2.2 45) (I (top : Int)).toNatClampNeg (h (vn x + i)))) fun w5 => (hg_Te_size N M).2 w5 b (I tot) (I (top : Int) + 1) (I cn) (I (vn x : Int)) (I (blk h x : Int)) (I (i : Int) + 1)))) := by
          intro hy
          have hip : prt x ≤ i := by
            by_cases e : prt x ≤ i
            · exact e
            · exact absurd hy (head_nh hk hx hF (by omega))
          refine e_in ⟨by omega, by omega⟩ (by decide) (e_in ⟨by omega, by omega⟩ (by decide) (ok_lt.mpr ?_))
          rw [tnI (n := top) rfl (by omega), wj_e, lit1q, I_add, I_add, show ((i : Nat) : Int) + 1 = ((i + 1 : Nat) : Int) by omega, show ((top : Nat) : Int) + 1 = ((top + 1 : Nat) : Int) by omega, ← hvx]
          have hc := smm_cut (c := wgt d (prt x)) hi2
          have hwi : wgt d (prt x) i = d i := if_neg (by omega)
          have hsm : smm (fun j => if j = top then d i else c j) 0 (top + 1) = smm c 0 top + d i := by
            show smm _ 0 top + (if 0 + top = top then d i else c (0 + top)) = _
            rw [if_pos (by omega), smm_eq (d := c) (fun j _ h2 => if_neg (by omega))]
          have hpos := SZ_posc (hd i hip hi2) hy
          refine ih.2 _ x tot (top + 1) cn (i + 1) (fun j => if j = top then d i else c j) d (FR.wj f (by decide)) hx hk ⟨fd, hd⟩ (fun j hj => ?_) (by omega) (by rw [hsm]; omega) hcn (by rw [hsm]; omega)
          rw [wj_row]
          by_cases e : j = top
          · rw [if_pos e, if_pos e]; exact ⟨⟨fd, hd i hip hi2⟩, hy⟩
          · rw [if_neg e, if_neg e]; exact hst j (by omega)
        rw [I_lit (n := 7), I_lit (n := 5), I_lit (n := 3)]
        refine k_eq hr ⟨by decide, by decide⟩ (fun y => push (Or.inr (Or.inr y))) (fun y7 => ?_)
        refine k_eq hr ⟨by decide, by decide⟩ (fun y => push (Or.inr (Or.inl y))) (fun y5 => ?_)
        refine k_eq hr ⟨by decide, by decide⟩ (fun y => push (Or.inl y)) (fun y3 => ?_)
        have hnh : ¬ isH (h (vn x + i)) := by
          intro hy
          rcases hy with hy | hy | hy
          · exact y3 hy
          · exact y5 hy
          · exact y7 hy
        rw [← hvx]
        refine stepN w f (fun _ _ => rfl) hi2 ?_
        unfold wgt
        by_cases e : i < prt x
        · exact if_pos e
        · rw [if_neg e]
          exact SZ_nhc (hd i (by omega) hi2) hnh
theorem size_ok {f s : Nat} (hb : b ≠ 45) (hh : u.2.2.2 b = h) (hn : n ≤ 512) (hF : ∀ a b, Fv a b → so a = 8 ∧ so b = 8) (hs : s ≤ 1900) (z : SZc h n ow kd Fv P f t s) (hN : 6000 ≤ N) : OK (fun w r => FR [] [] [] [45] u w ∧ r = I s) (hm_Te_size N u b t) := by
  unfold hm_Te_size hb_Te_size_0
  refine e_in (x := 0) ⟨by decide, by decide⟩ (by decide) (ok_lt.mpr ?_)
  rw [show (0 : Int32).toNatClampNeg = 0 from rfl, wj_e, lit0q, lit1q, show (0 : Int) = ((0 : Nat) : Int) from rfl, show (1 : Int) = ((1 : Nat) : Int) from rfl]
  have e1 : smm (fun _ => s) 0 1 = s := by show 0 + s = s; omega
  refine (size_loop (N := N) (u0 := u) (b := b) (ow := ow) (kd := kd) (P := P) hb hh hn hF hs N).1 _ 0 1 0 (fun _ => s) (FR.wj FR.rf (by decide)) (fun j hj => ⟨⟨f, ?_⟩, Or.inl rfl⟩) (by rw [e1]; omega) (by split <;> omega) (by rw [e1]; omega)
  rw [wj_row, if_pos (by omega)]; exact z
end
end
section
set_option maxRecDepth 100000
def tlc (h : Nat → Int64) (t : Int64) : Nat → Int64
  | 0 => t
  | k + 1 => h (vn (tlc h t k) + 1)
theorem tlc_s {h : Nat → Int64} {t : Int64} : ∀ {k : Nat}, tlc h (h (vn t + 1)) k = tlc h t (k + 1)
  | 0 => rfl
  | k + 1 => by show h (vn (tlc h (h (vn t + 1)) k) + 1) = h (vn (tlc h t (k + 1)) + 1); rw [tlc_s]
section
variable {h : Nat → Int64} {n N b : Nat} {ow kd : Nat → Nat} {Fv : Int64 → Int64 → Prop} {P : Int64 → Prop} {u v w : MS} {t : Int64}
def LSTc (h : Nat → Int64) (n : Nat) (ow kd : Nat → Nat) (Fv : Int64 → Int64 → Prop) (P : Int64 → Prop) (t : Int64) (k : Nat) : Prop := so (tlc h t k) = 6 ∧ ∀ j, j < k → so (tlc h t j) = 7 ∧ BKc h n ow kd Fv (tlc h t j) ∧ ∃ f s, SZc h n ow kd Fv P f (tlc h t j) s
theorem ll_loop (hh : u.2.2.2 b = h) (hn : n ≤ 512) : ∀ (M s f cn : Nat) (t : Int64), SZc h n ow kd Fv P f t s → s < M → s ≤ 1900 → cn + s ≤ 10000 → OK (fun w r => w = u ∧ (r = I (-1) ∨ ∃ k : Nat, r = I ((cn + k : Nat) : Int) ∧ 2 * k ≤ s ∧ LSTc h n ow kd Fv P t k)) (hg_Te_listLength N M u b t (I cn)) := by
  intro M
  induction M with
  | zero => intro s f cn t z hm; omega
  | succ M ih =>
    intro s f cn t z hm hs hcn
    show OK _ (hb_Te_listLength_6 N (hg_Te_listLength N M) u b t (I cn))
    unfold hb_Te_listLength_6
    have hr := so_r t
    have fin : OK (fun w r => w = u ∧ (r = I (-1) ∨ ∃ k : Nat, r = I ((cn + k : Nat) : Int) ∧ 2 * k ≤ s ∧ LSTc h n ow kd Fv P t k)) (hb_Te_listLength_38 N (hg_Te_listLength N M) u t (I cn)) := by
      unfold hb_Te_listLength_38 hb_Te_listLength_54
      rw [e_tag, bnd_so, I_lit (n := 6)]
      refine k_eq hr ⟨by decide, by decide⟩ (fun y => ok_some.mpr ⟨rfl, Or.inr ⟨0, rfl, by omega, y, fun j hj => by omega⟩⟩) (fun _ => ok_some.mpr ⟨rfl, Or.inl rfl⟩)
    rw [I_lit (n := 1000000000)]
    refine k_le ⟨by decide, by decide⟩ ⟨by omega, by omega⟩ (fun _ => fin) (fun _ => ?_)
    rw [e_tag, bnd_so, I_lit (n := 7)]
    refine k_eq hr ⟨by decide, by decide⟩ (fun y => ?_) (fun _ => fin)
    have y7 : so t = 7 := y
    have hH : isH t := Or.inr (Or.inr y7)
    obtain ⟨f2, c, k1, k2, k3⟩ := SZ_blkc z hH
    have hb2 : blk h t = 2 := by unfold blk; rw [if_pos y7]
    have hp : prt t = 0 := by unfold prt; rw [if_pos y7]
    have hv := vn_e k1.1
    have hbl := k1.2.2.2.1
    rw [hb2, hp] at k3
    have e2 : smm c 0 (2 - 0) = c 0 + c 1 := by show 0 + c (0 + 0) + c (0 + 1) = _; simp
    rw [valI, lit1q, I_add, hv, show ((vn t : Nat) : Int) + 1 = ((vn t + 1 : Nat) : Int) by omega]
    refine e_in ⟨by omega, by omega⟩ (by decide) ?_
    rw [tnI (n := vn t + 1) rfl (by omega), hh, I_add, show ((cn : Nat) : Int) + 1 = ((cn + 1 : Nat) : Int) by omega]
    refine ok_mono (ih (c 1) f2 (cn + 1) (h (vn t + 1)) (k2 1 (by omega) (by omega)) (by omega) (by omega) (by omega)) (fun w r hw => ⟨hw.1, ?_⟩)
    rcases hw.2 with e | ⟨k, r1, r2, r3, r4⟩
    · exact Or.inl e
    · refine Or.inr ⟨k + 1, by rw [r1]; congr 1; omega, by omega, by rw [← tlc_s]; exact r3, fun j hj => ?_⟩
      cases j with
      | zero => exact ⟨y7, k1, f, s, z⟩
      | succ j => rw [← tlc_s]; exact r4 j (by omega)
theorem listLength_ok {f s : Nat} (hh : u.2.2.2 b = h) (hn : n ≤ 512) (z : SZc h n ow kd Fv P f t s) (hs : s ≤ 1900) (hN : 6000 ≤ N) : OK (fun w r => w = u ∧ (r = I (-1) ∨ ∃ k : Nat, r = I k ∧ 2 * k ≤ s ∧ LSTc h n ow kd Fv P t k)) (hm_Te_listLength N u b t) := by
  unfold hm_Te_listLength hb_Te_listLength_0
  rw [lit0q, show (0 : Int) = ((0 : Nat) : Int) from rfl]
  refine ok_mono (ll_loop (N := N) (ow := ow) (kd := kd) (Fv := Fv) (P := P) hh hn N s f 0 t z (by omega) hs (by omega)) (fun w r hw => ⟨hw.1, ?_⟩)
  rcases hw.2 with e | ⟨k, r1, r2⟩
  · exact Or.inl e
  · exact Or.inr ⟨k, by rw [r1, Nat.zero_add], r2⟩
end
def WDc (u : MS) (v : Nat) : Prop := 0 ≤ F u (20 * v + 2) ∧ F u (20 * v + 2) + 1 ≤ il (v + 2) ∧ il (v + 2) ≤ 100000 ∧ bl (v + 1) ≤ 100000 ∧ ∀ k : Nat, (k : Int) < F u (20 * v + 2) → 0 ≤ A u (v + 2) k ∧ A u (v + 2) k ≤ A u (v + 2) (k + 1) ∧ A u (v + 2) (k + 1) ≤ bl (v + 1)
section
variable {N : Nat} {u w : MS} {v : Nat}
theorem WDc_fr {is ls as js : List Nat} (h : WDc u v) (f : FR is ls as js u w) (h1 : 20 * v + 2 ∉ is) (h2 : v + 2 ∉ as) : WDc w v := by
  unfold WDc
  rw [FR.F f h1]
  simp only [FR.A f h2]
  exact h
theorem wsign_ok {a k : Int} (h : WDc u v) (ha : RG a) (hk : RG k) : OK (fun w _ => w = u) (hm_Wo_sign N u v (I a) (I k)) := by
  obtain ⟨h1, h2, h3, h3b, h4⟩ := h
  unfold hm_Wo_sign hb_Wo_sign_0 hb_Wo_sign_35
  simp only [I_F, I_A, lit0q, lit1q, I_add, I_sub]
  have non : OK (fun w _ => w = u) (some (u, (-1 : Int32))) := ok_some.mpr rfl
  refine k_lt ha ⟨by decide, by decide⟩ (fun _ => non) (fun a0 => k_le (FRG1 u _) ha (fun _ => non) (fun a1 => k_lt hk ⟨by decide, by decide⟩ (fun _ => non) (fun k0 => ?_)))
  have hr := ha.2
  obtain ⟨n, rfl⟩ : ∃ n : Nat, a = n := ⟨a.toNat, by omega⟩
  obtain ⟨g1, g2, g3⟩ := h4 n a1
  have hkr := hk.2
  refine e_in ⟨by omega, by omega⟩ (by omega) (e_in ⟨by omega, by omega⟩ (by omega) ?_)
  rw [show ((n : Nat) : Int) + 1 = ((n + 1 : Nat) : Int) by omega, tnI (n := n + 1) rfl (by omega), tnI (n := n) rfl (by omega)]
  refine k_lt hk ⟨by omega, by omega⟩ (fun k1 => e_in ⟨by omega, by omega⟩ (by omega) (e_in ⟨by omega, by omega⟩ (by omega) (ok_some.mpr rfl))) (fun _ => non)
theorem wlength_ok {a : Int} (h : WDc u v) (ha : RG a) : OK (fun w r => w = u ∧ ∃ k : Int, r = I k ∧ 0 ≤ k ∧ k ≤ 100000) (hm_Wo_length N u v (I a)) := by
  obtain ⟨h1, h2, h3, h3b, h4⟩ := h
  unfold hm_Wo_length hb_Wo_length_0 hb_Wo_length_12 hb_Wo_length_31
  simp only [I_F, I_A, lit0q, lit1q, I_add, I_sub]
  have non : OK (fun w r => w = u ∧ ∃ k : Int, r = I k ∧ 0 ≤ k ∧ k ≤ 100000) (some (u, I 0)) := ok_some.mpr ⟨rfl, 0, rfl, by omega, by omega⟩
  refine k_lt ha ⟨by decide, by decide⟩ (fun _ => non) (fun a0 => k_lt ha (FRG1 u _) (fun a1 => ?_) (fun _ => non))
  have hr := ha.2
  obtain ⟨n, rfl⟩ : ∃ n : Nat, a = n := ⟨a.toNat, by omega⟩
  obtain ⟨g1, g2, g3⟩ := h4 n a1
  refine e_in ⟨by omega, by omega⟩ (by omega) (e_in ⟨by omega, by omega⟩ (by omega) ?_)
  rw [show ((n : Nat) : Int) + 1 = ((n + 1 : Nat) : Int) by omega, tnI (n := n + 1) rfl (by omega), tnI (n := n) rfl (by omega)]
  exact ok_some.mpr ⟨rfl, _, rfl, by omega, by omega⟩
theorem wo_loop_c {a b : Nat} (h : WDc u v) (ha : (a : Int) < F u (20 * v + 2)) (hb : (b : Int) < F u (20 * v + 2)) : ∀ (M k : Nat), (k : Int) ≤ A u (v + 2) (a + 1) - A u (v + 2) a → (A u (v + 2) (a + 1) - A u (v + 2) a - k).toNat < M → OK (fun w _ => w = u) (hg_Wo_order N M u v (I a) (I b) (I (A u (v + 2) (a + 1) - A u (v + 2) a)) (I (A u (v + 2) (b + 1) - A u (v + 2) b)) (I k)) := by
  intro M
  have ha2 := h.2.2.2.2 a ha
  have hb2 := h.2.2.2.2 b hb
  obtain ⟨h1, h2, h3, h3b, h4⟩ := h
  induction M with
  | zero => intro k _ z; omega
  | succ M ih =>
    intro k hk hm
    show OK _ (hb_Wo_order_36 N (hg_Wo_order N M) u v _ _ _ _ _)
    unfold hb_Wo_order_36 hb_Wo_order_94
    refine k_le ⟨by omega, by omega⟩ ⟨by omega, by omega⟩ (fun _ => ok_some.mpr rfl) (fun k1 => k_le ⟨by omega, by omega⟩ ⟨by omega, by omega⟩ (fun _ => ok_some.mpr rfl) (fun k2 => ?_))
    rw [tnI (n := a) rfl (by omega), tnI (n := b) rfl (by omega), I_A (k := v + 2) (i := a), I_A (k := v + 2) (i := b), I_add, I_add]
    refine e_in ⟨by omega, by omega⟩ (by omega) (e_in ⟨by omega, by omega⟩ (by omega) (e_in ⟨by omega, by omega⟩ (by omega) (e_in ⟨by omega, by omega⟩ (by omega) (ok_br.mpr ⟨fun _ => ?_, fun _ => ok_some.mpr rfl⟩))))
    rw [lit1q, I_add, show ((k : Nat) : Int) + 1 = ((k + 1 : Nat) : Int) by omega]
    exact ih (k + 1) (by omega) (by omega)
theorem worder_ok {a b : Nat} (h : WDc u v) (ha : (a : Int) < F u (20 * v + 2)) (hb : (b : Int) < F u (20 * v + 2)) (hN : 200000 ≤ N) : OK (fun w _ => w = u) (hm_Wo_order N u v (I a) (I b)) := by
  have ha2 := h.2.2.2.2 a ha
  have hb2 := h.2.2.2.2 b hb
  have h' := h
  obtain ⟨h1, h2, h3, h3b, h4⟩ := h
  unfold hm_Wo_order hb_Wo_order_0
  simp only [I_A, lit0q, lit1q, I_add, I_sub]
  refine e_in ⟨by omega, by omega⟩ (by omega) (e_in ⟨by omega, by omega⟩ (by omega) (e_in ⟨by omega, by omega⟩ (by omega) (e_in ⟨by omega, by omega⟩ (by omega) ?_)))
  rw [tnI (n := a) rfl (by omega), tnI (n := b) rfl (by omega), tnI (n := a + 1) (by omega) (by omega), tnI (n := b + 1) (by omega) (by omega)]
  exact wo_loop_c (N := N) h' ha hb N 0 (by omega) (by omega)
end
def PT (u : MS) (t : Int64) : Prop := (so t = 0 ∨ so t = 1 ∨ so t = 2 ∨ so t = 4 ∨ so t = 6) ∧ (so t = 1 → 0 ≤ va t ∧ va t < F u 22)
def FVc (Fv : Int64 → Int64 → Prop) : Prop := (∀ a b, Fv a b → so a = 8 ∧ so b = 8) ∧ ∀ a b a2 b2, Fv a b → Fv a2 b2 → va a = va a2 → va b = va b2
section
variable {h : Nat → Int64} {n N b : Nat} {ow kd : Nat → Nat} {Fv : Int64 → Int64 → Prop} {P : Int64 → Prop} {u v w : MS} {t x y : Int64}
theorem GT_so (hP : ∀ t, P t → PT u t) (g : GT n ow kd P t) : 0 ≤ so t ∧ so t ≤ 7 := by
  rcases g with z | z
  · have := (hP t z.2).1; omega
  · have := z.1; unfold isH at this; omega
theorem cmpI {a c : Int} (ha : RG a) (hc : RG c) : OK (fun w r => w = u ∧ (r = 0 → a = c)) (hm_JI_compare N u (I a) (I c)) := by
  unfold hm_JI_compare hb_JI_compare_0 hb_JI_compare_19
  refine k_le hc ha (fun _ => k_eq ha hc (fun e => ok_some.mpr ⟨rfl, fun _ => e⟩) (fun _ => ok_some.mpr ⟨rfl, fun z => absurd z (by decide)⟩)) (fun _ => ok_some.mpr ⟨rfl, fun z => absurd z (by decide)⟩)
theorem orderAlone_ok (hh : u.2.2.2 b = h) (hn : n ≤ 512) (g : HPc h n ow kd Fv P) (hP : ∀ t, P t → PT u t) (hA : WDc u 1) (gx : GT n ow kd P x) (gy : GT n ow kd P y) (hN : 200000 ≤ N) : OK (fun w r => w = u ∧ (r = 0 → so x = so y ∧ (so x = 5 ∨ so x = 3 → va (h (vn x)) = va (h (vn y))))) (hm_Te_orderAlone N u b x y) := by
  unfold hm_Te_orderAlone hb_Te_orderAlone_0 hb_Te_orderAlone_62 hb_Te_orderAlone_107
  have hx := so_r x
  have hy := so_r y
  have vx := va_r x
  have vy := va_r y
  simp only [e_tag, bnd_so, valI]
  refine k_eq hx hy (fun e => ?_) (fun e => ?_)
  · rw [I_lit (n := 1), I_lit (n := 5), I_lit (n := 3), I_lit (n := 7)]
    refine k_eq hx ⟨by decide, by decide⟩ (fun e1 => ?_) (fun n1 => ?_)
    · have e1 : so x = 1 := e1
      refine k_eq vx vy (fun e2 => ok_some.mpr ⟨rfl, fun _ => ⟨e, fun z => by omega⟩⟩) (fun _ => ?_)
      have qx : PT u x := by
        rcases gx with z | z
        · exact hP x z.2
        · have := z.1; unfold isH at this; omega
      have qy : PT u y := by
        rcases gy with z | z
        · exact hP y z.2
        · have := z.1; unfold isH at this; omega
      have q1 := qx.2 e1
      have q2 := qy.2 (by omega)
      rw [vn_e q1.1, vn_e q2.1]
      refine ok_bnd.mpr (ok_mono (worder_ok (N := N) (a := vn x) (b := vn y) hA (by have := vn_e q1.1; show _ < F u 22; omega) (by have := vn_e q2.1; show _ < F u 22; omega) hN) (fun w r hw => ok_some.mpr ⟨hw, fun _ => ⟨e, fun z => by omega⟩⟩))
    · have heads : so x = 5 ∨ so x = 3 → OK (fun w r => w = u ∧ (r = 0 → so x = so y ∧ (so x = 5 ∨ so x = 3 → va (h (vn x)) = va (h (vn y))))) (hb_Te_orderAlone_75 N () u b (I (va x)) (I (va y))) := by
        intro hz
        have bx := (HP_bkc g (by unfold isH; omega) gx).1
        have bY := (HP_bkc g (t := y) (by unfold isH; omega) gy).1
        have px := blk_pos (h := h) (t := x) (by unfold isH; omega)
        have py := blk_pos (h := h) (t := y) (by unfold isH; omega)
        have b1 := bx.2.2.2.1
        have b2 := bY.2.2.2.1
        unfold hb_Te_orderAlone_75
        rw [vn_e bx.1, vn_e bY.1]
        refine e_in ⟨by omega, by omega⟩ (by decide) (e_in ⟨by omega, by omega⟩ (by decide) ?_)
        rw [tnI (n := vn x) rfl (by omega), tnI (n := vn y) rfl (by omega), hh, valI, valI]
        refine ok_bnd.mpr (ok_mono (cmpI (va_r _) (va_r _)) (fun w r hw => ok_some.mpr ⟨hw.1, fun z => ⟨e, fun _ => hw.2 z⟩⟩))
      refine k_eq hx ⟨by decide, by decide⟩ (fun e1 => heads (Or.inl e1)) (fun n5 => ?_)
      refine k_eq hx ⟨by decide, by decide⟩ (fun e1 => heads (Or.inr e1)) (fun n3 => ?_)
      have nn : ¬ (so x = 5 ∨ so x = 3) := fun z => z.elim n5 n3
      refine k_eq hx ⟨by decide, by decide⟩ (fun e1 => ok_some.mpr ⟨rfl, fun _ => ⟨e, fun z => absurd z nn⟩⟩) (fun n7 => ?_)
      exact ok_bnd.mpr (ok_mono (cmpI vx vy) (fun w r hw => ok_some.mpr ⟨hw.1, fun _ => ⟨e, fun z => absurd z nn⟩⟩))
  · refine ok_some.mpr ⟨rfl, fun z => ?_⟩
    have qx := GT_so hP gx
    have qy := GT_so hP gy
    rw [I_sub, lit0q, I_eq (by omega) (by omega) (by decide) (by decide)] at z
    exact absurd (by omega) e
theorem partsOf_e {k : Int} : hm_Te_partsOf N u t (I k) = some (u, I (k - (if so t = 5 then 1 else if so t = 3 then 2 else 0))) := by
  have hr := so_r t
  unfold hm_Te_partsOf hb_Te_partsOf_0 hb_Te_partsOf_28
  rw [e_tag, bnd_so, I_lit (n := 5), I_lit (n := 3), I_lit (n := 1), I_lit (n := 2), decE hr.1 hr.2 (by decide) (by decide), decE hr.1 hr.2 (by decide) (by decide), I_sub, I_sub]
  by_cases e5 : so t = 5
  · rw [decide_eq_true (show so t = OfNat.ofNat 5 from e5), br_tq, if_pos e5]
  · rw [decide_eq_false (show ¬ so t = OfNat.ofNat 5 from e5), br_fq, if_neg e5]
    by_cases e3 : so t = 3
    · rw [decide_eq_true (show so t = OfNat.ofNat 3 from e3), br_tq, if_pos e3]
    · rw [decide_eq_false (show ¬ so t = OfNat.ofNat 3 from e3), br_fq, if_neg e3]
      congr 3
      omega
theorem blk_same (hF : FVc Fv) (kx : BKc h n ow kd Fv x) (ky : BKc h n ow kd Fv y) (hx : isH x) (e : so x = so y) (e2 : so x = 5 ∨ so x = 3 → va (h (vn x)) = va (h (vn y))) : blk h x = blk h y := by
  unfold blk
  rw [← e]
  rcases hx with z | z | z
  · rw [if_neg (by omega), if_neg (by omega), if_pos z, if_neg (by omega), if_neg (by omega), if_pos z]
    have := hF.2 _ _ _ _ (kx.2.2.1 z).2 (ky.2.2.1 (by omega)).2 (e2 (Or.inr z))
    unfold vn at this ⊢
    rw [this]
  · rw [if_neg (by omega), if_pos z, if_neg (by omega), if_pos z]
    have := e2 (Or.inl z)
    unfold vn at this ⊢
    rw [this]
  · rw [if_pos z, if_pos z]
theorem order_loop {u0 : MS} (hb : b ≠ 45 ∧ b ≠ 46) (hh : u0.2.2.2 b = h) (hn : n ≤ 512) (g : HPc h n ow kd Fv P) (hP : ∀ t, P t → PT u0 t) (hF : FVc Fv) (hA : WDc u0 1) (hN : 200000 ≤ N) : ∀ M : Nat,
    (∀ (w : MS) (top cn : Nat), FR [] [] [] [45, 46] u0 w → top ≤ 2048 → (∀ j, j < top → GT n ow kd P (w.2.2.2 45 j) ∧ GT n ow kd P (w.2.2.2 46 j)) → cn ≤ 1000000000 → (1000000000 - cn) * 600 + 3 ≤ M → OK (fun w _ => FR [] [] [] [45, 46] u0 w) ((hg_Te_order N M).1 w b (I top) (I cn))) ∧
    (∀ (w : MS) (x y : Int64) (top cn : Nat) (i f0 : Int), FR [] [] [] [45, 46] u0 w → top ≤ 2048 → (∀ j, j < top → GT n ow kd P (w.2.2.2 45 j) ∧ GT n ow kd P (w.2.2.2 46 j)) → cn < 1000000000 → (isH x → GT n ow kd P x ∧ GT n ow kd P y ∧ isH y ∧ blk h y = blk h x ∧ (prt x : Int) = f0 ∧ prt y = prt x) → (¬ isH x → i < f0) → 0 ≤ f0 ∧ f0 ≤ 600 → -1 ≤ i → i < blk h x ∨ i < f0 → i ≤ 520 → (1000000000 - cn - 1) * 600 + 4 + (i + 2).toNat ≤ M → OK (fun w _ => FR [] [] [] [45, 46] u0 w) ((hg_Te_order N M).2 w b (I top) (I cn) (I (va x)) (I (va y)) (I f0) (I i))) := by
  intro M
  induction M with
  | zero => exact ⟨fun w top cn _ _ _ _ hM => by omega, fun w x y top cn i f0 _ _ _ _ _ _ _ _ _ _ hM => by omega⟩
  | succ M ih =>
    refine ⟨fun w top cn f ht hst hcn hM => ?_, fun w x y top cn i f0 f ht hst hcn hxy hnx hf0 hi0 hi1 hi2 hM => ?_⟩
    · show OK _ (hb_Te_order_21 N (hg_Te_order N M) w b (I top) (I cn))
      unfold hb_Te_order_21 hb_Te_order_179
      have hw : w.2.2.2 b = h := by rw [FRj f (by simp; omega)]; exact hh
      rw [I_lit (n := 1000000000), m1I, lit0q]
      refine k_le ⟨by decide, by decide⟩ ⟨by omega, by omega⟩ (fun _ => ok_some.mpr f) (fun y => ?_)
      have y : (cn : Int) < 1000000000 := y
      refine k_le ⟨by omega, by omega⟩ ⟨by decide, by decide⟩ (fun _ => ok_some.mpr f) (fun y2 => ?_)
      have e1 : I ((top : Int)) + I (-1) = I (((top - 1 : Nat) : Int)) := by rw [I_add]; congr 1; omega
      rw [e1]
      refine e_in ⟨by omega, by omega⟩ (by decide) (e_in ⟨by omega, by omega⟩ (by decide) ?_)
      rw [tnI (n := top - 1) rfl (by omega)]
      obtain ⟨gx, gy⟩ := hst (top - 1) (by omega)
      have hPw : ∀ t, P t → PT w t := fun t ht => by have := hP t ht; unfold PT at this ⊢; rw [FR.F f (by simp)]; exact this
      refine ok_bnd.mpr (ok_mono (orderAlone_ok (N := N) hw hn g hPw (WDc_fr hA f (by simp) (by simp)) gx gy hN) (fun w2 r hw2 => ?_))
      obtain ⟨e2, hr⟩ := hw2
      subst e2
      refine ok_br.mpr ⟨fun hz => ?_, fun _ => ok_some.mpr f⟩
      obtain ⟨q1, q2⟩ := hr (of_decide_eq_true hz)
      refine e_in ⟨by omega, by omega⟩ (by decide) (e_in ⟨by omega, by omega⟩ (by decide) (e_in ⟨by omega, by omega⟩ (by decide) ?_))
      obtain ⟨x, hxe⟩ : ∃ x, w2.2.2.2 45 (top - 1) = x := ⟨_, rfl⟩
      obtain ⟨yy, hye⟩ : ∃ x, w2.2.2.2 46 (top - 1) = x := ⟨_, rfl⟩
      rw [hxe] at gx q1 q2 ⊢
      rw [hye] at gy q1 q2 ⊢
      by_cases hx : isH x
      · have hy : isH yy := by unfold isH at hx ⊢; rw [← q1]; exact hx
        have bx := (HP_bkc g hx gx).1
        have bY := (HP_bkc g hy gy).1
        have hbs := blk_same hF bx bY hx q1 q2
        have hpp : prt yy = prt x := by unfold prt; rw [q1]
        rw [cellsAt_h hw hn hx bx, bnd_so]
        refine e_in ⟨by omega, by omega⟩ (by decide) ?_
        rw [hxe, partsOf_e, bnd_so, I_sub, valI, valI, lit1q, I_sub]
        have hp := prt_le (h := h) hx
        have hbl := bx.2.2.2.1
        have hpx : (prt x : Int) = (blk h x : Int) - ((blk h x : Int) - (if so x = 5 then 1 else if so x = 3 then 2 else 0)) := by
          unfold isH at hx
          unfold prt
          split <;> split <;> (try split) <;> (try split) <;> omega
        refine ih.2 w2 x yy (top - 1) cn _ _ f (by omega) (fun j hj => hst j (by omega)) (by omega) (fun _ => ⟨gx, gy, hy, hbs.symm, hpx, hpp⟩) (fun z => absurd hx z) (by omega) (by omega) (by omega) (by omega) (by omega)
      · rw [cellsAt_n hx, bnd_so]
        refine e_in ⟨by omega, by omega⟩ (by decide) ?_
        rw [hxe, lit0q, partsOf_e, bnd_so, I_sub, valI, valI, lit1q, I_sub]
        have hnp : (if so x = 5 then (1 : Int) else if so x = 3 then 2 else 0) = 0 := by
          unfold isH at hx
          rw [if_neg (by omega), if_neg (by omega)]
        rw [hnp]
        refine ih.2 w2 x yy (top - 1) cn _ _ f (by omega) (fun j hj => hst j (by omega)) (by omega) (fun z => absurd z hx) (fun _ => by omega) (by omega) (by omega) (by omega) (by omega) (by omega)
    · show OK _ (hb_Te_order_121 N (hg_Te_order N M) w b (I top) (I cn) (I (va x)) (I (va y)) (I f0) (I i))
      unfold hb_Te_order_121 hb_Te_order_173
      have hw : w.2.2.2 b = h := by rw [FRj f (by simp; omega)]; exact hh
      have back : OK (fun w _ => FR [] [] [] [45, 46] u0 w) ((hg_Te_order N M).1 w b (I top) (I cn + 1)) := by
        rw [lit1q, I_add, show ((cn : Nat) : Int) + 1 = ((cn + 1 : Nat) : Int) by omega]
        exact ih.1 w top (cn + 1) f ht hst (by omega) (by omega)
      refine k_lt ⟨by omega, by omega⟩ ⟨by omega, by omega⟩ (fun _ => back) (fun h1 => ?_)
      have hx : isH x := by
        by_cases e : isH x
        · exact e
        · have := hnx e; omega
      obtain ⟨gx, gy, hy, hbs, hpx, hpp⟩ := hxy hx
      rw [I_lit (n := 2048)]
      refine k_le ⟨by decide, by decide⟩ ⟨by omega, by omega⟩ (fun _ => back) (fun h2 => ?_)
      have h2 : (top : Int) < 2048 := h2
      obtain ⟨bx, px⟩ := HP_bkc g hx gx
      obtain ⟨bY, py⟩ := HP_bkc g hy gy
      have b1 := bx.2.2.2.1
      have b2 := bY.2.2.2.1
      obtain ⟨k, rfl⟩ : ∃ k : Nat, i = k := ⟨i.toNat, by omega⟩
      rw [vn_e bx.1, vn_e bY.1, I_add, I_add, show ((vn x : Nat) : Int) + ((k : Nat) : Int) = ((vn x + k : Nat) : Int) by omega, show ((vn y : Nat) : Int) + ((k : Nat) : Int) = ((vn y + k : Nat) : Int) by omega]
      refine e_in ⟨by omega, by omega⟩ (by decide) (e_in ⟨by omega, by omega⟩ (by decide) (ok_lt.mpr ?_))
      rw [tnI (n := top) rfl (by omega), tnI (n := vn x + k) rfl (by omega), wj_e, hw]
      refine e_in ⟨by omega, by omega⟩ (by decide) (e_in ⟨by omega, by omega⟩ (by decide) (ok_lt.mpr ?_))
      rw [tnI (n := vn y + k) rfl (by omega), wj_e, m1I, I_add, lit1q, I_add, show ((top : Nat) : Int) + 1 = ((top + 1 : Nat) : Int) by omega, ← vn_e bx.1, ← vn_e bY.1]
      have hw2 : (wj w 45 top (h (vn x + k))).2.2.2 b = h := by
        rw [show (wj w 45 top (h (vn x + k))).2.2.2 b = w.2.2.2 b from if_neg hb.1]; exact hw
      rw [hw2]
      refine ih.2 _ x y (top + 1) cn _ f0 (FR.wj (FR.wj f (by decide)) (by decide)) (by omega) (fun j hj => ?_) hcn hxy (fun z => absurd hx z) hf0 (by omega) (by omega) (by omega) (by omega)
      rw [wj_row, show (wj (wj w 45 top (h (vn x + k))) 46 top (h (vn y + k))).2.2.2 45 = (wj w 45 top (h (vn x + k))).2.2.2 45 from rfl, wj_row, show (wj w 45 top (h (vn x + k))).2.2.2 46 = w.2.2.2 46 from rfl]
      by_cases e : j = top
      · rw [if_pos e, if_pos e]
        exact ⟨px k (by omega) (by omega), py k (by omega) (by omega)⟩
      · rw [if_neg e, if_neg e]
        exact hst j (by omega)
theorem orderc_ok (hb : b ≠ 45 ∧ b ≠ 46) (hh : u.2.2.2 b = h) (hn : n ≤ 512) (g : HPc h n ow kd Fv P) (hP : ∀ t, P t → PT u t) (hF : FVc Fv) (hA : WDc u 1) (gx : GT n ow kd P x) (gy : GT n ow kd P y) (hN : 600000000010 ≤ N) : OK (fun w _ => FR [] [] [] [45, 46] u w) (hm_Te_order N u b x y) := by
  unfold hm_Te_order hb_Te_order_0
  refine e_in (x := 0) ⟨by decide, by decide⟩ (by decide) (ok_lt.mpr ?_)
  rw [show (0 : Int32).toNatClampNeg = 0 from rfl, wj_e]
  refine e_in (x := 0) ⟨by decide, by decide⟩ (by decide) (ok_lt.mpr ?_)
  rw [wj_e, lit0q, lit1q, show (0 : Int) = ((0 : Nat) : Int) from rfl, show (1 : Int) = ((1 : Nat) : Int) from rfl]
  refine (order_loop (N := N) (u0 := u) (b := b) (ow := ow) (kd := kd) (P := P) hb hh hn g hP hF hA (by omega) N).1 _ 1 0 (FR.wj (FR.wj FR.rf (by decide)) (by decide)) (by omega) (fun j hj => ?_) (by omega) (by omega)
  rw [wj_row, show (wj (wj u 45 0 x) 46 0 y).2.2.2 45 = (wj u 45 0 x).2.2.2 45 from rfl, wj_row, if_pos (by omega), if_pos (by omega)]
  exact ⟨gx, gy⟩
end
end
section
set_option maxRecDepth 100000
def OUTc (j : Nat) (u : MS) : Prop := rf (u.1 1964) = some j ∧ isOu j ∧ (0 ≤ F u 865 ∧ F u 865 ≤ 100000) ∧ 0 ≤ F u 866 ∧ F u 866 ≤ 100
def WRT (j : Nat) (u w : MS) : Prop := FR [866] [] [j] [] u w ∧ OUTc j w
section
variable {h : Nat → Int64} {n N b j : Nat} {ow kd : Nat → Nat} {Fv : Int64 → Int64 → Prop} {P : Int64 → Prop} {u v w u0 : MS} {t x y : Int64}
theorem WRT.tr (a : WRT j u v) (b : WRT j v w) : WRT j u w := ⟨FR.tr a.1 b.1, b.2⟩
theorem WRT.rf (a : OUTc j u) : WRT j u u := ⟨FR.rf, a⟩
theorem bl_ou (h : isOu j) : bl j ≤ 20000 := by rcases h with rfl | rfl <;> decide
theorem writeC_ok {x : Int32} (h : OUTc j u) : OK (fun w _ => WRT j u w) (hm_Te_write N u x) := by
  have h' := h
  obtain ⟨h1, h2, ⟨h3, h4⟩, h5, h6⟩ := h
  have hb := bl_ou h2
  unfold hm_Te_write hb_Te_write_0 hb_Te_write_52
  rw [h1]
  show OK _ (br _ _ (br _ _ (ck _ _)))
  have non : OK (fun w _ => WRT j u w) (some (u, ())) := ok_some.mpr (WRT.rf h')
  rw [I_F (k := 866), I_F (k := 865), I_add, I_lit (n := 100), show Int32.ofNat (bl j) = I ((bl j : Nat) : Int) from rfl]
  refine k_le ⟨by decide, by decide⟩ (FRG1 u _) (fun _ => non) (fun a => ?_)
  have a : F u 866 < 100 := a
  refine k_le ⟨by omega, by omega⟩ ⟨by omega, by omega⟩ (fun _ => non) (fun b => ?_)
  refine e_in ⟨by omega, by omega⟩ (by omega) (ok_lt.mpr ?_)
  generalize hz : (vp_nar .byte (x.toInt8.toInt32)) = z
  rw [I_of z, wa_e, show (wa u j (I (F u 865 + F u 866)).toNatClampNeg z.toInt).1 866 = I (F u 866) from I_F, lit1q, I_add, wi_e]
  refine ok_some.mpr ⟨FR.wi (FR.wa FR.rf (by simp)) (by simp), ?_⟩
  have e1 : F (wi (wa u j (I (F u 865 + F u 866)).toNatClampNeg z.toInt) 866 (F u 866 + 1)) 866 = F u 866 + 1 := by rw [F_wi (by omega) (by omega), if_pos rfl]
  have e2 : F (wi (wa u j (I (F u 865 + F u 866)).toNatClampNeg z.toInt) 866 (F u 866 + 1)) 865 = F u 865 := by rw [F_wi (by omega) (by omega), if_neg (by decide)]; rfl
  exact ⟨h1, h2, by rw [e2]; exact ⟨h3, h4⟩, by omega, by omega⟩
theorem wn2 {x : Int64} : ∀ (M k : Nat) (u : MS), k < 11 → k + 1 < M → OUTc j u → OK (fun w _ => WRT j u w) ((hg_Te_writeNumber N M).2 u x (pw k)) := by
  intro M
  induction M with
  | zero => intro k u _ z; omega
  | succ M ih =>
    intro k u hk hm h1
    obtain ⟨-, p2, p3, p4⟩ := pw_f k hk
    show OK _ (hb_Te_writeNumber_43 N (hg_Te_writeNumber N M) u x (pw k))
    unfold hb_Te_writeNumber_43
    rw [p4, br_fq, decide_eq_true p3, ck_t, show (decide (¬ (10 : Nat) = 0)) = true from rfl, ck_t]
    refine ok_bnd.mpr (ok_mono (writeC_ok h1) (fun w _ hw => ?_))
    rw [ck_t]
    cases k with
    | zero =>
      rw [pw_0.1]
      cases M with
      | zero => omega
      | succ M =>
        show OK _ (hb_Te_writeNumber_43 N (hg_Te_writeNumber N M) w x 0)
        unfold hb_Te_writeNumber_43
        rw [pw_0.2, br_tq]
        exact ok_some.mpr hw
    | succ k =>
      rw [p2 (by omega)]
      exact ok_mono (ih k w (by omega) (by omega) hw.2) (fun w2 _ q => hw.tr q)
theorem wn1 {x : Int64} (hx : (x / 10).toInt ≤ 2147483648) : ∀ (M k : Nat) (u : MS), k < 11 → (11 - k) + 20 < M → OUTc j u → OK (fun w _ => WRT j u w) ((hg_Te_writeNumber N M).1 u x (pw k)) := by
  intro M
  induction M with
  | zero => intro k u _ z; omega
  | succ M ih =>
    intro k u hk hm h1
    obtain ⟨p1, -⟩ := pw_f k (by omega)
    show OK _ (hb_Te_writeNumber_21 N (hg_Te_writeNumber N M) u x (pw k))
    unfold hb_Te_writeNumber_21
    rw [p1, show (decide (¬ (10 : Nat) = 0)) = true from rfl, ck_t]
    refine ok_br.mpr ⟨fun _ => wn2 M k u hk (by omega) h1, fun h0 => ?_⟩
    by_cases e : k = 10
    · subst e
      exact absurd (pw_10 hx) (of_decide_eq_false h0)
    · exact ih (k + 1) u (by omega) (by omega) h1
theorem div10 {x : Int64} (h1 : -2147483648 ≤ x.toInt) (h2 : x.toInt ≤ 2147483648) : (x / 10).toInt ≤ 2147483648 := by
  rw [Int64.toInt_div_of_ne_right x 10 (by decide)]
  have : (10 : Int64).toInt = 10 := rfl
  rw [this]
  have h3 : x.toInt.tdiv 10 ≤ x.toInt.natAbs := by
    have := Int.natAbs_tdiv_le_natAbs x.toInt 10
    omega
  omega
theorem toI64 (v : Int32) : v.toInt64.toInt = v.toInt := Int32.toInt_toInt64 v
theorem neg64 {x : Int64} (h1 : -2147483648 ≤ x.toInt) (h2 : x.toInt ≤ 2147483648) : (-x).toInt = - x.toInt := by
  rw [Int64.toInt_neg]
  exact Int.bmod_eq_of_le (by omega) (by omega)
theorem writeNumber_ok {v : Int32} (h : OUTc j u) (hN : 100 ≤ N) : OK (fun w _ => WRT j u w) (hm_Te_writeNumber N u v) := by
  have hr := ti_rng v
  unfold hm_Te_writeNumber hb_Te_writeNumber_0 hb_Te_writeNumber_18
  have e := toI64 v
  refine ok_br.mpr ⟨fun _ => wn1 (div10 (by omega) (by omega)) N 0 u (by omega) (by omega) h, fun _ => ok_bnd.mpr (ok_mono (writeC_ok h) (fun w _ hw => ?_))⟩
  have e2 := neg64 (x := v.toInt64) (by omega) (by omega)
  exact ok_mono (wn1 (div10 (by omega) (by omega)) N 0 w (by omega) (by omega) hw.2) (fun w2 _ q => hw.tr q)
theorem wa_loop_c (hA : WDc u0 1) (hj : j ≠ 3) : ∀ (M : Nat) (v : Int) (k : Nat) (w : MS), RG v → (k : Int) ≤ 100000 → 100001 - k < M → FR [866] [] [j] [] u0 w → OUTc j w → OK (fun w2 _ => WRT j w w2) (hg_Te_writeAlone N M w (I v) (I k)) := by
  intro M
  induction M with
  | zero => intro v k w _ _ z; omega
  | succ M ih =>
    intro v k w hv hk hm f ho
    show OK _ (hb_Te_writeAlone_59 N (hg_Te_writeAlone N M) w (I v) (I k))
    unfold hb_Te_writeAlone_59 hb_Te_writeAlone_170
    have hA2 : WDc w 1 := WDc_fr hA f (by simp) (by simp; omega)
    refine ok_bnd.mpr (ok_mono (wlength_ok (N := N) hA2 hv) (fun w2 r hw2 => ?_))
    obtain ⟨rfl, l, rfl, l1, l2⟩ := hw2
    refine k_le ⟨by omega, by omega⟩ ⟨by omega, by omega⟩ (fun _ => ok_some.mpr (WRT.rf ho)) (fun c1 => ?_)
    refine ok_bnd.mpr (ok_mono (wsign_ok (N := N) (k := (k : Int)) hA2 hv ⟨by omega, by omega⟩) (fun w3 r hw3 => ?_))
    subst hw3
    refine ok_bnd.mpr (ok_mono (writeC_ok ho) (fun w4 _ hw4 => ?_))
    rw [lit1q, I_add, show ((k : Nat) : Int) + 1 = ((k + 1 : Nat) : Int) by omega]
    exact ok_mono (ih v (k + 1) w4 hv (by omega) (by omega) (FR.tr f hw4.1) hw4.2) (fun w5 _ q => hw4.tr q)
theorem writeAlone_ok (hA : WDc u 1) (h : OUTc j u) (hN : 200000 ≤ N) : OK (fun w _ => WRT j u w) (hm_Te_writeAlone N u t) := by
  have hj : j ≠ 3 := by rcases h.2.1 with rfl | rfl <;> decide
  unfold hm_Te_writeAlone hb_Te_writeAlone_0
  have w1 : ∀ (x : Int32), OK (fun w _ => WRT j u w) (bnd (hm_Te_write N u x) (fun u18 r18 => hb_Te_writeAlone_170 N (hg_Te_writeAlone N N) u18)) := fun x => ok_bnd.mpr (ok_mono (writeC_ok h) (fun w _ hw => ok_some.mpr hw))
  have w2 : ∀ (x y : Int32) (v : MS), WRT j u v → OK (fun w _ => WRT j u w) (bnd (hm_Te_write N v x) (fun u19 r19 => bnd (hm_Te_write N u19 y) (fun u20 r20 => hb_Te_writeAlone_170 N (hg_Te_writeAlone N N) u20))) := fun x y v hv => ok_bnd.mpr (ok_mono (writeC_ok hv.2) (fun w _ hw => ok_bnd.mpr (ok_mono (writeC_ok hw.2) (fun w2 _ hw2 => ok_some.mpr (hv.tr (hw.tr hw2))))))
  rw [e_tag, bnd_so, valI]
  refine ok_br.mpr ⟨fun _ => ok_bnd.mpr (ok_mono (writeNumber_ok h (by omega)) (fun w _ hw => ok_some.mpr hw)), fun _ => ok_br.mpr ⟨fun _ => ?_, fun _ => ok_br.mpr ⟨fun _ => ?_, fun _ => ok_br.mpr ⟨fun _ => ?_, fun _ => ok_br.mpr ⟨fun _ => ?_, fun _ => ok_br.mpr ⟨fun _ => w1 _, fun _ => ok_br.mpr ⟨fun _ => w2 _ _ u (WRT.rf h), fun _ => w1 _⟩⟩⟩⟩⟩⟩⟩
  · rw [lit0q, show (0 : Int) = ((0 : Nat) : Int) from rfl]
    exact wa_loop_c (N := N) hA hj N (va t) 0 u (va_r t) (by omega) (by omega) FR.rf h
  · exact ok_bnd.mpr (ok_mono (writeC_ok h) (fun w _ hw => ok_bnd.mpr (ok_mono (writeNumber_ok hw.2 (by omega)) (fun w2 _ hw2 => ok_some.mpr (hw.tr hw2)))))
  · exact ok_bnd.mpr (ok_mono (writeC_ok h) (fun w _ hw => w2 _ _ w hw))
  · exact ok_bnd.mpr (ok_mono (writeC_ok h) (fun w _ hw => ok_bnd.mpr (ok_mono (writeNumber_ok hw.2 (by omega)) (fun w2 _ hw2 => ok_bnd.mpr (ok_mono (writeC_ok hw2.2) (fun w3 _ hw3 => ok_some.mpr (hw.tr (hw2.tr hw3))))))))
def TWT (n : Nat) (ow kd : Nat → Nat) (P : Int64 → Prop) (t : Int64) : Prop := GT n ow kd P t ∨ so t = 10 ∨ so t = 11
def TST (n : Nat) (ow kd : Nat → Nat) (P : Int64 → Prop) (j : Nat) (u0 w : MS) (top : Nat) : Prop := FR [866] [] [j] [45] u0 w ∧ OUTc j w ∧ top ≤ 2048 ∧ ∀ i, i < top → TWT n ow kd P (w.2.2.2 45 i)
theorem TST_wrt {top : Nat} (a : TST n ow kd P j u0 u top) (b : WRT j u w) : TST n ow kd P j u0 w top := ⟨FR.tr a.1 (FR.mo b.1 (by simp) (by simp) (by simp) (by simp)), b.2, a.2.2.1, fun i hi => by rw [FRj b.1 (by simp)]; exact a.2.2.2 i hi⟩
theorem TST_less {top k : Nat} (a : TST n ow kd P j u0 u top) (h : k ≤ top) : TST n ow kd P j u0 u k := ⟨a.1, a.2.1, by have := a.2.2.1; omega, fun i hi => a.2.2.2 i (by omega)⟩
theorem push_ok {top : Nat} {t : Int64} (a : TST n ow kd P j u0 u top) (ht : TWT n ow kd P t) : OK (fun w r => ∃ k : Nat, r = I k ∧ TST n ow kd P j u0 w k) (hm_Te_push N u (I top) t) := by
  obtain ⟨a1, a2, a3, a4⟩ := a
  unfold hm_Te_push hb_Te_push_0
  rw [I_lit (n := 2048)]
  refine k_lt ⟨by omega, by omega⟩ ⟨by decide, by decide⟩ (fun c => ?_) (fun _ => ok_some.mpr ⟨top, rfl, a1, a2, a3, a4⟩)
  have c : (top : Int) < 2048 := c
  refine e_in ⟨by omega, by omega⟩ (by decide) (ok_lt.mpr ?_)
  rw [tnI (n := top) rfl (by omega), wj_e, lit1q, I_add]
  refine ok_some.mpr ⟨top + 1, rfl, FR.wj a1 (by simp), a2, by omega, fun i hi => ?_⟩
  rw [wj_row]
  by_cases e : i = top
  · rw [if_pos e]; exact ht
  · rw [if_neg e]; exact a4 i (by omega)
theorem TWT_s {s v : Int} (h : s = 10 ∨ s = 11) : TWT n ow kd P (mk s v) := by
  have : so (mk s v) = s := so_mk (by omega) (by omega)
  unfold TWT
  rw [this]
  exact Or.inr h
theorem tup_loop (hb : b ≠ 45) (hh : u0.2.2.2 b = h) (hn : n ≤ 512) (g : HPc h n ow kd Fv P) (ht : so t = 5) (gt : GT n ow kd P t) : ∀ (M k top : Nat) (w : MS), k < blk h t → k < M → TST n ow kd P j u0 w top → OK (fun w r => ∃ k : Nat, r = I k ∧ TST n ow kd P j u0 w k) (hg_Te_toWriteTuple N M w b (I (va t)) (I top) (I k)) := by
  have hH : isH t := Or.inr (Or.inl ht)
  obtain ⟨k1, k2⟩ := HP_bkc g hH gt
  have hp : prt t = 1 := by unfold prt; rw [if_neg (by omega), if_pos ht]
  have hbl := k1.2.2.2.1
  intro M
  induction M with
  | zero => intro k top w _ z; omega
  | succ M ih =>
    intro k top w hk hm a
    show OK _ (hb_Te_toWriteTuple_20 N (hg_Te_toWriteTuple N M) w b (I (va t)) (I top) (I k))
    unfold hb_Te_toWriteTuple_20 hb_Te_toWriteTuple_60
    have hw : w.2.2.2 b = h := by rw [FRj a.1 (by simpa using hb)]; exact hh
    rw [m1I, lit0q, lit1q, vn_e k1.1, I_add, show ((vn t : Nat) : Int) + ((k : Nat) : Int) = ((vn t + k : Nat) : Int) by omega]
    refine k_le ⟨by omega, by omega⟩ ⟨by decide, by decide⟩ (fun _ => ok_some.mpr ⟨top, rfl, a⟩) (fun c => ?_)
    refine e_in ⟨by omega, by omega⟩ (by decide) ?_
    rw [tnI (n := vn t + k) rfl (by omega), hw]
    refine ok_bnd.mpr (ok_mono (push_ok (N := N) a (Or.inl (k2 k (by omega) hk))) (fun w2 r hw2 => ?_))
    obtain ⟨t2, rfl, a2⟩ := hw2
    have dn : I (k : Int) + I (-1) = I ((k - 1 : Nat) : Int) := by rw [I_add]; congr 1; omega
    rw [dn, ← vn_e k1.1]
    refine k_le ⟨by omega, by omega⟩ ⟨by decide, by decide⟩ (fun _ => ih (k - 1) t2 w2 (by omega) (by omega) a2) (fun _ => ?_)
    rw [I_lit (n := 10), I_lit (n := 44), e_make, bnd_so]
    refine ok_bnd.mpr (ok_mono (push_ok (N := N) a2 (TWT_s (Or.inl rfl))) (fun w3 r hw3 => ?_))
    obtain ⟨t3, rfl, a3⟩ := hw3
    exact ih (k - 1) t3 w3 (by omega) (by omega) a3
theorem toWriteTuple_ok {top : Nat} (hb : b ≠ 45) (hh : u0.2.2.2 b = h) (hn : n ≤ 512) (g : HPc h n ow kd Fv P) (ht : so t = 5) (gt : GT n ow kd P t) (a : TST n ow kd P j u0 u top) (hN : 600 ≤ N) : OK (fun w r => ∃ k : Nat, r = I k ∧ TST n ow kd P j u0 w k) (hm_Te_toWriteTuple N u b (I (va t)) (I top)) := by
  have hH : isH t := Or.inr (Or.inl ht)
  obtain ⟨k1, k2⟩ := HP_bkc g hH gt
  have hbl := k1.2.2.2.1
  have hbk : blk h t = 1 + vn (h (vn t)) := by unfold blk; rw [if_neg (by omega), if_pos ht]
  unfold hm_Te_toWriteTuple hb_Te_toWriteTuple_0
  rw [I_lit (n := 10), I_lit (n := 125), e_make, bnd_so]
  refine ok_bnd.mpr (ok_mono (push_ok (N := N) a (TWT_s (Or.inl rfl))) (fun w2 r hw2 => ?_))
  obtain ⟨t2, rfl, a2⟩ := hw2
  have hw : w2.2.2.2 b = h := by rw [FRj a2.1 (by simpa using hb)]; exact hh
  rw [vn_e k1.1]
  refine e_in ⟨by omega, by omega⟩ (by decide) ?_
  rw [tnI (n := vn t) rfl (by omega), hw, valI, vn_e (k1.2.1 ht).1, ← vn_e k1.1]
  exact tup_loop (N := N) hb hh hn g ht gt N (vn (h (vn t))) t2 w2 (by omega) (by omega) a2
theorem toWritePair_ok {top : Nat} (hb : b ≠ 45) (hh : u0.2.2.2 b = h) (hn : n ≤ 512) (g : HPc h n ow kd Fv P) (ht : so t = 7) (gt : GT n ow kd P t) (a : TST n ow kd P j u0 u top) : OK (fun w r => ∃ k : Nat, r = I k ∧ TST n ow kd P j u0 w k) (hm_Te_toWritePair N u b (I (va t)) (I top)) := by
  have hH : isH t := Or.inr (Or.inr ht)
  obtain ⟨k1, k2⟩ := HP_bkc g hH gt
  have hbl := k1.2.2.2.1
  have hbk : blk h t = 2 := by unfold blk; rw [if_pos ht]
  have hp : prt t = 0 := by unfold prt; rw [if_pos ht]
  unfold hm_Te_toWritePair hb_Te_toWritePair_0
  have hw : u.2.2.2 b = h := by rw [FRj a.1 (by simpa using hb)]; exact hh
  rw [vn_e k1.1, lit1q, I_add, show ((vn t : Nat) : Int) + 1 = ((vn t + 1 : Nat) : Int) by omega]
  refine e_in ⟨by omega, by omega⟩ (by decide) ?_
  rw [tnI (n := vn t + 1) rfl (by omega), hw]
  refine ok_bnd.mpr (ok_mono (push_ok (N := N) a (Or.inl (k2 1 (by omega) (by omega)))) (fun w2 r hw2 => ?_))
  obtain ⟨t2, rfl, a2⟩ := hw2
  rw [I_lit (n := 11), lit0q, e_make, bnd_so]
  refine ok_bnd.mpr (ok_mono (push_ok (N := N) a2 (TWT_s (Or.inr rfl))) (fun w3 r hw3 => ?_))
  obtain ⟨t3, rfl, a3⟩ := hw3
  have hw : w3.2.2.2 b = h := by rw [FRj a3.1 (by simpa using hb)]; exact hh
  refine e_in ⟨by omega, by omega⟩ (by decide) ?_
  rw [tnI (n := vn t) rfl (by omega), hw]
  refine ok_bnd.mpr (ok_mono (push_ok (N := N) a3 (Or.inl (k2 0 (by omega) (by omega)))) (fun w4 r hw4 => ok_some.mpr hw4))
theorem nilnh : ¬ isH (mk 6 0) := nh_so (by rw [so_mk (by decide) (by decide)]; decide)
theorem toWriteRest_ok {top : Nat} {pl : Int} (hP6 : P (mk 6 0)) (hb : b ≠ 45) (hh : u0.2.2.2 b = h) (hn : n ≤ 512) (g : HPc h n ow kd Fv P) (a : TST n ow kd P j u0 u top) (hp : -2 ≤ pl ∧ pl < top) : OK (fun w r => ∃ k : Nat, r = I k ∧ TST n ow kd P j u0 w k) (hm_Te_toWriteRest N u b (I pl)) := by
  have ht := a.2.2.1
  unfold hm_Te_toWriteRest hb_Te_toWriteRest_0
  have main : ∀ (t : Int64) (y : Nat), y ≤ top → TWT n ow kd P t → ((if I pl < 0 then (0 : Int32) else I pl) = I y) → OK (fun w r => ∃ k : Nat, r = I k ∧ TST n ow kd P j u0 w k) (hb_Te_toWriteRest_19 N () u b (I pl) t) := by
    intro t y hy htw hif
    unfold hb_Te_toWriteRest_19
    refine ok_lt.mpr ?_
    have ay := TST_less a hy
    rw [hif, e_tag, bnd_so]
    have hr := so_r t
    rw [I_lit (n := 6)]
    refine k_eq hr ⟨by decide, by decide⟩ (fun _ => ok_bnd.mpr (ok_mono (writeC_ok ay.2.1) (fun w _ hw => ok_some.mpr ⟨y, rfl, TST_wrt ay hw⟩))) (fun _ => ?_)
    rw [e_tag, bnd_so, I_lit (n := 7)]
    refine k_eq hr ⟨by decide, by decide⟩ (fun e7 => ?_) (fun _ => ?_)
    · have e7 : so t = 7 := e7
      have gt : GT n ow kd P t := by
        rcases htw with z | z | z
        · exact z
        · omega
        · omega
      refine ok_bnd.mpr (ok_mono (writeC_ok ay.2.1) (fun w _ hw => ?_))
      rw [valI]
      refine ok_bnd.mpr (ok_mono (toWritePair_ok (N := N) hb hh hn g e7 gt (TST_wrt ay hw)) (fun w2 r hw2 => ok_some.mpr hw2))
    · refine ok_bnd.mpr (ok_mono (writeC_ok ay.2.1) (fun w _ hw => ?_))
      rw [I_lit (n := 10), I_lit (n := 93), e_make, bnd_so]
      refine ok_bnd.mpr (ok_mono (push_ok (N := N) (TST_wrt ay hw) (TWT_s (Or.inl rfl))) (fun w3 r hw3 => ?_))
      obtain ⟨t3, rfl, a3⟩ := hw3
      exact ok_bnd.mpr (ok_mono (push_ok (N := N) a3 htw) (fun w4 r hw4 => ok_some.mpr hw4))
  rw [lit0q]
  refine k_lt ⟨by omega, by omega⟩ ⟨by decide, by decide⟩ (fun c => ?_) (fun c => ?_)
  · rw [I_lit (n := 6), e_make, bnd_so]
    refine main _ 0 (by omega) (Or.inl (Or.inl ⟨nilnh, hP6⟩)) ?_
    rw [lit0q, if_pos]
    · rfl
    · rw [I_lt (by omega) (by omega) (by decide) (by decide)]
      exact c
  · refine e_in ⟨by omega, by omega⟩ (by decide) ?_
    obtain ⟨k, rfl⟩ : ∃ k : Nat, pl = k := ⟨pl.toNat, by omega⟩
    rw [tnI (n := k) rfl (by omega)]
    refine main _ k (by omega) (a.2.2.2 k (by omega)) ?_
    rw [lit0q, if_neg]
    rw [I_lt (by omega) (by omega) (by decide) (by decide)]
    omega
theorem text_loop (hP6 : P (mk 6 0)) (hA : WDc u0 1) (hb : b ≠ 45) (hh : u0.2.2.2 b = h) (hn : n ≤ 512) (g : HPc h n ow kd Fv P) (hN : 200000 ≤ N) : ∀ (M top cn : Nat) (w : MS), cn ≤ 1000000000 → 1000000000 - cn < M → TST n ow kd P j u0 w top → OK (fun w r => TST n ow kd P j u0 w 0 ∧ r = I (F w 866)) (hg_Te_text N M w b (I top) (I cn)) := by
  intro M
  induction M with
  | zero => intro top cn w _ z; omega
  | succ M ih =>
    intro top cn w hcn hm a
    have ht := a.2.2.1
    have hjn : j ≠ 3 := by rcases a.2.1.2.1 with rfl | rfl <;> decide
    show OK _ (hb_Te_text_30 N (hg_Te_text N M) w b (I top) (I cn))
    unfold hb_Te_text_30 hb_Te_text_174
    have fin : OK (fun w r => TST n ow kd P j u0 w 0 ∧ r = I (F w 866)) (some (w, w.1 866)) := ok_some.mpr ⟨TST_less a (Nat.zero_le _), I_F⟩
    rw [m1I, lit0q, I_lit (n := 1000000000), I_lit (n := 100), I_lit (n := 5), I_lit (n := 7), I_lit (n := 11)]
    refine k_le ⟨by decide, by decide⟩ ⟨by omega, by omega⟩ (fun _ => fin) (fun c1 => ?_)
    have c1 : (cn : Int) < 1000000000 := c1
    refine k_le ⟨by omega, by omega⟩ ⟨by decide, by decide⟩ (fun _ => fin) (fun c2 => ?_)
    refine ok_br.mpr ⟨fun _ => fin, fun _ => ?_⟩
    have e1 : I ((top : Int)) + I (-1) = I (((top - 1 : Nat) : Int)) := by rw [I_add]; congr 1; omega
    rw [e1]
    refine e_in ⟨by omega, by omega⟩ (by decide) ?_
    rw [tnI (n := top - 1) rfl (by omega), e_tag, bnd_so, valI]
    have htw := a.2.2.2 (top - 1) (by omega)
    generalize w.2.2.2 45 (top - 1) = x at *
    have hr := so_r x
    have al := TST_less a (k := top - 1) (by omega)
    have nxt : ∀ (w2 : MS) (k : Nat), TST n ow kd P j u0 w2 k → OK (fun w r => TST n ow kd P j u0 w 0 ∧ r = I (F w 866)) (hb_Te_text_168 N (hg_Te_text N M) w2 b (I k) (I cn)) := by
      intro w2 k a2
      unfold hb_Te_text_168
      rw [lit1q, I_add, show ((cn : Nat) : Int) + 1 = ((cn + 1 : Nat) : Int) by omega]
      exact ih k (cn + 1) w2 (by omega) (by omega) a2
    have gx : so x = 5 ∨ so x = 7 → GT n ow kd P x := by
      intro z
      rcases htw with y | y | y
      · exact y
      · omega
      · omega
    refine k_eq hr ⟨by decide, by decide⟩ (fun e5 => ?_) (fun n5 => k_eq hr ⟨by decide, by decide⟩ (fun e7 => ?_) (fun n7 => k_eq hr ⟨by decide, by decide⟩ (fun e11 => ?_) (fun n11 => ?_)))
    · refine ok_bnd.mpr (ok_mono (writeC_ok al.2.1) (fun w2 _ hw2 => ?_))
      refine ok_bnd.mpr (ok_mono (toWriteTuple_ok (N := N) hb hh hn g e5 (gx (Or.inl e5)) (TST_wrt al hw2) (by omega)) (fun w3 r hw3 => ?_))
      obtain ⟨k, rfl, a3⟩ := hw3
      exact nxt w3 k a3
    · refine ok_bnd.mpr (ok_mono (writeC_ok al.2.1) (fun w2 _ hw2 => ?_))
      refine ok_bnd.mpr (ok_mono (toWritePair_ok (N := N) hb hh hn g e7 (gx (Or.inr e7)) (TST_wrt al hw2)) (fun w3 r hw3 => ?_))
      obtain ⟨k, rfl, a3⟩ := hw3
      exact nxt w3 k a3
    · rw [lit1q, I_sub]
      refine ok_bnd.mpr (ok_mono (toWriteRest_ok (N := N) (top := top - 1) hP6 hb hh hn g al (by omega)) (fun w3 r hw3 => ?_))
      obtain ⟨k, rfl, a3⟩ := hw3
      exact nxt w3 k a3
    · refine ok_bnd.mpr (ok_mono (writeAlone_ok (N := N) (WDc_fr hA al.1 (by simp) (by simp; omega)) al.2.1 hN) (fun w2 _ hw2 => ?_))
      exact nxt w2 (top - 1) (TST_wrt al hw2)
theorem text_ok {fr : Int} (hP6 : P (mk 6 0)) (hA : WDc u 1) (hb : b ≠ 45) (hh : u.2.2.2 b = h) (hn : n ≤ 512) (g : HPc h n ow kd Fv P) (gt : GT n ow kd P t) (hj : isOu j) (hf : 0 ≤ fr ∧ fr ≤ 100000) (hN : 1000000010 ≤ N) : OK (fun w r => FR [1964, 865, 866] [] [j] [45] u w ∧ ∃ k : Int, r = I k ∧ 0 ≤ k ∧ k ≤ 100) (hm_Te_text N u b t j (I fr)) := by
  unfold hm_Te_text hb_Te_text_0
  have hjl : j < 100 := by rcases hj with rfl | rfl <;> decide
  refine ok_lt.mpr (ok_lt.mpr (ok_lt.mpr (e_in (x := 0) ⟨by decide, by decide⟩ (by decide) (ok_lt.mpr ?_))))
  rw [show Int32.ofNat j = I (j : Int) from rfl, wi_e, wi_e, lit0q, wi_e, show (I 0).toNatClampNeg = 0 from rfl, wj_e, lit1q, show (0 : Int) = ((0 : Nat) : Int) from rfl, show (1 : Int) = ((1 : Nat) : Int) from rfl]
  generalize hz : wj (wi (wi (wi u 1964 (j : Int)) 865 fr) 866 ((0 : Nat) : Int)) 45 0 t = z
  have fz : FR [1964, 865, 866] [] [] [45] u z := by rw [← hz]; exact FR.wj (FR.wi (FR.wi (FR.wi FR.rf (by simp)) (by simp)) (by simp)) (by simp)
  have z0 : OUTc j z := by
    refine ⟨?_, hj, ?_, ?_⟩
    · rw [← hz]
      show rf (I (j : Int)) = some j
      exact rf_ofNat (by omega)
    · have : F z 865 = fr := by
        rw [← hz, F_wj, F_wi (by decide) (by decide), if_neg (by decide), F_wi (by omega) (by omega), if_pos rfl]
      rw [this]; exact hf
    · have : F z 866 = 0 := by rw [← hz, F_wj, F_wi (by decide) (by decide), if_pos rfl]; rfl
      omega
  have a0 : TST n ow kd P j z z 1 := ⟨FR.rf, z0, by omega, fun i hi => by
    have : z.2.2.2 45 i = t := by rw [← hz, wj_row, if_pos (by omega)]
    rw [this]; exact Or.inl gt⟩
  refine ok_mono (text_loop (N := N) (Fv := Fv) hP6 (WDc_fr hA fz (by simp) (by simp)) hb (by rw [FRj fz (by simpa using hb)]; exact hh) hn g (by omega) N 1 0 z (by omega) (by omega) a0) (fun w r hw => ?_)
  refine ⟨FR.tr (FR.mo fz (by simp) (by simp) (by simp) (by simp)) (FR.mo hw.1.1 (by simp) (by simp) (by simp) (by simp)), _, hw.2, hw.1.2.1.2.2.2.1, hw.1.2.1.2.2.2.2⟩
end
end
section
set_option maxRecDepth 100000
theorem I_msb {k : Int} (h1 : 0 ≤ k) (h2 : k < 2147483648) : (I k).toBitVec.msb = false := by
  rw [BitVec.msb_eq_false_iff_two_mul_lt]
  have : (I k).toBitVec.toInt = k := I_ti (by omega) h2
  have hb : (I k).toBitVec.toNat = k.toNat := by
    rw [BitVec.toInt_eq_toNat_bmod] at this
    have hl := (I k).toBitVec.isLt
    rw [Int.bmod_def] at this
    split at this <;> omega
  rw [hb]; omega
theorem sx64 {k : Int} (h1 : 0 ≤ k) (h2 : k < 2147483648) : (I k).toInt64.toBitVec = (I k).toBitVec.setWidth 64 := by
  show (I k).toBitVec.signExtend 64 = _
  exact BitVec.signExtend_eq_setWidth_of_msb_false (I_msb h1 h2)
theorem sh32 {y : Int64} : (y <<< ((32 : Int32).toInt64 &&& 63)).toBitVec = y.toBitVec <<< 32 := by
  have e : (((32 : Int32).toInt64 &&& 63).toBitVec.smod 64) = 32#64 := by decide
  rw [Int64.toBitVec_shiftLeft, e]
  rfl
theorem so_or {y : Int64} {k : Int} (h1 : 0 ≤ k) (h2 : k < 2147483648) : so ((y <<< ((32 : Int32).toInt64 &&& 63)) ||| (I k).toInt64) = y.toInt32.toInt := by
  unfold so
  congr 1
  apply Int32.toBitVec_inj.mp
  rw [so_bv, Int64.toBitVec_or, sh32, sx64 h1 h2]
  show _ = y.toBitVec.signExtend 32
  rw [BitVec.signExtend_eq_setWidth_of_le _ (by decide)]
  ext i hi
  rw [BitVec.getElem_setWidth, BitVec.getLsbD_sshiftRight, BitVec.getElem_setWidth]
  have a1 : decide (64 ≤ i) = false := decide_eq_false (by omega)
  have a2 : 32 + i < 64 := by omega
  rw [a1, if_pos a2, BitVec.getLsbD_or, BitVec.getLsbD_shiftLeft, BitVec.getLsbD_setWidth]
  have a4 : decide (32 + i < 32) = false := decide_eq_false (by omega)
  have a5 : decide (32 + i < 64) = true := decide_eq_true a2
  have a6 : 32 + i - 32 = i := by omega
  have a7 : (I k).toBitVec.getLsbD (32 + i) = false := BitVec.getLsbD_of_ge _ _ (by omega)
  rw [a4, a5, a6, a7]
  simp
theorem va_or {y : Int64} {k : Int} (h1 : 0 ≤ k) (h2 : k < 2147483648) : va ((y <<< ((32 : Int32).toInt64 &&& 63)) ||| (I k).toInt64) = k := by
  have e : ((y <<< ((32 : Int32).toInt64 &&& 63)) ||| (I k).toInt64).toInt32 = I k := by
    apply Int32.toBitVec_inj.mp
    show ((y <<< ((32 : Int32).toInt64 &&& 63)) ||| (I k).toInt64).toBitVec.signExtend 32 = _
    rw [BitVec.signExtend_eq_setWidth_of_le _ (by decide), Int64.toBitVec_or, sh32, sx64 h1 h2]
    ext i hi
    rw [BitVec.getElem_setWidth, BitVec.getLsbD_or, BitVec.getLsbD_shiftLeft, BitVec.getLsbD_setWidth]
    have a4 : decide (i < 32) = true := decide_eq_true hi
    have a5 : decide (i < 64) = true := decide_eq_true (by omega)
    rw [a4, a5]
    simp
    exact BitVec.getLsbD_eq_getElem hi
  unfold va
  rw [e, I_ti (by omega) h2]
theorem so_up {t : Int64} {k : Int} (h1 : 0 ≤ k) (h2 : k < 2147483648) : so (((t >>> ((32 : Int32).toInt64 &&& 63)) <<< ((32 : Int32).toInt64 &&& 63)) ||| (I k).toInt64) = so t := so_or h1 h2
theorem so_tg {s k : Int} (h1 : 0 ≤ k) (h2 : k < 2147483648) (h3 : RG s) : so (((I s).toInt64 <<< ((32 : Int32).toInt64 &&& 63)) ||| (I k).toInt64) = s := by
  rw [so_or h1 h2, Int32.toInt32_toInt64, I_ti h3.1 h3.2]
theorem moved_e {k : Int} : (38654705664 : Int64) ||| (I k).toInt64 = ((I 9).toInt64 <<< ((32 : Int32).toInt64 &&& 63)) ||| (I k).toInt64 := by
  congr 1
end
section
set_option maxRecDepth 100000
def xcO (h : Nat → Int64) (src : Nat → Int64) (bs : Nat → Nat) (c : Nat) : Int64 := h (vn (src (bs c)) + (c - bs c))
def CPc (h : Nat → Int64) (n : Nat) (ow kd : Nat → Nat) (P : Int64 → Prop) (d : Nat → Int64) (s0 U i : Nat) (src : Nat → Int64) (bs : Nat → Nat) : Prop :=
  s0 ≤ U ∧ (∀ c, s0 ≤ c → c < U → s0 ≤ bs c ∧ bs c ≤ c ∧ bs (bs c) = bs c ∧ isH (src (bs c)) ∧ GT n ow kd P (src (bs c)) ∧ c < bs c + blk h (src (bs c)) ∧ bs c + blk h (src (bs c)) ≤ U ∧ ∀ j, j < blk h (src (bs c)) → bs (bs c + j) = bs c) ∧
  ∀ c, s0 ≤ c → c < U → (¬ isH (xcO h src bs c) → d c = xcO h src bs c) ∧ (isH (xcO h src bs c) → (i ≤ c → d c = xcO h src bs c) ∧ (c < i → so (d c) = so (xcO h src bs c) ∧ ∃ b, va (d c) = ((b : Nat) : Int) ∧ s0 ≤ b ∧ b < U ∧ bs b = b ∧ src b = xcO h src bs c))
section
variable {h d : Nat → Int64} {n N b s0 U i : Nat} {ow kd bs : Nat → Nat} {Fv : Int64 → Int64 → Prop} {P : Int64 → Prop} {u v w : MS} {t x y : Int64} {src : Nat → Int64}
theorem BK_agree {h2 : Nat → Int64} (e : ∀ i, i < n → h2 i = h i) (z : isH t) (k : BKc h n ow kd Fv t) : BKc h2 n ow kd Fv t ∧ blk h2 t = blk h t := by
  have hb := blk_pos (h := h) z
  obtain ⟨k1, k2, k3, k4, k5, k6⟩ := k
  have e0 : h2 (vn t) = h (vn t) := e _ (by omega)
  have e1 : so t = 3 → h2 (vn t + 1) = h (vn t + 1) := fun z3 => e _ (by
    have : blk h t = 2 + vn (h (vn t + 1)) := by unfold blk; rw [if_neg (by omega), if_neg (by omega), if_pos z3]
    omega)
  have eb : blk h2 t = blk h t := by
    unfold blk
    rw [e0]
    by_cases z3 : so t = 3
    · rw [e1 z3]
    · rw [if_neg z3, if_neg z3]
  refine ⟨⟨k1, fun y => by rw [e0]; exact k2 y, fun y => by rw [e0, e1 y]; exact k3 y, by rw [eb]; exact k4, k5, by rw [eb]; exact k6⟩, eb⟩
theorem CPc_next (c : CPc h n ow kd P d s0 U i src bs) (h1 : s0 ≤ i) (h2 : i < U) (hx : ¬ isH (d i)) : CPc h n ow kd P d s0 U (i + 1) src bs := by
  obtain ⟨c1, c2, c3⟩ := c
  refine ⟨c1, c2, fun c a1 a2 => ⟨(c3 c a1 a2).1, fun z => ⟨fun a3 => ((c3 c a1 a2).2 z).1 (by omega), fun a3 => ?_⟩⟩⟩
  by_cases e : c = i
  · subst e
    have := ((c3 c a1 a2).2 z).1 (Nat.le_refl _)
    rw [this] at hx
    exact absurd z hx
  · exact ((c3 c a1 a2).2 z).2 (by omega)
theorem CPc_at (c : CPc h n ow kd P d s0 U i src bs) (h1 : s0 ≤ i) (h2 : i < U) (hx : isH (d i)) : d i = xcO h src bs i := by
  obtain ⟨c1, c2, c3⟩ := c
  by_cases z : isH (xcO h src bs i)
  · exact ((c3 i h1 h2).2 z).1 (Nat.le_refl _)
  · exact (c3 i h1 h2).1 z
theorem xcO_gt (g : HPc h n ow kd Fv P) (hF : FVc Fv) (c : CPc h n ow kd P d s0 U i src bs) {k : Nat} (h1 : s0 ≤ k) (h2 : k < U) (z : isH (xcO h src bs k)) : GT n ow kd P (xcO h src bs k) := by
  obtain ⟨c1, c2, c3⟩ := c
  obtain ⟨a1, a2, a3, a4, a5, a6, a7, a8⟩ := c2 k h1 h2
  obtain ⟨b1, b2⟩ := HP_bkc g a4 a5
  have hp : prt (src (bs k)) ≤ k - bs k := by
    by_cases e : prt (src (bs k)) ≤ k - bs k
    · exact e
    · exact absurd z (head_nh b1 a4 hF.1 (by omega))
  exact b2 _ hp (by omega)
theorem CPc_add {d2 : Nat → Int64} (g : HPc h n ow kd Fv P) (hF : FVc Fv) (c : CPc h n ow kd P d s0 U i src bs) (h1 : s0 ≤ i) (h2 : i < U) (hx : isH (d i)) (e1 : ∀ j, j < blk h (d i) → d2 (U + j) = h (vn (d i) + j)) (e2 : so (d2 i) = so (d i) ∧ va (d2 i) = ((U : Nat) : Int)) (e3 : ∀ k, s0 ≤ k → k < U → k ≠ i → d2 k = d k) :
    CPc h n ow kd P d2 s0 (U + blk h (d i)) (i + 1) (fun k => if k = U then d i else src k) (fun k => if U ≤ k then U else bs k) := by
  have hxe := CPc_at c h1 h2 hx
  have gx : GT n ow kd P (d i) := by rw [hxe]; exact xcO_gt g hF c h1 h2 (by rw [← hxe]; exact hx)
  have hb := blk_pos (h := h) hx
  obtain ⟨c1, c2, c3⟩ := c
  have hxo : ∀ k, s0 ≤ k → k < U → xcO h (fun k => if k = U then d i else src k) (fun k => if U ≤ k then U else bs k) k = xcO h src bs k := by
    intro k k1 k2
    unfold xcO
    have := (c2 k k1 k2).2.1
    simp only [if_neg (show ¬ U ≤ k by omega), if_neg (show ¬ bs k = U by omega)]
  have hxn : ∀ k, U ≤ k → xcO h (fun k => if k = U then d i else src k) (fun k => if U ≤ k then U else bs k) k = h (vn (d i) + (k - U)) := by
    intro k k1
    unfold xcO
    simp only [if_pos k1, if_true]
  refine ⟨by omega, fun k k1 k2 => ?_, fun k k1 k2 => ?_⟩
  · by_cases e : k < U
    · obtain ⟨a1, a2, a3, a4, a5, a6, a7, a8⟩ := c2 k k1 e
      simp only [if_neg (show ¬ U ≤ k by omega), if_neg (show ¬ U ≤ bs k by omega), if_neg (show ¬ bs k = U by omega)]
      refine ⟨a1, a2, a3, a4, a5, a6, by omega, fun j hj => ?_⟩
      rw [if_neg (by omega)]; exact a8 j hj
    · simp only [if_pos (show U ≤ k by omega), if_pos (Nat.le_refl U), if_true]
      exact ⟨c1, by omega, trivial, hx, gx, by omega, Nat.le_refl _, fun j hj => if_pos (by omega)⟩
  · by_cases e : k < U
    · rw [hxo k k1 e]
      obtain ⟨q1, q2⟩ := c3 k k1 e
      by_cases ei : k = i
      · subst ei
        rw [← hxe]
        refine ⟨fun z => absurd hx z, fun _ => ⟨fun z => by omega, fun _ => ⟨e2.1, U, e2.2, c1, by omega, ?_, ?_⟩⟩⟩
        · exact if_pos (Nat.le_refl _)
        · exact if_pos rfl
      · rw [e3 k k1 e ei]
        refine ⟨q1, fun z => ⟨fun z2 => (q2 z).1 (by omega), fun z2 => ?_⟩⟩
        obtain ⟨r1, b, r2, r3, r4, r5, r6⟩ := (q2 z).2 (by omega)
        exact ⟨r1, b, r2, r3, by omega, by simp only [if_neg (show ¬ U ≤ b by omega)]; exact r5, by simp only [if_neg (show ¬ b = U by omega)]; exact r6⟩
    · rw [hxn k (by omega)]
      have := e1 (k - U) (by omega)
      rw [show U + (k - U) = k by omega] at this
      exact ⟨fun _ => this, fun _ => ⟨fun _ => this, fun z => by omega⟩⟩
theorem CPc_root (hx : isH t) (gx : GT n ow kd P t) (e1 : ∀ j, j < blk h t → d (s0 + j) = h (vn t + j)) : CPc h n ow kd P d s0 (s0 + blk h t) s0 (fun _ => t) (fun _ => s0) := by
  refine ⟨by omega, fun k k1 k2 => ⟨Nat.le_refl _, k1, rfl, hx, gx, by omega, Nat.le_refl _, fun _ _ => rfl⟩, fun k k1 k2 => ?_⟩
  have := e1 (k - s0) (by omega)
  rw [show s0 + (k - s0) = k by omega] at this
  have e : xcO h (fun _ => t) (fun _ => s0) k = h (vn t + (k - s0)) := rfl
  rw [e]
  exact ⟨fun _ => this, fun _ => ⟨fun _ => this, fun z => by omega⟩⟩
def owN (s0 : Nat) (owd bs : Nat → Nat) : Nat → Nat := fun k => if k < s0 then owd k else bs k
def kdN (s0 : Nat) (kdd : Nat → Nat) (src : Nat → Int64) : Nat → Nat := fun k => if k < s0 then kdd k else (so (src k)).toNat
theorem so_nat (z : isH t) : (((so t).toNat : Nat) : Int) = so t := by unfold isH at z; omega
theorem CPc_sz {owd kdd : Nat → Nat} (g : HPc h n ow kd Fv P) (hF : FVc Fv) (c : CPc h n ow kd P d s0 U U src bs) : ∀ (f : Nat) (k : Nat) (p : Int64) (s : Nat), s0 ≤ k → k < U → bs k = k → so p = so (src k) → va p = ((k : Nat) : Int) → SZc h n ow kd Fv P f (src k) s → BKc d U (owN s0 owd bs) (kdN s0 kdd src) Fv p ∧ blk d p = blk h (src k) ∧ SZc d U (owN s0 owd bs) (kdN s0 kdd src) Fv P f p s := by
  have bk : ∀ (k : Nat) (p : Int64), s0 ≤ k → k < U → bs k = k → so p = so (src k) → va p = ((k : Nat) : Int) → BKc d U (owN s0 owd bs) (kdN s0 kdd src) Fv p ∧ blk d p = blk h (src k) := by
    intro k p k1 k2 k3 p1 p2
    obtain ⟨c1, c2, c3⟩ := c
    obtain ⟨a1, a2, a3, a4, a5, a6, a7, a8⟩ := c2 k k1 k2
    rw [k3] at a4 a5 a6 a7 a8
    obtain ⟨⟨b1, b2, b3, b4, b5, b6⟩, b7⟩ := HP_bkc g a4 a5
    have hv : vn p = k := by unfold vn; rw [p2]; exact Int.toNat_natCast k
    have hc : ∀ j, j < prt (src k) → d (k + j) = h (vn (src k) + j) := by
      intro j hj
      have hp := prt_le (h := h) a4
      have hbs := a8 j (by omega)
      have hxe : xcO h src bs (k + j) = h (vn (src k) + j) := by unfold xcO; rw [hbs, show k + j - k = j by omega]
      have hn := head_nh ⟨b1, b2, b3, b4, b5, b6⟩ a4 hF.1 hj
      rw [← hxe] at hn ⊢
      exact (c3 (k + j) (by omega) (by omega)).1 hn
    have eb : blk d p = blk h (src k) := by
      unfold blk
      rw [p1, hv]
      rcases a4 with z | z | z
      · rw [if_neg (by omega), if_neg (by omega), if_pos z, if_neg (by omega), if_neg (by omega), if_pos z, hc 1 (by unfold prt; rw [if_neg (by omega), if_neg (by omega)]; omega)]
      · have := hc 0 (by unfold prt; rw [if_neg (by omega), if_pos z]; omega)
        rw [Nat.add_zero, Nat.add_zero] at this
        rw [if_neg (by omega), if_pos z, if_neg (by omega), if_pos z, this]
      · rw [if_pos z, if_pos z]
    refine ⟨⟨by omega, fun z => ?_, fun z => ?_, by rw [hv, eb]; exact a7, ?_, fun j hj => ?_⟩, eb⟩
    · rw [p1] at z
      have := hc 0 (by unfold prt; rw [if_neg (by omega), if_pos z]; omega)
      rw [Nat.add_zero, Nat.add_zero] at this
      rw [hv, this]; exact b2 z
    · rw [p1] at z
      have e0 := hc 0 (by unfold prt; rw [if_neg (by omega), if_neg (by omega)]; omega)
      have e1 := hc 1 (by unfold prt; rw [if_neg (by omega), if_neg (by omega)]; omega)
      rw [Nat.add_zero, Nat.add_zero] at e0
      rw [hv, e0, e1]; exact b3 z
    · rw [hv, p1]
      unfold kdN
      rw [if_neg (by omega)]
      exact so_nat a4
    · rw [hv]
      rw [eb] at hj
      unfold owN
      rw [if_neg (by omega)]
      exact a8 j hj
  intro f
  induction f with
  | zero => intro k p s _ _ _ _ _ z; exact z.elim
  | succ f ih =>
    intro k p s k1 k2 k3 p1 p2 z
    obtain ⟨B1, B2⟩ := bk k p k1 k2 k3 p1 p2
    refine ⟨B1, B2, ?_⟩
    have hs : isH (src k) := by have := (c.2.1 k k1 k2).2.2.2.1; rw [k3] at this; exact this
    have hH : isH p := by unfold isH; rw [p1]; exact hs
    rcases z with z | ⟨z1, z2, cc, z3, z4⟩
    · exact absurd hs z.1
    · have hpp : prt p = prt (src k) := by unfold prt; rw [p1]
      have hv : vn p = k := by unfold vn; rw [p2]; exact Int.toNat_natCast k
      refine Or.inr ⟨hH, B1, cc, fun j j1 j2 => ?_, by rw [B2, hpp]; exact z4⟩
      rw [hpp] at j1
      rw [B2] at j2
      have zj := z3 j j1 j2
      obtain ⟨a1, a2, a3, a4, a5, a6, a7, a8⟩ := c.2.1 k k1 k2
      rw [k3] at a4 a5 a6 a7 a8
      have hbs := a8 j j2
      have hxe : xcO h src bs (k + j) = h (vn (src k) + j) := by unfold xcO; rw [hbs, show k + j - k = j by omega]
      obtain ⟨q1, q2⟩ := c.2.2 (k + j) (by omega) (by omega)
      rw [hv]
      rw [hxe] at q1 q2
      by_cases hx : isH (h (vn (src k) + j))
      · obtain ⟨r1, b, r2, r3, r4, r5, r6⟩ := (q2 hx).2 (by omega)
        exact (ih b (d (k + j)) (cc j) r3 r4 r5 (by rw [r1, r6]) r2 (by rw [r6]; exact zj)).2.2
      · rw [q1 hx]
        cases f with
        | zero => exact zj.elim
        | succ f =>
          rcases zj with zj | zj
          · exact Or.inl zj
          · exact absurd zj.1 hx
theorem CPc_hp {d0 : Nat → Int64} {owd kdd : Nat → Nat} (g : HPc h n ow kd Fv P) (hF : FVc Fv) (c : CPc h n ow kd P d s0 U U src bs) (gd : HPc d0 s0 owd kdd Fv P) (e0 : ∀ k, k < s0 → d k = d0 k) : HPc d U (owN s0 owd bs) (kdN s0 kdd src) Fv P ∧ (∀ t, GT s0 owd kdd P t → GT U (owN s0 owd bs) (kdN s0 kdd src) P t) := by
  have hU := c.1
  have lift : ∀ f t s, SZc d0 s0 owd kdd Fv P f t s → SZc d U (owN s0 owd bs) (kdN s0 kdd src) Fv P f t s := fun f t s z => SZ_extc hU (fun i hi => e0 i hi) (fun i hi => if_pos hi) (fun i hi => if_pos hi) (fun _ _ q => q) (fun _ q => q) z
  refine ⟨fun t ht gt => ?_, fun t gt => ?_⟩
  · rcases gt with z | ⟨z1, z2, z3, z4, z5⟩
    · exact absurd ht z.1
    · by_cases e : vn t < s0
      · have z4' : owd (vn t) = vn t := by unfold owN at z4; rw [if_pos e] at z4; exact z4
        have z5' : (kdd (vn t) : Int) = so t := by unfold kdN at z5; rw [if_pos e] at z5; exact z5
        obtain ⟨f, s, y1, y2⟩ := gd t ht (Or.inr ⟨z1, z2, e, z4', z5'⟩)
        refine ⟨f, s, lift f t s y1, fun hs => ?_⟩
        obtain ⟨w1, w2, w3⟩ := y2 hs
        obtain ⟨f2, cc, B, -, -⟩ := SZ_blkc y1 ht
        obtain ⟨-, eb⟩ := BK_agree (h2 := d) (fun i hi => e0 i hi) ht B
        have hb4 := B.2.2.2.1
        exact ⟨w1, by rw [eb]; exact w2, by rw [e0 _ (by omega)]; exact w3⟩
      · have z4' : bs (vn t) = vn t := by unfold owN at z4; rw [if_neg e] at z4; exact z4
        have z5' : (((so (src (vn t))).toNat : Nat) : Int) = so t := by unfold kdN at z5; rw [if_neg e] at z5; exact z5
        obtain ⟨a1, a2, a3, a4, a5, a6, a7, a8⟩ := c.2.1 (vn t) (by omega) z3
        rw [z4'] at a4 a5 a6 a7 a8
        rw [so_nat a4] at z5'
        obtain ⟨f, s, y1, y2⟩ := g (src (vn t)) a4 a5
        obtain ⟨B1, B2, B3⟩ := CPc_sz (owd := owd) (kdd := kdd) g hF c f (vn t) t s (by omega) z3 z4' z5'.symm (vn_e z2) y1
        refine ⟨f, s, B3, fun hs => ?_⟩
        obtain ⟨w1, w2, w3⟩ := y2 hs
        refine ⟨by omega, by rw [B2]; exact w2, ?_⟩
        have hbs := a8 1 (by omega)
        have hxe : xcO h src bs (vn t + 1) = h (vn (src (vn t)) + 1) := by unfold xcO; rw [hbs, show vn t + 1 - vn t = 1 by omega]
        have := (c.2.2 (vn t + 1) (by omega) (by omega)).1
        rw [hxe] at this
        rw [this w3]; exact w3
  · rcases gt with z | ⟨z1, z2, z3, z4, z5⟩
    · exact Or.inl z
    · exact Or.inr ⟨z1, z2, by omega, by unfold owN; rw [if_pos z3]; exact z4, by unfold kdN; rw [if_pos z3]; exact z5⟩
end
end
section
set_option maxRecDepth 100000
section
variable {h d0 : Nat → Int64} {n N b s0 q s : Nat} {ow kd owd kdd : Nat → Nat} {Fv : Int64 → Int64 → Prop} {P : Int64 → Prop} {u v w u0 : MS} {t x y : Int64}
def CIS (h : Nat → Int64) (n : Nat) (ow kd : Nat → Nat) (Fv : Int64 → Int64 → Prop) (P : Int64 → Prop) (q b s0 s : Nat) (d0 : Nat → Int64) (t : Int64) (u0 w : MS) (i : Nat) (cp : Int64) : Prop :=
  ∃ (U : Nat) (src : Nat → Int64) (bs z : Nat → Nat), FR [pq q 4] [] [] [pq q 2] u0 w ∧ F w (pq q 4) = ((U : Nat) : Int) ∧ CPc h n ow kd P (w.2.2.2 (pq q 2)) s0 U i src bs ∧ (∀ c, i ≤ c → c < U → (isH (xcO h src bs c) → ∃ f, SZc h n ow kd Fv P f (xcO h src bs c) (z c)) ∧ (¬ isH (xcO h src bs c) → z c = 0)) ∧ U + smm z i (U - i) = s0 + s ∧ (∀ k, k < s0 → w.2.2.2 (pq q 2) k = d0 k) ∧ s0 < U ∧ bs s0 = s0 ∧ src s0 = t ∧ so cp = so t ∧ va cp = ((s0 : Nat) : Int) ∧ s0 ≤ i ∧ i ≤ U
theorem smm_z {z z2 : Nat → Nat} {a m : Nat} (h : ∀ j, a ≤ j → j < a + m → z j = z2 j) : smm z a m = smm z2 a m := smm_eq h
theorem src_row (hb : ∀ c, c < n → u0.2.2.2 b c = h c) (hbq : b = pq q 2 → n ≤ s0 ∧ ∀ k, k < s0 → u0.2.2.2 b k = d0 k) (f : FR [pq q 4] [] [] [pq q 2] u0 w) (e : ∀ k, k < s0 → w.2.2.2 (pq q 2) k = d0 k) : ∀ c, c < n → w.2.2.2 b c = h c := by
  intro c hc
  by_cases eb : b = pq q 2
  · have := hbq eb
    rw [eb, e c (by omega), ← this.2 c (by omega)]
    exact hb c hc
  · rw [FRj f (by simpa using eb)]; exact hb c hc
theorem wi_row {k : Nat} {x : Int} : (wi u k x).2.2.2 = u.2.2.2 := rfl
theorem upJ_row {k : Nat} {g : Nat → Int64} : (upJ u k g).2.2.2 k = g := if_pos rfl
theorem FR_upJ {is ls as js : List Nat} {k : Nat} {g : Nat → Int64} (f : FR is ls as js u w) (h : k ∈ js) : FR is ls as js u (upJ w k g) := ⟨f.1, f.2.1, f.2.2.1, fun j hj => (if_neg (fun (e : j = k) => hj (e ▸ h))).trans (f.2.2.2 j hj)⟩
theorem FR_upA {is ls as js : List Nat} {k : Nat} {g : Nat → Int32} (f : FR is ls as js u w) (h : k ∈ as) : FR is ls as js u (upA w k g) := ⟨f.1, f.2.1, fun j hj => (if_neg (fun (e : j = k) => hj (e ▸ h))).trans (f.2.2.1 j hj), f.2.2.2⟩
theorem cpOkI {a c k : Int} {x y : Nat} (h : 0 ≤ a ∧ 0 ≤ c ∧ 0 ≤ k ∧ a + k ≤ x ∧ c + k ≤ y) (hx : x ≤ 2147483647) (hy : y ≤ 2147483647) : cpOk (I a) (I c) (I k) x y = true := by
  unfold cpOk
  have z : (OfNat.ofNat 0 : Int) = 0 := rfl
  refine decide_eq_true ⟨?_, ?_, ?_, ?_, ?_⟩
  · rw [I_lit (n := 0), I_lt (by omega) (by omega) (by decide) (by decide)]; omega
  · rw [I_lit (n := 0), I_lt (by omega) (by omega) (by decide) (by decide)]; omega
  · rw [I_lit (n := 0), I_lt (by omega) (by omega) (by decide) (by decide)]; omega
  · rw [I_tn (by omega) (by omega), I_tn (by omega) (by omega)]; omega
  · rw [I_tn (by omega) (by omega), I_tn (by omega) (by omega)]; omega
theorem e_cp {α : Type} {Q : MS → α → Prop} {a c k : Int} {x y : Nat} {p : Option (MS × α)} (h : 0 ≤ a ∧ 0 ≤ c ∧ 0 ≤ k ∧ a + k ≤ x ∧ c + k ≤ y) (hx : x ≤ 2147483647) (hy : y ≤ 2147483647) (q : OK Q p) : OK Q (ck (cpOk (I a) (I c) (I k) x y) p) := ok_ck.mpr ⟨cpOkI h hx hy, q⟩
theorem cpy_in {α : Type} {f g : Nat → α} {a c k j : Nat} (h : j < k) : va_cpy f g a c k (c + j) = f (a + j) := by
  unfold va_cpy
  rw [if_pos (by omega), show c + j - c = j by omega]
theorem cpy_out {α : Type} {f g : Nat → α} {a c k i : Nat} (h : ¬ (c ≤ i ∧ i < c + k)) : va_cpy f g a c k i = g i := if_neg h
theorem copy_loop (g : HPc h n ow kd Fv P) (hF : FVc Fv) (hn : n ≤ 512) (hs : s0 + s ≤ 512) (hb : ∀ c, c < n → u0.2.2.2 b c = h c) (hbq : b = pq q 2 → n ≤ s0 ∧ ∀ k, k < s0 → u0.2.2.2 b k = d0 k) : ∀ (M i : Nat) (w : MS) (cp : Int64), 513 - i < M → CIS h n ow kd Fv P q b s0 s d0 t u0 w i cp → OK (fun w r => ∃ U, CIS h n ow kd Fv P q b s0 s d0 t u0 w U r ∧ U = s0 + s) (hg_Pr_copyIn N M w q b t cp (I s0) (I i)) := by
  intro M
  induction M with
  | zero => intro i w cp z; omega
  | succ M ih =>
    intro i w cp hm hc
    have hc' := hc
    obtain ⟨U, src, bs, z, f, hU, hC, hz, hsum, hd, h1, h2, h3, h4, h5, h6, h7⟩ := hc
    have hrow := src_row hb hbq f hd
    have hUb : U ≤ 512 := by omega
    show OK _ (hb_Pr_copyIn_15 N (hg_Pr_copyIn N M) w q b t cp (I s0) (I i))
    unfold hb_Pr_copyIn_15
    rw [I_F (k := pq q 4), hU]
    refine k_le ⟨by omega, by omega⟩ ⟨by omega, by omega⟩ (fun e => ?_) (fun e => ?_)
    · have ei : i = U := by omega
      subst ei
      rw [Nat.sub_self] at hsum
      have e0 : smm z i 0 = 0 := rfl
      exact ok_some.mpr ⟨i, hc', by omega⟩
    · have hi : i < U := by omega
      refine k_le ⟨by omega, by omega⟩ ⟨by omega, by omega⟩ (fun _ => ?_) (fun e2 => by omega)
      refine e_in ⟨by omega, by omega⟩ (by decide) ?_
      rw [tnI (n := i) rfl (by omega)]
      unfold hb_Pr_copyIn_42 hb_Pr_copyIn_140
      have nextI : I (i : Int) + 1 = I ((i + 1 : Nat) : Int) := by rw [lit1q, I_add]; congr 1
      by_cases hx : isH (w.2.2.2 (pq q 2) i)
      · have hxe := CPc_at hC h6 hi hx
        have gx : GT n ow kd P (w.2.2.2 (pq q 2) i) := by rw [hxe]; exact xcO_gt g hF hC h6 hi (by rw [← hxe]; exact hx)
        obtain ⟨bk, -⟩ := HP_bkc g hx gx
        obtain ⟨bk2, eb⟩ := BK_agree (h2 := w.2.2.2 b) hrow hx bk
        have hbp := blk_pos (h := h) hx
        have hbl := bk.2.2.2.1
        obtain ⟨fz, zz⟩ := (hz i (Nat.le_refl _) hi).1 (by rw [← hxe]; exact hx)
        rw [← hxe] at zz
        obtain ⟨f2, cc, -, zp, ze⟩ := SZ_blkc zz hx
        have hp := prt_le (h := h) hx
        have hcut := smm_cut (c := z) hi
        generalize hX : w.2.2.2 (pq q 2) i = X at *
        have hv := vn_e bk.1
        rw [cellsAt_h rfl hn hx bk2, bnd_so, eb, lit0q]
        refine k_eq ⟨by omega, by omega⟩ ⟨by decide, by decide⟩ (fun e3 => by omega) (fun _ => ?_)
        rw [I_F (k := pq q 4), hU, I_add, I_lit (n := 512)]
        refine k_le ⟨by omega, by omega⟩ ⟨by decide, by decide⟩ (fun _ => ?_) (fun e3 => absurd e3 (by show ¬ (512 : Int) < _; omega))
        refine ok_lt.mpr ?_
        rw [valI, hv]
        refine e_cp ⟨by omega, by omega, by omega, by omega, by omega⟩ (by decide) (by decide) (ok_lt.mpr ?_)
        rw [tnI (n := vn X) rfl (by omega), tnI (n := U) rfl (by omega), tnI (n := blk h X) rfl (by omega)]
        generalize hw9 : upJ w (pq q 2) (va_cpy (w.2.2.2 b) (w.2.2.2 (pq q 2)) (vn X) U (blk h X)) = w9
        have f9 : FR [pq q 4] [] [] [pq q 2] u0 w9 := by rw [← hw9]; exact FR_upJ f (by simp)
        have e9 : w9.1 (pq q 4) = I (U : Int) := by rw [← hw9]; show w.1 (pq q 4) = _; rw [I_F, hU]
        have r9 : w9.2.2.2 (pq q 2) = va_cpy (w.2.2.2 b) (w.2.2.2 (pq q 2)) (vn X) U (blk h X) := by rw [← hw9]; exact upJ_row
        refine ok_lt.mpr ?_
        rw [e9, I_add, wi_e]
        refine k_le ⟨by omega, by omega⟩ ⟨by omega, by omega⟩ (fun _ => ?_) (fun e2 => by omega)
        refine e_in ⟨by omega, by omega⟩ (by decide) (ok_lt.mpr ?_)
        rw [tnI (n := i) rfl (by omega), wj_e, nextI]
        generalize hpt : (((X >>> ((32 : Int32).toInt64 &&& 63)) <<< ((32 : Int32).toInt64 &&& 63)) ||| (I (U : Int)).toInt64) = pt
        have sp : so pt = so X := by rw [← hpt]; exact so_up (by omega) (by omega)
        have vp : va pt = ((U : Nat) : Int) := by rw [← hpt]; exact va_or (by omega) (by omega)
        have rr : ∀ k, (wj (wi w9 (pq q 4) ((U : Int) + (blk h X : Int))) (pq q 2) i pt).2.2.2 (pq q 2) k = if k = i then pt else va_cpy (w.2.2.2 b) (w.2.2.2 (pq q 2)) (vn X) U (blk h X) k := by
          intro k
          rw [wj_row]
          by_cases ek : k = i
          · rw [if_pos ek, if_pos ek]
          · rw [if_neg ek, if_neg ek]
            show w9.2.2.2 (pq q 2) k = _
            rw [r9]
        have hC2 := CPc_add (d2 := (wj (wi w9 (pq q 4) ((U : Int) + (blk h X : Int))) (pq q 2) i pt).2.2.2 (pq q 2)) g hF hC h6 hi (by rw [hX]; exact hx) (fun j hj => by
          rw [hX] at hj ⊢
          rw [rr, if_neg (by omega), cpy_in hj]
          exact hrow _ (by omega)) (by rw [hX, rr, if_pos rfl]; exact ⟨sp, vp⟩) (fun k k1 k2 k3 => by rw [rr, if_neg k3, cpy_out (by omega)])
        rw [hX] at hC2
        have hz2e : ∀ c, U ≤ c → (if U ≤ c then wgt cc (prt X) (c - U) else z c) = wgt cc (prt X) (c - U) := fun c hc => if_pos hc
        refine ih (i + 1) _ cp (by omega) ⟨U + blk h X, _, _, fun c => if U ≤ c then wgt cc (prt X) (c - U) else z c, FR.wj (FR.wi f9 (by simp)) (by simp), ?_, hC2, fun c c1 c2 => ?_, ?_, fun k hk => ?_, by omega, ?_, ?_, h4, h5, by omega, by omega⟩
        · rw [F_wj, F_wi (by omega) (by omega), if_pos rfl]; omega
        · by_cases ec : c < U
          · have hbs := (hC.2.1 c (by omega) ec).2.1
            have hxo : xcO h (fun k => if k = U then X else src k) (fun k => if U ≤ k then U else bs k) c = xcO h src bs c := by
              unfold xcO
              simp only [if_neg (show ¬ U ≤ c by omega), if_neg (show ¬ bs c = U by omega)]
            rw [hxo]
            simp only [if_neg (show ¬ U ≤ c by omega)]
            exact hz c (by omega) ec
          · have hxn : xcO h (fun k => if k = U then X else src k) (fun k => if U ≤ k then U else bs k) c = h (vn X + (c - U)) := by
              unfold xcO
              simp only [if_pos (show U ≤ c by omega), if_true]
            rw [hxn]
            simp only [if_pos (show U ≤ c by omega)]
            unfold wgt
            by_cases ep : c - U < prt X
            · rw [if_pos ep]
              exact ⟨fun y => absurd y (head_nh bk hx hF.1 ep), fun _ => rfl⟩
            · rw [if_neg ep]
              have zc := zp (c - U) (by omega) (by omega)
              exact ⟨fun _ => ⟨f2, zc⟩, fun y => SZ_nhc zc y⟩
        · have e1 := smm_add (c := fun c => if U ≤ c then wgt cc (prt X) (c - U) else z c) (a := i + 1) (x := U - (i + 1)) (y := blk h X)
          rw [show U - (i + 1) + blk h X = U + blk h X - (i + 1) by omega, show i + 1 + (U - (i + 1)) = U by omega] at e1
          have e2 : smm (fun c => if U ≤ c then wgt cc (prt X) (c - U) else z c) (i + 1) (U - (i + 1)) = smm z (i + 1) (U - (i + 1)) := smm_eq (fun j j1 j2 => if_neg (by omega))
          have e3 : smm (fun c => if U ≤ c then wgt cc (prt X) (c - U) else z c) U (blk h X) = smm (wgt cc (prt X)) 0 (blk h X) := by
            have gen : ∀ m, smm (fun c => if U ≤ c then wgt cc (prt X) (c - U) else z c) U m = smm (wgt cc (prt X)) 0 m := by
              intro m
              induction m with
              | zero => rfl
              | succ m ihm =>
                show smm _ U m + (if U ≤ U + m then wgt cc (prt X) (U + m - U) else z (U + m)) = smm _ 0 m + wgt cc (prt X) (0 + m)
                rw [ihm, if_pos (by omega), show U + m - U = 0 + m by omega]
            exact gen _
          have e4 := wgt_sum (d := cc) hp
          omega
        · rw [rr, if_neg (by omega), cpy_out (by omega)]; exact hd k hk
        · show (if U ≤ s0 then U else bs s0) = s0
          rw [if_neg (by omega)]; exact h2
        · show (if s0 = U then X else src s0) = t
          rw [if_neg (by omega)]; exact h3
      · rw [cellsAt_n hx, bnd_so]
        refine ok_br.mpr ⟨fun _ => ?_, fun y => absurd y (by decide)⟩
        rw [nextI]
        have hcut := smm_cut (c := z) hi
        have z0 : z i = 0 := by
          refine (hz i (Nat.le_refl _) hi).2 (fun y => ?_)
          have := ((hC.2.2 i h6 hi).2 y).1 (Nat.le_refl _)
          rw [this] at hx
          exact hx y
        exact ih (i + 1) w cp (by omega) ⟨U, src, bs, z, f, hU, CPc_next hC h6 hi hx, fun c c1 c2 => hz c (by omega) c2, by omega, hd, h1, h2, h3, h4, h5, by omega, by omega⟩
theorem copyIn_hd {f0 : Nat} (g : HPc h n ow kd Fv P) (hF : FVc Fv) (hn : n ≤ 512) (hs : s0 + s ≤ 512) (hb : ∀ c, c < n → u.2.2.2 b c = h c) (hbq : b = pq q 2 → n ≤ s0) (z : SZc h n ow kd Fv P f0 t s) (hu : F u (pq q 4) = ((s0 : Nat) : Int)) (gd : HPc (u.2.2.2 (pq q 2)) s0 owd kdd Fv P) (hN : 600 ≤ N) :
    OK (fun w r => FR [pq q 4] [] [] [pq q 2] u w ∧ F w (pq q 4) = ((s0 + s : Nat) : Int) ∧ (∀ k, k < s0 → w.2.2.2 (pq q 2) k = u.2.2.2 (pq q 2) k) ∧ ∃ ow2 kd2, HPc (w.2.2.2 (pq q 2)) (s0 + s) ow2 kd2 Fv P ∧ (∀ k, k < s0 → ow2 k = owd k ∧ kd2 k = kdd k) ∧ (∀ t, GT s0 owd kdd P t → GT (s0 + s) ow2 kd2 P t) ∧ GT (s0 + s) ow2 kd2 P r ∧ (∃ f2, SZc (w.2.2.2 (pq q 2)) (s0 + s) ow2 kd2 Fv P f2 r s) ∧ so r = so t ∧ (isH t → va r = ((s0 : Nat) : Int) ∧ ∀ j, j < prt t → w.2.2.2 (pq q 2) (s0 + j) = h (vn t + j))) (hm_Pr_copyIn N u q b t) := by
  unfold hm_Pr_copyIn hb_Pr_copyIn_0
  rw [I_F (k := pq q 4), hu, lit1q, I_sub]
  have gt := SZ_gtc z
  cases N with
  | zero => omega
  | succ M =>
    show OK _ (hb_Pr_copyIn_15 (M + 1) (hg_Pr_copyIn (M + 1) M) u q b t t (I s0) (I ((s0 : Int) - 1)))
    unfold hb_Pr_copyIn_15
    rw [I_F (k := pq q 4), hu]
    refine k_le ⟨by omega, by omega⟩ ⟨by omega, by omega⟩ (fun e => by omega) (fun _ => ?_)
    refine k_le ⟨by omega, by omega⟩ ⟨by omega, by omega⟩ (fun e => by omega) (fun _ => ?_)
    unfold hb_Pr_copyIn_42 hb_Pr_copyIn_140
    have nextI : I ((s0 : Int) - 1) + 1 = I (s0 : Int) := by rw [lit1q, I_add]; congr 1; omega
    by_cases hx : isH t
    · obtain ⟨f2, cc, bk, zp, ze⟩ := SZ_blkc z hx
      obtain ⟨bk2, eb⟩ := BK_agree (h2 := u.2.2.2 b) hb hx bk
      have hbp := blk_pos (h := h) hx
      have hbl := bk.2.2.2.1
      have hp := prt_le (h := h) hx
      have hv := vn_e bk.1
      rw [cellsAt_h rfl hn hx bk2, bnd_so, eb, lit0q]
      refine k_eq ⟨by omega, by omega⟩ ⟨by decide, by decide⟩ (fun e3 => by omega) (fun _ => ?_)
      rw [I_F (k := pq q 4), hu, I_add, I_lit (n := 512)]
      refine k_le ⟨by omega, by omega⟩ ⟨by decide, by decide⟩ (fun _ => ?_) (fun e3 => absurd e3 (by show ¬ (512 : Int) < _; omega))
      refine ok_lt.mpr ?_
      rw [valI, hv]
      refine e_cp ⟨by omega, by omega, by omega, by omega, by omega⟩ (by decide) (by decide) (ok_lt.mpr ?_)
      rw [tnI (n := vn t) rfl (by omega), tnI (n := s0) rfl (by omega), tnI (n := blk h t) rfl (by omega)]
      generalize hw9 : upJ u (pq q 2) (va_cpy (u.2.2.2 b) (u.2.2.2 (pq q 2)) (vn t) s0 (blk h t)) = w9
      have f9 : FR [pq q 4] [] [] [pq q 2] u w9 := by rw [← hw9]; exact FR_upJ FR.rf (by simp)
      have e9 : w9.1 (pq q 4) = I (s0 : Int) := by rw [← hw9]; show u.1 (pq q 4) = _; rw [I_F, hu]
      have r9 : w9.2.2.2 (pq q 2) = va_cpy (u.2.2.2 b) (u.2.2.2 (pq q 2)) (vn t) s0 (blk h t) := by rw [← hw9]; exact upJ_row
      refine ok_lt.mpr ?_
      rw [e9, I_add, wi_e]
      refine k_le ⟨by omega, by omega⟩ ⟨by omega, by omega⟩ (fun e => by omega) (fun _ => ?_)
      rw [nextI]
      generalize hpt : (((t >>> ((32 : Int32).toInt64 &&& 63)) <<< ((32 : Int32).toInt64 &&& 63)) ||| (I (s0 : Int)).toInt64) = pt
      have sp : so pt = so t := by rw [← hpt]; exact so_up (by omega) (by omega)
      have vp : va pt = ((s0 : Nat) : Int) := by rw [← hpt]; exact va_or (by omega) (by omega)
      have rr : (wi w9 (pq q 4) ((s0 : Int) + (blk h t : Int))).2.2.2 (pq q 2) = va_cpy (u.2.2.2 b) (u.2.2.2 (pq q 2)) (vn t) s0 (blk h t) := r9
      have hC := CPc_root (h := h) (n := n) (ow := ow) (kd := kd) (P := P) (d := (wi w9 (pq q 4) ((s0 : Int) + (blk h t : Int))).2.2.2 (pq q 2)) (s0 := s0) hx gt (fun j hj => by rw [rr, cpy_in hj]; exact hb _ (by omega))
      refine ok_mono (copy_loop (N := M + 1) (u0 := u) (d0 := u.2.2.2 (pq q 2)) g hF hn hs hb (fun e => ⟨hbq e, fun k _ => by rw [e]⟩) M s0 (wi w9 (pq q 4) ((s0 : Int) + (blk h t : Int))) pt (by omega) ⟨s0 + blk h t, _, _, fun c => wgt cc (prt t) (c - s0), FR.wi f9 (by simp), ?_, hC, fun c c1 c2 => ?_, ?_, fun k hk => ?_, by omega, rfl, rfl, sp, vp, Nat.le_refl _, by omega⟩) (fun w r hw => ?_)
      · rw [F_wi (by omega) (by omega), if_pos rfl]; omega
      · have hxn : xcO h (fun _ => t) (fun _ => s0) c = h (vn t + (c - s0)) := rfl
        rw [hxn]
        show (_ → ∃ f, SZc h n ow kd Fv P f _ (wgt cc (prt t) (c - s0))) ∧ (_ → wgt cc (prt t) (c - s0) = 0)
        unfold wgt
        by_cases ep : c - s0 < prt t
        · rw [if_pos ep]
          exact ⟨fun y => absurd y (head_nh bk hx hF.1 ep), fun _ => rfl⟩
        · rw [if_neg ep]
          have zc := zp (c - s0) (by omega) (by omega)
          exact ⟨fun _ => ⟨f2, zc⟩, fun y => SZ_nhc zc y⟩
      · have gen : ∀ m, smm (fun c => wgt cc (prt t) (c - s0)) s0 m = smm (wgt cc (prt t)) 0 m := by
          intro m
          induction m with
          | zero => rfl
          | succ m ihm =>
            show smm _ s0 m + wgt cc (prt t) (s0 + m - s0) = smm _ 0 m + wgt cc (prt t) (0 + m)
            rw [ihm, show s0 + m - s0 = 0 + m by omega]
        have e4 := wgt_sum (d := cc) hp
        rw [show s0 + blk h t - s0 = blk h t by omega, gen]
        omega
      · rw [rr, cpy_out (by omega)]
      · obtain ⟨U, ⟨U2, src, bs, z, f, hU, hC, hz, hsum, hd, h1, h2, h3, h4, h5, h6, h7⟩, hUe⟩ := hw
        have : U2 = s0 + s := by omega
        subst this
        subst hUe
        obtain ⟨a1, a2⟩ := CPc_hp (owd := owd) (kdd := kdd) g hF hC gd hd
        obtain ⟨b1, b2, b3⟩ := CPc_sz (owd := owd) (kdd := kdd) g hF hC f0 s0 r s (Nat.le_refl _) h1 h2 (by rw [h3]; exact h4) h5 (by rw [h3]; assumption)
        refine ⟨f, hU, hd, _, _, a1, fun k hk => ⟨if_pos hk, if_pos hk⟩, a2, SZ_gtc b3, ⟨f0, b3⟩, h4, fun _ => ⟨h5, fun j hj => ?_⟩⟩
        obtain ⟨c1, c2, c3⟩ := hC
        have c4 := (c2 s0 (Nat.le_refl _) h1).2.2.2.2.2.2.2 j (by rw [h2, h3]; omega)
        rw [h2] at c4
        have c5 := (c2 s0 (Nat.le_refl _) h1).2.2.2.2.2.2.1
        rw [h2, h3] at c5
        have ex : xcO h src bs (s0 + j) = h (vn t + j) := by unfold xcO; rw [c4, h3, show s0 + j - s0 = j by omega]
        have c6 := (c3 (s0 + j) (by omega) (by omega)).1 (by rw [ex]; exact head_nh bk hx hF.1 hj)
        rw [c6, ex]
    · have es := SZ_nhc z hx
      subst es
      rw [cellsAt_n hx, bnd_so]
      refine ok_br.mpr ⟨fun _ => ?_, fun y => absurd y (by decide)⟩
      rw [nextI]
      cases M with
      | zero => omega
      | succ M =>
        show OK _ (hb_Pr_copyIn_15 (M + 1 + 1) (hg_Pr_copyIn (M + 1 + 1) M) u q b t t (I s0) (I s0))
        unfold hb_Pr_copyIn_15
        rw [I_F (k := pq q 4), hu]
        refine k_le ⟨by omega, by omega⟩ ⟨by omega, by omega⟩ (fun _ => ?_) (fun e => by omega)
        refine ok_some.mpr ⟨FR.rf, hu, fun _ _ => rfl, owd, kdd, gd, fun _ _ => ⟨rfl, rfl⟩, fun t q => q, ?_, ?_, rfl, fun y => absurd y hx⟩
        · rcases gt with y | y
          · exact Or.inl y
          · exact absurd y.1 hx
        · cases f0 with
          | zero => exact z.elim
          | succ f0 =>
            rcases z with y | y
            · exact ⟨1, Or.inl y⟩
            · exact absurd y.1 hx
theorem copyIn_ok {f0 : Nat} (g : HPc h n ow kd Fv P) (hF : FVc Fv) (hn : n ≤ 512) (hs : s0 + s ≤ 512) (hb : ∀ c, c < n → u.2.2.2 b c = h c) (hbq : b = pq q 2 → n ≤ s0) (z : SZc h n ow kd Fv P f0 t s) (hu : F u (pq q 4) = ((s0 : Nat) : Int)) (gd : HPc (u.2.2.2 (pq q 2)) s0 owd kdd Fv P) (hN : 600 ≤ N) :
    OK (fun w r => FR [pq q 4] [] [] [pq q 2] u w ∧ F w (pq q 4) = ((s0 + s : Nat) : Int) ∧ (∀ k, k < s0 → w.2.2.2 (pq q 2) k = u.2.2.2 (pq q 2) k) ∧ ∃ ow2 kd2, HPc (w.2.2.2 (pq q 2)) (s0 + s) ow2 kd2 Fv P ∧ (∀ k, k < s0 → ow2 k = owd k ∧ kd2 k = kdd k) ∧ (∀ t, GT s0 owd kdd P t → GT (s0 + s) ow2 kd2 P t) ∧ GT (s0 + s) ow2 kd2 P r ∧ ∃ f2, SZc (w.2.2.2 (pq q 2)) (s0 + s) ow2 kd2 Fv P f2 r s) (hm_Pr_copyIn N u q b t) :=
  ok_mono (copyIn_hd g hF hn hs hb hbq z hu gd hN) (fun w r hw => by
    obtain ⟨a1, a2, a3, ow2, kd2, a4, a5, a6, a7, a8, -⟩ := hw
    exact ⟨a1, a2, a3, ow2, kd2, a4, a5, a6, a7, a8⟩)
end
end
section
set_option maxRecDepth 100000
theorem t_bits (t : Int64) : t.toBitVec = ((t.toBitVec.sshiftRight 32).setWidth 32 : BitVec 32) ++ (t.toBitVec.setWidth 32 : BitVec 32) := by
  ext i hi
  rw [BitVec.getElem_append]
  by_cases e : i < 32
  · rw [dif_pos e, BitVec.getElem_setWidth]
    exact (BitVec.getLsbD_eq_getElem hi).symm
  · rw [dif_neg e, BitVec.getElem_setWidth, BitVec.getLsbD_sshiftRight]
    have hi2 : i < 64 := hi
    have a1 : decide (64 ≤ i - 32) = false := decide_eq_false (by omega)
    rw [a1, if_pos (show 32 + (i - 32) < 64 by omega), show 32 + (i - 32) = i by omega]
    simp
    exact (BitVec.getLsbD_eq_getElem hi).symm
theorem t_ext {x y : Int64} (h1 : so x = so y) (h2 : va x = va y) : x = y := by
  have e1 := Int32.toInt_inj.mp h1
  have e2 := Int32.toInt_inj.mp h2
  have f1 : (x.toBitVec.sshiftRight 32).setWidth 32 = (y.toBitVec.sshiftRight 32).setWidth 32 := by rw [← so_bv, ← so_bv, e1]
  have f2 : x.toBitVec.setWidth 32 = y.toBitVec.setWidth 32 := by
    have e3 : x.toInt32.toBitVec = y.toInt32.toBitVec := by rw [e2]
    have g1 : ∀ z : Int64, z.toInt32.toBitVec = z.toBitVec.setWidth 32 := fun z => by
      show z.toBitVec.signExtend 32 = _
      rw [BitVec.signExtend_eq_setWidth_of_le _ (by decide)]
    rw [← g1, ← g1, e3]
  apply Int64.toBitVec_inj.mp
  rw [t_bits x, t_bits y, f1, f2]
section
variable {h d e : Nat → Int64} {n N b s0 U i : Nat} {ow kd bs : Nat → Nat} {Fv : Int64 → Int64 → Prop} {P : Int64 → Prop} {u v w : MS} {t x y : Int64} {src : Nat → Int64}
theorem CPc_grow {d2 : Nat → Int64} (c : CPc h n ow kd P d s0 U i src bs) (hi : i ≤ U) (hx : isH x) (gx : GT n ow kd P x) (e1 : ∀ j, j < blk h x → d2 (U + j) = h (vn x + j)) (e3 : ∀ k, s0 ≤ k → k < U → d2 k = d k) :
    CPc h n ow kd P d2 s0 (U + blk h x) i (fun k => if k = U then x else src k) (fun k => if U ≤ k then U else bs k) := by
  have hb := blk_pos (h := h) hx
  obtain ⟨c1, c2, c3⟩ := c
  have hxo : ∀ k, s0 ≤ k → k < U → xcO h (fun k => if k = U then x else src k) (fun k => if U ≤ k then U else bs k) k = xcO h src bs k := by
    intro k k1 k2
    unfold xcO
    have := (c2 k k1 k2).2.1
    simp only [if_neg (show ¬ U ≤ k by omega), if_neg (show ¬ bs k = U by omega)]
  have hxn : ∀ k, U ≤ k → xcO h (fun k => if k = U then x else src k) (fun k => if U ≤ k then U else bs k) k = h (vn x + (k - U)) := by
    intro k k1
    unfold xcO
    simp only [if_pos k1, if_true]
  refine ⟨by omega, fun k k1 k2 => ?_, fun k k1 k2 => ?_⟩
  · by_cases e : k < U
    · obtain ⟨a1, a2, a3, a4, a5, a6, a7, a8⟩ := c2 k k1 e
      simp only [if_neg (show ¬ U ≤ k by omega), if_neg (show ¬ U ≤ bs k by omega), if_neg (show ¬ bs k = U by omega)]
      refine ⟨a1, a2, a3, a4, a5, a6, by omega, fun j hj => ?_⟩
      rw [if_neg (by omega)]; exact a8 j hj
    · simp only [if_pos (show U ≤ k by omega), if_pos (Nat.le_refl U), if_true]
      exact ⟨c1, by omega, trivial, hx, gx, by omega, Nat.le_refl _, fun j hj => if_pos (by omega)⟩
  · by_cases e : k < U
    · rw [hxo k k1 e, e3 k k1 e]
      obtain ⟨q1, q2⟩ := c3 k k1 e
      refine ⟨q1, fun z => ⟨(q2 z).1, fun z2 => ?_⟩⟩
      obtain ⟨r1, b, r2, r3, r4, r5, r6⟩ := (q2 z).2 z2
      exact ⟨r1, b, r2, r3, by omega, by simp only [if_neg (show ¬ U ≤ b by omega)]; exact r5, by simp only [if_neg (show ¬ b = U by omega)]; exact r6⟩
    · rw [hxn k (by omega)]
      have := e1 (k - U) (by omega)
      rw [show U + (k - U) = k by omega] at this
      exact ⟨fun _ => this, fun _ => ⟨fun _ => this, fun z => by omega⟩⟩
theorem CPc_ptr {d2 : Nat → Int64} (c : CPc h n ow kd P d s0 U i src bs) (h1 : s0 ≤ i) (h2 : i < U) (hx : isH (d i)) {b : Nat} (hb1 : s0 ≤ b) (hb2 : b < U) (hb3 : bs b = b) (hb4 : src b = d i) (e2 : so (d2 i) = so (d i) ∧ va (d2 i) = ((b : Nat) : Int)) (e3 : ∀ k, s0 ≤ k → k < U → k ≠ i → d2 k = d k) : CPc h n ow kd P d2 s0 U (i + 1) src bs := by
  have hxe := CPc_at c h1 h2 hx
  obtain ⟨c1, c2, c3⟩ := c
  refine ⟨c1, c2, fun k k1 k2 => ?_⟩
  by_cases ei : k = i
  · subst ei
    rw [← hxe]
    exact ⟨fun z => absurd hx z, fun _ => ⟨fun z => by omega, fun _ => ⟨e2.1, b, e2.2, hb1, hb2, hb3, hb4⟩⟩⟩
  · rw [e3 k k1 k2 ei]
    exact ⟨(c3 k k1 k2).1, fun z => ⟨fun z2 => ((c3 k k1 k2).2 z).1 (by omega), fun z2 => ((c3 k k1 k2).2 z).2 (by omega)⟩⟩
def FWD (h : Nat → Int64) (n : Nat) (e : Nat → Int64) (U : Nat) (src : Nat → Int64) (bs : Nat → Nat) : Prop := (∀ b, b < U → bs b = b → so (e (vn (src b))) = 9 ∧ va (e (vn (src b))) = ((b : Nat) : Int)) ∧ ∀ c, c < n → (∀ b, b < U → bs b = b → vn (src b) ≠ c) → e c = h c
def MVD_c (U : Nat) (src : Nat → Int64) (bs : Nat → Nat) (k : Nat) : Prop := ∃ b, b < U ∧ bs b = b ∧ vn (src b) = k
def CNT (ow : Nat → Nat) (n U : Nat) (src : Nat → Int64) (bs : Nat → Nat) : Prop := ∃ S : Nat → Prop, ∃ _ : DecidablePred S, (∀ k, S k ↔ MVD_c U src bs k) ∧ U ≤ cnt S ow n
theorem no_mark (g : HPc h n ow kd Fv P) (hF : FVc Fv) (hP : ∀ t, P t → PT u t) (hx : isH x) (gx : GT n ow kd P x) : so (h (vn x)) ≠ 9 := by
  obtain ⟨b1, b2⟩ := HP_bkc g hx gx
  rcases hx with z | z | z
  · have := hF.1 _ _ (b1.2.2.1 z).2; omega
  · have := (b1.2.1 z).2; omega
  · have hb : blk h x = 2 := by unfold blk; rw [if_pos z]
    have hp : prt x = 0 := by unfold prt; rw [if_pos z]
    have := GT_so hP (b2 0 (by omega) (by omega))
    rw [Nat.add_zero] at this
    omega
theorem fwd_yes (g : HPc h n ow kd Fv P) (hF : FVc Fv) (hP : ∀ t, P t → PT u t) (f : FWD h n e U src bs) (c : CPc h n ow kd P d 0 U i src bs) (hx : isH x) (gx : GT n ow kd P x) (hm : so (e (vn x)) = 9) : ∃ b, b < U ∧ bs b = b ∧ src b = x ∧ va (e (vn x)) = ((b : Nat) : Int) := by
  have hn : vn x < n := by
    rcases gx with z | z
    · exact absurd hx z.1
    · exact z.2.2.1
  have : ¬ ∀ b, b < U → bs b = b → vn (src b) ≠ vn x := by
    intro z
    have := f.2 (vn x) hn z
    rw [this] at hm
    exact no_mark g hF hP hx gx hm
  have ⟨b, hb⟩ : ∃ b, b < U ∧ bs b = b ∧ vn (src b) = vn x := by
    by_cases e : ∃ b, b < U ∧ bs b = b ∧ vn (src b) = vn x
    · exact e
    · exact absurd (fun b b1 b2 b3 => e ⟨b, b1, b2, b3⟩) this
  obtain ⟨b1, b2, b3⟩ := hb
  refine ⟨b, b1, b2, ?_, ?_⟩
  · obtain ⟨a1, a2, a3, a4, a5, -⟩ := c.2.1 b (Nat.zero_le _) b1
    rw [b2] at a4 a5
    have kk : so (src b) = so x := by
      rcases gx with z | z
      · exact absurd hx z.1
      · rcases a5 with y | y
        · exact absurd a4 y.1
        · rw [← y.2.2.2.2, ← z.2.2.2.2, b3]
    have v1 : 0 ≤ va (src b) := by
      rcases a5 with y | y
      · exact absurd a4 y.1
      · exact y.2.1
    have v2 : 0 ≤ va x := by
      rcases gx with y | y
      · exact absurd hx y.1
      · exact y.2.1
    refine t_ext kk ?_
    rw [vn_e v1, vn_e v2, b3]
  · rw [← b3]; exact (f.1 b b1 b2).2
theorem fwd_no (g : HPc h n ow kd Fv P) (f : FWD h n e U src bs) (c : CPc h n ow kd P d 0 U i src bs) (hx : isH x) (gx : GT n ow kd P x) (hm : so (e (vn x)) ≠ 9) : (∀ j, j < blk h x → e (vn x + j) = h (vn x + j)) ∧ ¬ MVD_c U src bs (vn x) := by
  have hno : ¬ MVD_c U src bs (vn x) := by
    rintro ⟨b, b1, b2, b3⟩
    have := (f.1 b b1 b2).1
    rw [b3] at this
    exact hm this
  refine ⟨fun j hj => ?_, hno⟩
  obtain ⟨k1, -⟩ := HP_bkc g hx gx
  have hbl := k1.2.2.2.1
  refine f.2 _ (by omega) (fun b b1 b2 b3 => ?_)
  obtain ⟨a1, a2, a3, a4, a5, -⟩ := c.2.1 b (Nat.zero_le _) b1
  rw [b2] at a4 a5
  have o1 := k1.2.2.2.2.2 j hj
  have o2 : ow (vn (src b)) = vn (src b) := by
    rcases a5 with y | y
    · exact absurd a4 y.1
    · exact y.2.2.2.1
  rw [b3, o1] at o2
  exact hno ⟨b, b1, b2, by omega⟩
theorem CNT_add (g : HPc h n ow kd Fv P) (k : CNT ow n U src bs) (hx : isH x) (gx : GT n ow kd P x) (hno : ¬ MVD_c U src bs (vn x)) (hbs : ∀ b, b < U → bs b ≤ b) : CNT ow n (U + blk h x) (fun k => if k = U then x else src k) (fun k => if U ≤ k then U else bs k) ∧ U + blk h x ≤ n := by
  obtain ⟨S, dS, s1, s2⟩ := k
  obtain ⟨k1, -⟩ := HP_bkc g hx gx
  have hbl := k1.2.2.2.1
  have hb := blk_pos (h := h) hx
  have dS2 : DecidablePred (fun k => S k ∨ k = vn x) := fun k => by
    have := dS k
    exact inferInstanceAs (Decidable (S k ∨ k = vn x))
  have ca := @cnt_add S (fun k => S k ∨ k = vn x) dS dS2 ow (vn x) (blk h x) k1.2.2.2.2.2 (fun z => hno ((s1 _).mp z)) (fun i => Iff.rfl) n (by omega)
  have cl := @cnt_le (fun k => S k ∨ k = vn x) dS2 ow n
  refine ⟨⟨fun k => S k ∨ k = vn x, dS2, fun k => ⟨fun z => ?_, fun z => ?_⟩, by omega⟩, by omega⟩
  · rcases z with z | z
    · obtain ⟨b, b1, b2, b3⟩ := (s1 k).mp z
      exact ⟨b, by omega, by simp only [if_neg (show ¬ U ≤ b by omega)]; exact b2, by simp only [if_neg (show ¬ b = U by omega)]; exact b3⟩
    · exact ⟨U, by omega, by simp, by simp [z]⟩
  · obtain ⟨b, b1, b2, b3⟩ := z
    by_cases e : U ≤ b
    · simp only [if_pos e] at b2
      subst b2
      simp only [if_true] at b3
      exact Or.inr b3.symm
    · simp only [if_neg e] at b2
      simp only [if_neg (show ¬ b = U by omega)] at b3
      exact Or.inl ((s1 k).mpr ⟨b, by omega, b2, b3⟩)
theorem FWD_add {e2 : Nat → Int64} (f : FWD h n e U src bs) (hno : ¬ MVD_c U src bs (vn x)) (h1 : so (e2 (vn x)) = 9 ∧ va (e2 (vn x)) = ((U : Nat) : Int)) (h2 : ∀ k, k ≠ vn x → e2 k = e k) {m : Nat} (hm : 0 < m) (hU : ∀ b, b < U + m → (if U ≤ b then U else bs b) = b → b ≤ U) : FWD h n e2 (U + m) (fun k => if k = U then x else src k) (fun k => if U ≤ k then U else bs k) := by
  refine ⟨fun b b1 b2 => ?_, fun c c1 c2 => ?_⟩
  · by_cases e3 : U ≤ b
    · simp only [if_pos e3] at b2
      subst b2
      simp only [if_true]
      exact h1
    · simp only [if_neg e3] at b2
      simp only [if_neg (show ¬ b = U by omega)]
      rw [h2 _ (fun z => hno ⟨b, by omega, b2, z⟩)]
      exact f.1 b (by omega) b2
  · have hcx : c ≠ vn x := by
      have := c2 U (by omega) (by simp)
      simp only [if_true] at this
      exact fun z => this z.symm
    rw [h2 c hcx]
    refine f.2 c c1 (fun b b1 b2 b3 => ?_)
    have := c2 b (by omega) (by simp only [if_neg (show ¬ U ≤ b by omega)]; exact b2)
    simp only [if_neg (show ¬ b = U by omega)] at this
    exact this b3
def RTO (U : Nat) (src : Nat → Int64) (bs : Nat → Nat) (o r : Int64) : Prop := (¬ isH o ∧ r = o) ∨ (isH o ∧ so r = so o ∧ ∃ b, va r = ((b : Nat) : Int) ∧ b < U ∧ bs b = b ∧ src b = o)
theorem RTO_add {o r : Int64} {m : Nat} (hr : RTO U src bs o r) : RTO (U + m) (fun k => if k = U then x else src k) (fun k => if U ≤ k then U else bs k) o r := by
  rcases hr with z | ⟨z1, z5, b, z2, z3, z4, z6⟩
  · exact Or.inl z
  · exact Or.inr ⟨z1, z5, b, z2, by omega, by simp only [if_neg (show ¬ U ≤ b by omega)]; exact z4, by simp only [if_neg (show ¬ b = U by omega)]; exact z6⟩
theorem RTO_sz {o r : Int64} {owd kdd : Nat → Nat} (g : HPc h n ow kd Fv P) (hF : FVc Fv) (c : CPc h n ow kd P d 0 U U src bs) (hr : RTO U src bs o r) {f s : Nat} (z : SZc h n ow kd Fv P f o s) : SZc d U (owN 0 owd bs) (kdN 0 kdd src) Fv P f r s := by
  rcases hr with ⟨z1, rfl⟩ | ⟨z1, z5, b, z2, z3, z4, z6⟩
  · cases f with
    | zero => exact z.elim
    | succ f =>
      rcases z with y | y
      · exact Or.inl y
      · exact absurd y.1 z1
  · exact (CPc_sz (owd := owd) (kdd := kdd) g hF c f b r s (Nat.zero_le _) z3 z4 (by rw [z6]; exact z5) z2 (by rw [z6]; exact z)).2.2
theorem RTO_tl {o r : Int64} (c : CPc h n ow kd P d 0 U U src bs) (hr : RTO U src bs o r) : ∀ k, (∀ j, j < k → so (tlc h o j) = 7) → RTO U src bs (tlc h o k) (tlc d r k)
  | 0, _ => hr
  | k + 1, hk => by
    have e7 := hk k (by omega)
    rcases RTO_tl c hr k (fun j hj => hk j (by omega)) with ⟨z, -⟩ | ⟨z1, z5, b, z2, z3, z4, z6⟩
    · exact absurd (Or.inr (Or.inr e7)) z
    · show RTO U src bs (h (vn (tlc h o k) + 1)) (d (vn (tlc d r k) + 1))
      have hv : vn (tlc d r k) = b := by unfold vn; rw [z2]; exact Int.toNat_natCast b
      obtain ⟨c1, c2, c3⟩ := c
      obtain ⟨a1, a2, a3, a4, a5, a6, a7, a8⟩ := c2 b (by omega) z3
      rw [z4, z6] at a4 a5 a6 a7 a8
      have bk : blk h (tlc h o k) = 2 := by unfold blk; rw [if_pos e7]
      rw [bk] at a6 a7 a8
      have hbs := a8 1 (by omega)
      have hxe : xcO h src bs (b + 1) = h (vn (tlc h o k) + 1) := by unfold xcO; rw [hbs, z6, show b + 1 - b = 1 by omega]
      obtain ⟨q1, q2⟩ := c3 (b + 1) (by omega) (by omega)
      rw [hxe] at q1 q2
      rw [hv]
      by_cases hx : isH (h (vn (tlc h o k) + 1))
      · obtain ⟨r1, b2, r2, r3, r4, r5, r6⟩ := (q2 hx).2 (by omega)
        exact Or.inr ⟨hx, r1, b2, r2, r4, r5, r6⟩
      · exact Or.inl ⟨hx, q1 hx⟩
theorem RTO_so {o r : Int64} (hr : RTO U src bs o r) : so r = so o := by
  rcases hr with ⟨-, rfl⟩ | ⟨-, z, -⟩
  · rfl
  · exact z
theorem HP_0 {owd kdd : Nat → Nat} : HPc d 0 owd kdd Fv P := by
  intro t ht gt
  rcases gt with z | z
  · exact absurd ht z.1
  · have := z.2.2.1; omega
end
end
section
set_option maxRecDepth 100000
def pn (k i j c : Nat) : Nat := if k < j then 0 else if k = j then i else c
def rkc (k : Nat) : Nat := if k = 0 then 33 else if k = 1 then 35 else if k = 2 then 6 else 3
def ROWc (n : Nat) (ow kd : Nat → Nat) (P : Int64 → Prop) (U : Nat) (src : Nat → Int64) (bs : Nat → Nat) (r0 row : Nat → Int64) (c k : Nat) : Prop := ∀ j, j < c → GT n ow kd P (r0 j) ∧ (j < k → RTO U src bs (r0 j) (row j)) ∧ (k ≤ j → row j = r0 j)
def CLc (u0 : MS) (q : Nat) (h : Nat → Int64) (n : Nat) (ow kd : Nat → Nat) (P : Int64 → Prop) (B W Y : Nat) (w : MS) (k i U : Nat) : Prop :=
  ∃ (src : Nat → Int64) (bs : Nat → Nat), FR [] [] [] [pq q 2, pq q 3, pq q 33, pq q 35, pq q 6] u0 w ∧ CPc h n ow kd P (w.2.2.2 (pq q 3)) 0 U (if k = 3 then i else 0) src bs ∧ FWD h n (w.2.2.2 (pq q 2)) U src bs ∧ CNT ow n U src bs ∧ ROWc n ow kd P U src bs (u0.2.2.2 (pq q 33)) (w.2.2.2 (pq q 33)) B (pn k i 0 B) ∧ ROWc n ow kd P U src bs (u0.2.2.2 (pq q 35)) (w.2.2.2 (pq q 35)) W (pn k i 1 W) ∧ ROWc n ow kd P U src bs (u0.2.2.2 (pq q 6)) (w.2.2.2 (pq q 6)) Y (pn k i 2 Y) ∧ (k = 3 → i ≤ U)
section
variable {h : Nat → Int64} {n N q B W Y k : Nat} {ow kd : Nat → Nat} {Fv : Int64 → Int64 → Prop} {P : Int64 → Prop} {u v w u0 : MS} {t x y : Int64}
theorem ROW_add {U m c k : Nat} {src : Nat → Int64} {bs : Nat → Nat} {r0 row : Nat → Int64} (r : ROWc n ow kd P U src bs r0 row c k) : ROWc n ow kd P (U + m) (fun k => if k = U then x else src k) (fun k => if U ≤ k then U else bs k) r0 row c k := fun j hj => ⟨(r j hj).1, fun z => RTO_add ((r j hj).2.1 z), (r j hj).2.2⟩
theorem ROW_set {U c k : Nat} {src : Nat → Int64} {bs : Nat → Nat} {r0 row row2 : Nat → Int64} (r : ROWc n ow kd P U src bs r0 row c k) (h1 : ∀ j, j ≠ k → row2 j = row j) (h2 : k < c → RTO U src bs (r0 k) (row2 k)) : ROWc n ow kd P U src bs r0 row2 c (k + 1) := by
  intro j hj
  by_cases e : j = k
  · subst e; exact ⟨(r j hj).1, fun _ => h2 hj, fun z => by omega⟩
  · rw [h1 j e]; exact ⟨(r j hj).1, fun z => (r j hj).2.1 (by omega), fun z => (r j hj).2.2 (by omega)⟩
theorem CNT_le {U : Nat} {src : Nat → Int64} {bs : Nat → Nat} (c : CNT ow n U src bs) : U ≤ n := by
  obtain ⟨S, dS, -, s2⟩ := c
  have := @cnt_le S dS ow n
  omega
def CLB (u0 : MS) (q B W Y : Nat) : Prop := (∃ l, F u0 (pq q 43) = ((l : Nat) : Int) ∧ B ≤ l ∧ l ≤ 1000000) ∧ (∃ l, F u0 (pq q 45) = ((l : Nat) : Int) ∧ W ≤ l ∧ l ≤ 1000000) ∧ Y ≤ 30
def cbd (B W Y k : Nat) : Nat := if k = 0 then B else if k = 1 then W else if k = 2 then Y else 512
theorem lnQ_e {m : MS} {k l : Nat} (h : F m (pq q k) = ((l : Nat) : Int)) : lnQ m q k = l := by
  unfold lnQ
  rw [I_F, h]
  exact tnI rfl (by have := F_r m (pq q k); omega)
theorem lnX_k (hB : CLB u0 q B W Y) (f : FR [] [] [] [pq q 2, pq q 3, pq q 33, pq q 35, pq q 6] u0 w) (hk : k ≤ 3) : cbd B W Y k ≤ lnX w (pq q (rkc k)) ∧ lnX w (pq q (rkc k)) ≤ 1000000 := by
  obtain ⟨⟨l1, a1, a2, a3⟩, ⟨l2, b1, b2, b3⟩, c1⟩ := hB
  have e43 : lnQ w q 43 = l1 := lnQ_e (by rw [FR.F f (by simp)]; exact a1)
  have e45 : lnQ w q 45 = l2 := lnQ_e (by rw [FR.F f (by simp)]; exact b1)
  rcases (show k = 0 ∨ k = 1 ∨ k = 2 ∨ k = 3 by omega) with rfl | rfl | rfl | rfl
  · rw [lnX_e (by decide)]; show B ≤ lnQ w q 43 ∧ lnQ w q 43 ≤ _; omega
  · rw [lnX_e (by decide)]; show W ≤ lnQ w q 45 ∧ lnQ w q 45 ≤ _; omega
  · rw [lnX_e (by decide)]; show Y ≤ 30 ∧ 30 ≤ _; omega
  · rw [lnX_e (by decide)]; show 512 ≤ 512 ∧ 512 ≤ _; omega
theorem pq_inj {a b : Nat} (h : a ≠ b) : pq q a ≠ pq q b := by unfold pq; omega
theorem CLc_at {i U : Nat} (c : CLc u0 q h n ow kd P B W Y w k i U) (hk : k ≤ 3) (g : HPc h n ow kd Fv P) (hF : FVc Fv) (hi : i < (if k = 3 then U else cbd B W Y k)) (hx : isH (w.2.2.2 (pq q (rkc k)) i)) : GT n ow kd P (w.2.2.2 (pq q (rkc k)) i) := by
  obtain ⟨src, bs, f, c1, c2, c3, r0, r1, r2, r3⟩ := c
  rcases (show k = 0 ∨ k = 1 ∨ k = 2 ∨ k = 3 by omega) with rfl | rfl | rfl | rfl
  · show GT n ow kd P (w.2.2.2 (pq q 33) i); rw [(r0 i hi).2.2 (Nat.le_refl _)]; exact (r0 i hi).1
  · show GT n ow kd P (w.2.2.2 (pq q 35) i); rw [(r1 i hi).2.2 (Nat.le_refl _)]; exact (r1 i hi).1
  · show GT n ow kd P (w.2.2.2 (pq q 6) i); rw [(r2 i hi).2.2 (Nat.le_refl _)]; exact (r2 i hi).1
  · have hi : i < U := hi
    have hx : isH (w.2.2.2 (pq q 3) i) := hx
    rw [if_pos rfl] at c1
    show GT n ow kd P (w.2.2.2 (pq q 3) i)
    rw [CPc_at c1 (Nat.zero_le _) hi hx]
    exact xcO_gt g hF c1 (Nat.zero_le _) hi (by rw [← CPc_at c1 (Nat.zero_le _) hi hx]; exact hx)
theorem CLc_skip {i U : Nat} (c : CLc u0 q h n ow kd P B W Y w k i U) (hk : k ≤ 3) (hi : i < (if k = 3 then U else cbd B W Y k)) (hx : ¬ isH (w.2.2.2 (pq q (rkc k)) i)) : CLc u0 q h n ow kd P B W Y w k (i + 1) U := by
  obtain ⟨src, bs, f, c1, c2, c3, r0, r1, r2, r3⟩ := c
  have same : ∀ {r0 row : Nat → Int64} {c : Nat}, ¬ isH (row i) → ROWc n ow kd P U src bs r0 row c i → i < c → ROWc n ow kd P U src bs r0 row c (i + 1) := fun {r0 row c} hn r hic => ROW_set r (fun _ _ => rfl) (fun _ => by
    have e := (r i hic).2.2 (Nat.le_refl _)
    rw [e] at hn ⊢
    exact Or.inl ⟨hn, rfl⟩)
  rcases (show k = 0 ∨ k = 1 ∨ k = 2 ∨ k = 3 by omega) with rfl | rfl | rfl | rfl
  · exact ⟨src, bs, f, c1, c2, c3, same hx r0 hi, r1, r2, fun z => (by cases z)⟩
  · exact ⟨src, bs, f, c1, c2, c3, r0, same hx r1 hi, r2, fun z => (by cases z)⟩
  · exact ⟨src, bs, f, c1, c2, c3, r0, r1, same hx r2 hi, fun z => (by cases z)⟩
  · rw [if_pos rfl] at c1
    exact ⟨src, bs, f, by rw [if_pos rfl]; exact CPc_next c1 (Nat.zero_le _) hi hx, c2, c3, r0, r1, r2, fun _ => hi⟩
theorem rk_ne2 (hk : k ≤ 3) : pq q (rkc k) ≠ pq q 2 := by
  rcases (show k = 0 ∨ k = 1 ∨ k = 2 ∨ k = 3 by omega) with rfl | rfl | rfl | rfl <;> exact pq_inj (by decide)
theorem rk_in (hk : k ≤ 3) : pq q (rkc k) ∈ [pq q 2, pq q 3, pq q 33, pq q 35, pq q 6] := by
  rcases (show k = 0 ∨ k = 1 ∨ k = 2 ∨ k = 3 by omega) with rfl | rfl | rfl | rfl <;> simp [rkc]
theorem CLc_put {i U b : Nat} {src : Nat → Int64} {bs : Nat → Nat} {p : Int64} (hk : k ≤ 3) (hi : i < (if k = 3 then U else cbd B W Y k)) (hx : isH (w.2.2.2 (pq q (rkc k)) i)) (f : FR [] [] [] [pq q 2, pq q 3, pq q 33, pq q 35, pq q 6] u0 w) (c1 : CPc h n ow kd P (w.2.2.2 (pq q 3)) 0 U (if k = 3 then i else 0) src bs) (c2 : FWD h n (w.2.2.2 (pq q 2)) U src bs) (c3 : CNT ow n U src bs) (r0 : ROWc n ow kd P U src bs (u0.2.2.2 (pq q 33)) (w.2.2.2 (pq q 33)) B (pn k i 0 B)) (r1 : ROWc n ow kd P U src bs (u0.2.2.2 (pq q 35)) (w.2.2.2 (pq q 35)) W (pn k i 1 W)) (r2 : ROWc n ow kd P U src bs (u0.2.2.2 (pq q 6)) (w.2.2.2 (pq q 6)) Y (pn k i 2 Y))
    (hb2 : b < U) (hb3 : bs b = b) (hb4 : src b = w.2.2.2 (pq q (rkc k)) i) (e1 : so p = so (w.2.2.2 (pq q (rkc k)) i)) (e2 : va p = ((b : Nat) : Int)) : CLc u0 q h n ow kd P B W Y (wj w (pq q (rkc k)) i p) k (i + 1) U := by
  have hp : isH p := by unfold isH; rw [e1]; exact hx
  have hr : RTO U src bs (w.2.2.2 (pq q (rkc k)) i) p := Or.inr ⟨hx, e1, b, e2, hb2, hb3, hb4⟩
  have row : ∀ j, (wj w (pq q (rkc k)) i p).2.2.2 (pq q (rkc k)) j = if j = i then p else w.2.2.2 (pq q (rkc k)) j := fun j => wj_row
  have oth : ∀ a, a ≠ rkc k → (wj w (pq q (rkc k)) i p).2.2.2 (pq q a) = w.2.2.2 (pq q a) := fun a ha => if_neg (pq_inj ha)
  have set1 : ∀ {r0 : Nat → Int64} {c : Nat}, ROWc n ow kd P U src bs r0 (w.2.2.2 (pq q (rkc k))) c i → ROWc n ow kd P U src bs r0 ((wj w (pq q (rkc k)) i p).2.2.2 (pq q (rkc k))) c (i + 1) := fun {r0 c} r => ROW_set r (fun j hj => by rw [row, if_neg hj]) (fun hic => by
    rw [row, if_pos rfl, ← (r i hic).2.2 (Nat.le_refl _)]; exact hr)
  refine ⟨src, bs, FR.wj f (rk_in hk), ?_⟩
  rcases (show k = 0 ∨ k = 1 ∨ k = 2 ∨ k = 3 by omega) with rfl | rfl | rfl | rfl
  · refine ⟨by rw [oth 3 (by decide)]; exact c1, by rw [oth 2 (by decide)]; exact c2, c3, set1 r0, by rw [oth 35 (by decide)]; exact r1, by rw [oth 6 (by decide)]; exact r2, fun z => (by cases z)⟩
  · refine ⟨by rw [oth 3 (by decide)]; exact c1, by rw [oth 2 (by decide)]; exact c2, c3, by rw [oth 33 (by decide)]; exact r0, set1 r1, by rw [oth 6 (by decide)]; exact r2, fun z => (by cases z)⟩
  · refine ⟨by rw [oth 3 (by decide)]; exact c1, by rw [oth 2 (by decide)]; exact c2, c3, by rw [oth 33 (by decide)]; exact r0, by rw [oth 35 (by decide)]; exact r1, set1 r2, fun z => (by cases z)⟩
  · rw [if_pos rfl] at c1 hi
    refine ⟨?_, by rw [oth 2 (by decide)]; exact c2, c3, by rw [oth 33 (by decide)]; exact r0, by rw [oth 35 (by decide)]; exact r1, by rw [oth 6 (by decide)]; exact r2, fun _ => hi⟩
    rw [if_pos rfl]
    refine CPc_ptr c1 (Nat.zero_le _) hi hx (Nat.zero_le _) hb2 hb3 hb4 ?_ (fun j _ _ hj => ?_)
    · rw [show (wj w (pq q (rkc 3)) i p).2.2.2 (pq q 3) i = p from by have := row i; rw [if_pos rfl] at this; exact this]
      exact ⟨e1, e2⟩
    · have := row j; rw [if_neg hj] at this; exact this
theorem va_9 {U : Nat} (hU : U ≤ 1000) : so ((38654705664 : Int64) ||| (I (U : Int)).toInt64) = 9 ∧ va ((38654705664 : Int64) ||| (I (U : Int)).toInt64) = ((U : Nat) : Int) := by
  rw [moved_e]
  exact ⟨so_tg (by omega) (by omega) ⟨by decide, by decide⟩, va_or (by omega) (by omega)⟩
theorem BK_agree2 {h2 : Nat → Int64} (e : ∀ j, j < blk h t → h2 (vn t + j) = h (vn t + j)) (z : isH t) (k : BKc h n ow kd Fv t) : BKc h2 n ow kd Fv t ∧ blk h2 t = blk h t := by
  have hb := blk_pos (h := h) z
  obtain ⟨k1, k2, k3, k4, k5, k6⟩ := k
  have e0 : h2 (vn t) = h (vn t) := e 0 hb
  have e1 : so t = 3 → h2 (vn t + 1) = h (vn t + 1) := fun z3 => e 1 (by
    have : blk h t = 2 + vn (h (vn t + 1)) := by unfold blk; rw [if_neg (by omega), if_neg (by omega), if_pos z3]
    omega)
  have eb : blk h2 t = blk h t := by
    unfold blk
    rw [e0]
    by_cases z3 : so t = 3
    · rw [e1 z3]
    · rw [if_neg z3, if_neg z3]
  refine ⟨⟨k1, fun y => by rw [e0]; exact k2 y, fun y => by rw [e0, e1 y]; exact k3 y, by rw [eb]; exact k4, k5, by rw [eb]; exact k6⟩, eb⟩
theorem clear_160 {G : (MS → Nat → Int32 → Int32 → Option (MS × Unit)) × (MS → Nat → Int32 → Int32 → Nat → Int32 → Int32 → Option (MS × Unit))} {Q : MS → Unit → Prop} {i U : Nat} {fx : Int32} (hk : k ≤ 3) (g : HPc h n ow kd Fv P) (hn : n ≤ 500) (hF : FVc Fv) (hP : ∀ t, P t → PT u t) (hB : CLB u0 q B W Y) (hi : i < (if k = 3 then U else cbd B W Y k)) (c : CLc u0 q h n ow kd P B W Y w k i U) (hx : isH (w.2.2.2 (pq q (rkc k)) i))
    (nxt : ∀ w2 U2, CLc u0 q h n ow kd P B W Y w2 k (i + 1) U2 → OK Q (hb_Pr_clearHeap_250 N G w2 q (I (U2 : Int)) (I (k : Int)) (pq q (rkc k)) fx (I (i : Int)))) : OK Q (hb_Pr_clearHeap_160 N G w q (I (U : Int)) (I (k : Int)) (pq q (rkc k)) fx (I (i : Int)) (I (so (w.2.2.2 (pq q (rkc k)) i)))) := by
  have gx := CLc_at c hk g hF hi hx
  obtain ⟨src, bs, f, c1, c2, c3, r0, r1, r2, r3⟩ := c
  have hUn := CNT_le c3
  have hlx := lnX_k hB f hk
  have hil : i < lnX w (pq q (rkc k)) ∧ i ≤ 1000000 := by
    by_cases e : k = 3
    · subst e
      rw [if_pos rfl] at hi
      have : cbd B W Y 3 = 512 := rfl
      omega
    · rw [if_neg e] at hi
      omega
  obtain ⟨bk, bp⟩ := HP_bkc g hx gx
  have hbp := blk_pos (h := h) hx
  have hbl := bk.2.2.2.1
  have hv := vn_e bk.1
  unfold hb_Pr_clearHeap_160
  refine e_in ⟨by omega, by omega⟩ (by omega) ?_
  rw [tnI (n := i) rfl (by omega)]
  generalize hX : w.2.2.2 (pq q (rkc k)) i = X at *
  rw [valI, hv]
  refine e_in ⟨by omega, by omega⟩ (by decide) ?_
  rw [tnI (n := vn X) rfl (by omega), tagI, I_lit (n := 9)]
  have hr9 := so_r (w.2.2.2 (pq q 2) (vn X))
  have h230 : ∀ (w2 : MS) (U2 b : Nat) (src2 : Nat → Int64) (bs2 : Nat → Nat), FR [] [] [] [pq q 2, pq q 3, pq q 33, pq q 35, pq q 6] u0 w2 → CPc h n ow kd P (w2.2.2.2 (pq q 3)) 0 U2 (if k = 3 then i else 0) src2 bs2 → FWD h n (w2.2.2.2 (pq q 2)) U2 src2 bs2 → CNT ow n U2 src2 bs2 → ROWc n ow kd P U2 src2 bs2 (u0.2.2.2 (pq q 33)) (w2.2.2.2 (pq q 33)) B (pn k i 0 B) → ROWc n ow kd P U2 src2 bs2 (u0.2.2.2 (pq q 35)) (w2.2.2.2 (pq q 35)) W (pn k i 1 W) → ROWc n ow kd P U2 src2 bs2 (u0.2.2.2 (pq q 6)) (w2.2.2.2 (pq q 6)) Y (pn k i 2 Y) → w2.2.2.2 (pq q (rkc k)) i = X → i < (if k = 3 then U2 else cbd B W Y k) → b < U2 → bs2 b = b → src2 b = X → va (w2.2.2.2 (pq q 2) (vn X)) = ((b : Nat) : Int) → OK Q (hb_Pr_clearHeap_230 N G w2 q (I (U2 : Int)) (I (k : Int)) (pq q (rkc k)) fx (I (i : Int)) (I (so X)) (I (vn X : Int))) := by
    intro w2 U2 b src2 bs2 f' d1 d2 d3 q0 q1 q2 e0 hi' b1 b2 b3 b4
    unfold hb_Pr_clearHeap_230
    have hlx2 := lnX_k hB f' hk
    have hU2 := CNT_le d3
    have hil2 : i < lnX w2 (pq q (rkc k)) := by
      by_cases e : k = 3
      · subst e
        have : cbd B W Y 3 = 512 := rfl
        rw [if_pos rfl] at hi'
        omega
      · rw [if_neg e] at hi'
        omega
    refine e_in ⟨by omega, by omega⟩ (by decide) (e_in ⟨by omega, by omega⟩ (by omega) (ok_lt.mpr ?_))
    rw [tnI (n := i) rfl (by omega), tnI (n := vn X) rfl (by omega), valI, b4, wj_e]
    have hso := so_r X
    refine nxt _ U2 (CLc_put (b := b) (src := src2) (bs := bs2) hk hi' (by rw [e0]; exact hx) f' d1 d2 d3 q0 q1 q2 b1 b2 (by rw [e0]; exact b3) ?_ (va_or (by omega) (by omega)))
    rw [e0]
    exact so_tg (by omega) (by omega) hso
  refine k_eq hr9 ⟨by decide, by decide⟩ (fun y => ?_) (fun y => ?_)
  · obtain ⟨b, b1, b2, b3, b4⟩ := fwd_yes g hF hP c2 c1 hx gx y
    exact h230 w U b src bs f c1 c2 c3 r0 r1 r2 hX hi b1 b2 b3 b4
  · obtain ⟨n1, n2⟩ := fwd_no g c2 c1 hx gx y
    obtain ⟨bk2, eb⟩ := BK_agree2 (h2 := w.2.2.2 (pq q 2)) n1 hx bk
    have hbs : ∀ b, b < U → bs b ≤ b := fun b hb => (c1.2.1 b (Nat.zero_le _) hb).2.1
    obtain ⟨m1, m2⟩ := CNT_add g c3 hx gx n2 hbs
    refine e_in ⟨by omega, by omega⟩ (by omega) ?_
    rw [cellsAt_h rfl (by omega) hx bk2, bnd_so, eb]
    refine e_cp ⟨by omega, by omega, by omega, by omega, by omega⟩ (by decide) (by decide) (ok_lt.mpr ?_)
    rw [tnI (n := U) rfl (by omega), tnI (n := blk h X) rfl (by omega)]
    refine e_in ⟨by omega, by omega⟩ (by decide) (ok_lt.mpr ?_)
    rw [wj_e, I_add, show ((U : Nat) : Int) + ((blk h X : Nat) : Int) = ((U + blk h X : Nat) : Int) by omega]
    generalize hw : upJ w (pq q 3) (va_cpy (w.2.2.2 (pq q 2)) (w.2.2.2 (pq q 3)) (vn X) U (blk h X)) = w1
    have f1 : FR [] [] [] [pq q 2, pq q 3, pq q 33, pq q 35, pq q 6] u0 w1 := by rw [← hw]; exact FR_upJ f (by simp)
    have e3 : w1.2.2.2 (pq q 3) = va_cpy (w.2.2.2 (pq q 2)) (w.2.2.2 (pq q 3)) (vn X) U (blk h X) := by rw [← hw]; exact upJ_row
    have eo : ∀ a, a ≠ 3 → w1.2.2.2 (pq q a) = w.2.2.2 (pq q a) := fun a ha => by rw [← hw]; exact if_neg (pq_inj ha)
    have v9 := va_9 (U := U) (by omega)
    generalize (38654705664 : Int64) ||| (I (U : Int)).toInt64 = mv at *
    have r2e : ∀ j, (wj w1 (pq q 2) (vn X) mv).2.2.2 (pq q 2) j = if j = vn X then mv else w.2.2.2 (pq q 2) j := fun j => by rw [wj_row, eo 2 (by decide)]
    have ro : ∀ a, a ≠ 2 → (wj w1 (pq q 2) (vn X) mv).2.2.2 (pq q a) = w1.2.2.2 (pq q a) := fun a ha => if_neg (pq_inj ha)
    have hrk3 : rkc k = 3 ↔ k = 3 := by
      rcases (show k = 0 ∨ k = 1 ∨ k = 2 ∨ k = 3 by omega) with rfl | rfl | rfl | rfl <;> decide
    have hrk2 : rkc k ≠ 2 := by
      rcases (show k = 0 ∨ k = 1 ∨ k = 2 ∨ k = 3 by omega) with rfl | rfl | rfl | rfl <;> decide
    refine h230 (wj w1 (pq q 2) (vn X) mv) (U + blk h X) U (fun k => if k = U then X else src k) (fun k => if U ≤ k then U else bs k) (FR.wj f1 (by simp)) ?_ ?_ m1 ?_ ?_ ?_ ?_ ?_ (by omega) (by simp) (by simp) ?_
    · rw [ro 3 (by decide), e3]
      refine CPc_grow c1 ?_ hx gx (fun j hj => ?_) (fun j _ hj => ?_)
      · by_cases e : k = 3
        · rw [if_pos e] at hi ⊢; omega
        · rw [if_neg e]; omega
      · rw [cpy_in hj]; exact n1 j hj
      · rw [cpy_out (by omega)]
    · refine FWD_add c2 n2 (by rw [r2e, if_pos rfl]; exact v9) (fun j hj => by rw [r2e, if_neg hj]) hbp (fun b b1 b2 => ?_)
      by_cases e : U ≤ b
      · rw [if_pos e] at b2; omega
      · omega
    · rw [ro 33 (by decide), eo 33 (by decide)]; exact ROW_add r0
    · rw [ro 35 (by decide), eo 35 (by decide)]; exact ROW_add r1
    · rw [ro 6 (by decide), eo 6 (by decide)]; exact ROW_add r2
    · rw [ro _ hrk2]
      by_cases e : k = 3
      · subst e
        rw [if_pos rfl] at hi
        show w1.2.2.2 (pq q 3) i = X
        rw [e3, cpy_out (by omega)]
        exact hX
      · rw [eo _ (fun z => e (hrk3.mp z))]; exact hX
    · by_cases e : k = 3
      · rw [if_pos e] at hi ⊢; omega
      · rw [if_neg e] at hi ⊢; exact hi
    · rw [r2e, if_pos rfl]; exact v9.2
theorem clear_in {Q : MS → Unit → Prop} {L : Nat} (hk : k ≤ 3) (g : HPc h n ow kd Fv P) (hn : n ≤ 500) (hF : FVc Fv) (hP : ∀ t, P t → PT u t) (hB : CLB u0 q B W Y) {fx : Int} (hfx : k ≠ 3 → fx = ((cbd B W Y k : Nat) : Int)) (hfr : RG fx)
    (q2 : ∀ (L2 : Nat) (w : MS) (U : Nat), L ≤ L2 → CLc u0 q h n ow kd P B W Y w k (if k = 3 then U else cbd B W Y k) U → OK Q ((hg_Pr_clearHeap N L2).1 w q (I (U : Int)) (I ((k + 1 : Nat) : Int)))) : ∀ (M i : Nat) (w : MS) (U : Nat), L + (cbd B W Y k - i) + 1 ≤ M → i ≤ (if k = 3 then U else cbd B W Y k) → CLc u0 q h n ow kd P B W Y w k i U → OK Q ((hg_Pr_clearHeap N M).2 w q (I (U : Int)) (I (k : Int)) (pq q (rkc k)) (I fx) (I (i : Int))) := by
  intro M
  induction M with
  | zero => intro i w U z; omega
  | succ M ih =>
    intro i w U hM hi c
    have c' := c
    obtain ⟨src, bs, f, c1, c2, c3, r0, r1, r2, r3⟩ := c
    have hUn := CNT_le c3
    have hlx := lnX_k hB f hk
    have hcb : cbd B W Y 3 = 512 := rfl
    have hib : i ≤ cbd B W Y k := by
      by_cases e : k = 3
      · subst e; rw [if_pos rfl] at hi; omega
      · rw [if_neg e] at hi; exact hi
    show OK Q (hb_Pr_clearHeap_112 N (hg_Pr_clearHeap N M) w q (I (U : Int)) (I (k : Int)) (pq q (rkc k)) (I fx) (I (i : Int)))
    have main : ∀ t1 : Int, t1 = (if k = 3 then ((U : Nat) : Int) else ((cbd B W Y k : Nat) : Int)) → OK Q (hb_Pr_clearHeap_125 N (hg_Pr_clearHeap N M) w q (I (U : Int)) (I (k : Int)) (pq q (rkc k)) (I fx) (I (i : Int)) (I (i : Int)) (I t1)) := by
      intro t1 ht1
      have ht2 : t1 = (((if k = 3 then U else cbd B W Y k) : Nat) : Int) := by rw [ht1]; split <;> rfl
      generalize hE : (if k = 3 then U else cbd B W Y k) = E at *
      have hEb : E ≤ cbd B W Y k := by
        by_cases e : k = 3
        · subst e; rw [if_pos rfl] at hE; omega
        · rw [if_neg e] at hE; omega
      unfold hb_Pr_clearHeap_125
      rw [ht2]
      refine k_le ⟨by omega, by omega⟩ ⟨by omega, by omega⟩ (fun y => ?_) (fun y => ?_)
      · have ei : i = E := by omega
        rw [lit1q, I_add, show ((k : Nat) : Int) + 1 = ((k + 1 : Nat) : Int) by omega]
        subst ei
        refine q2 M w U (by omega) ?_
        rw [hE]
        exact c'
      · have hiE : i < E := by omega
        have hi3 : i < (if k = 3 then U else cbd B W Y k) := by rw [hE]; exact hiE
        refine e_in ⟨by omega, by omega⟩ (by omega) (ok_lt.mpr ?_)
        rw [tnI (n := i) rfl (by omega), tagI]
        have hr := so_r (w.2.2.2 (pq q (rkc k)) i)
        have nxt : ∀ w2 U2, CLc u0 q h n ow kd P B W Y w2 k (i + 1) U2 → OK Q (hb_Pr_clearHeap_250 N (hg_Pr_clearHeap N M) w2 q (I (U2 : Int)) (I (k : Int)) (pq q (rkc k)) (I fx) (I (i : Int))) := by
          intro w2 U2 c4
          unfold hb_Pr_clearHeap_250
          rw [lit1q, I_add, show ((i : Nat) : Int) + 1 = ((i + 1 : Nat) : Int) by omega]
          refine ih (i + 1) w2 U2 (by omega) ?_ c4
          by_cases e : k = 3
          · subst e
            rw [if_pos rfl]
            obtain ⟨src4, bs4, -, -, -, -, -, -, -, d9⟩ := c4
            exact d9 rfl
          · rw [if_neg e] at hi3 ⊢; omega
        have hH : isH (w.2.2.2 (pq q (rkc k)) i) → OK Q (hb_Pr_clearHeap_160 N (hg_Pr_clearHeap N M) w q (I (U : Int)) (I (k : Int)) (pq q (rkc k)) (I fx) (I (i : Int)) (I (so (w.2.2.2 (pq q (rkc k)) i)))) := fun hx => clear_160 hk g hn hF hP hB hi3 c' hx nxt
        rw [I_lit (n := 7), I_lit (n := 5), I_lit (n := 3)]
        refine k_eq hr ⟨by decide, by decide⟩ (fun y7 => hH (Or.inr (Or.inr y7))) (fun n7 => k_eq hr ⟨by decide, by decide⟩ (fun y5 => hH (Or.inr (Or.inl y5))) (fun n5 => k_eq hr ⟨by decide, by decide⟩ (fun y3 => hH (Or.inl y3)) (fun n3 => ?_)))
        refine nxt w U (CLc_skip c' hk hi3 (fun z => ?_))
        rcases z with z | z | z
        · exact n3 z
        · exact n5 z
        · exact n7 z
    unfold hb_Pr_clearHeap_112
    rw [I_lit (n := 3)]
    refine k_eq ⟨by omega, by omega⟩ ⟨by decide, by decide⟩ (fun y => ?_) (fun y => ?_)
    · have e : k = 3 := by have : ((k : Nat) : Int) = 3 := y; omega
      exact main _ (by rw [if_pos e])
    · have e : k ≠ 3 := fun z => y (by rw [z]; rfl)
      exact main _ (by rw [if_neg e]; exact hfx e)
def PTQ (m : MS) (q n : Nat) (ow kd : Nat → Nat) (Fv : Int64 → Int64 → Prop) (P : Int64 → Prop) (B W Y : Nat) : Prop :=
  (F m (pq q 4) = ((n : Nat) : Int) ∧ n ≤ 500 ∧ HPc (m.2.2.2 (pq q 2)) n ow kd Fv P) ∧ (F m (pq q 24) = ((B : Nat) : Int) ∧ ∀ i, i < B → GT n ow kd P (m.2.2.2 (pq q 33) i)) ∧ (F m (pq q 26) = ((W : Nat) : Int) ∧ ∀ i, i < W → GT n ow kd P (m.2.2.2 (pq q 35) i)) ∧ (F m (pq q 7) = ((Y : Nat) : Int) ∧ ∀ i, i < Y → GT n ow kd P (m.2.2.2 (pq q 6) i)) ∧ CLB m q B W Y
def SML (h : Nat → Int64) (n : Nat) (ow kd : Nat → Nat) (h2 : Nat → Int64) (n2 : Nat) (ow2 kd2 : Nat → Nat) (Fv : Int64 → Int64 → Prop) (P : Int64 → Prop) (o r : Int64) : Prop := so r = so o ∧ ((¬ isH o → r = o) ∧ ∀ k, (∀ j, j < k → so (tlc h o j) = 7) → so (tlc h2 r k) = so (tlc h o k)) ∧ ∀ f s, SZc h n ow kd Fv P f o s → SZc h2 n2 ow2 kd2 Fv P f r s
def CLQc (u : MS) (q : Nat) (h : Nat → Int64) (n : Nat) (ow kd : Nat → Nat) (Fv : Int64 → Int64 → Prop) (P : Int64 → Prop) (B W Y : Nat) (w : MS) : Prop := ∃ U ow2 kd2, PTQ w q U ow2 kd2 Fv P B W Y ∧ U ≤ n ∧ FR [pq q 4, pq q 5] [] [] [pq q 2, pq q 3, pq q 33, pq q 35, pq q 6] u w ∧ (∀ i, i < B → SML h n ow kd (w.2.2.2 (pq q 2)) U ow2 kd2 Fv P (u.2.2.2 (pq q 33) i) (w.2.2.2 (pq q 33) i)) ∧ (∀ i, i < W → SML h n ow kd (w.2.2.2 (pq q 2)) U ow2 kd2 Fv P (u.2.2.2 (pq q 35) i) (w.2.2.2 (pq q 35) i))
theorem clearHeap_ok (p : PTQ u q n ow kd Fv P B W Y) (hF : FVc Fv) (hP : ∀ t, P t → PT u t) (hN : 10 + B + W + Y + 600 ≤ N) : OK (fun w _ => CLQc u q (u.2.2.2 (pq q 2)) n ow kd Fv P B W Y w) (hm_Pr_clearHeap N u q) := by
  obtain ⟨⟨p1, p2, p3⟩, ⟨p4, p5⟩, ⟨p6, p7⟩, ⟨p8, p9⟩, p10⟩ := p
  unfold hm_Pr_clearHeap hb_Pr_clearHeap_0
  refine ok_lt.mpr ?_
  generalize hu0 : upI u (pq q 5) (u.1 (pq q 5) + 1) = u0
  have f0 : FR [pq q 5] [] [] [] u u0 := by rw [← hu0, I_of (u.1 (pq q 5) + 1), wi_e]; exact FR.wi FR.rf (by simp)
  have pn5 : ∀ a, a ≠ 5 → pq q a ∉ [pq q 5] := fun a ha => by simp; exact pq_inj ha
  have B0 : CLB u0 q B W Y := by
    obtain ⟨⟨l, a1, a2⟩, ⟨l2, b1, b2⟩, c⟩ := p10
    exact ⟨⟨l, by rw [FR.F f0 (pn5 43 (by decide))]; exact a1, a2⟩, ⟨l2, by rw [FR.F f0 (pn5 45 (by decide))]; exact b1, b2⟩, c⟩
  have row : ∀ a, u0.2.2.2 (pq q a) = u.2.2.2 (pq q a) := fun a => FRj f0 (by simp)
  have hBb : B ≤ 1000000 ∧ W ≤ 1000000 ∧ Y ≤ 30 := by
    obtain ⟨⟨l, a1, a2, a3⟩, ⟨l2, b1, b2, b3⟩, c⟩ := p10
    omega
  have g : HPc (u.2.2.2 (pq q 2)) n ow kd Fv P := p3
  generalize hh : u.2.2.2 (pq q 2) = h at *
  have st : CLc u0 q h n ow kd P B W Y u0 0 0 0 := by
    refine ⟨fun _ => 0, fun _ => 0, FR.rf, ?_, ?_, ?_, ?_, ?_, ?_, fun z => (by cases z)⟩
    · exact ⟨Nat.le_refl _, fun c _ z => by omega, fun c _ z => by omega⟩
    · exact ⟨fun b hb => by omega, fun c hc _ => by rw [row, hh]⟩
    · refine ⟨fun _ => False, fun _ => instDecidableFalse, fun k => ⟨fun z => z.elim, fun ⟨b, z, _⟩ => by omega⟩, Nat.zero_le _⟩
    · exact fun j hj => ⟨by rw [row]; exact p5 j hj, fun z => by unfold pn at z; simp at z, fun _ => rfl⟩
    · exact fun j hj => ⟨by rw [row]; exact p7 j hj, fun z => by unfold pn at z; simp at z, fun _ => rfl⟩
    · exact fun j hj => ⟨by rw [row]; exact p9 j hj, fun z => by unfold pn at z; simp at z, fun _ => rfl⟩
  rw [lit0q, show (0 : Int) = ((0 : Nat) : Int) from rfl]
  have fin : ∀ (L : Nat) (w : MS) (U : Nat), 1 ≤ L → CLc u0 q h n ow kd P B W Y w 3 U U → OK (fun w _ => CLQc u q h n ow kd Fv P B W Y w) ((hg_Pr_clearHeap N L).1 w q (I (U : Int)) (I ((3 + 1 : Nat) : Int))) := by
    intro L w U hL c
    cases L with
    | zero => omega
    | succ L =>
      show OK _ (hb_Pr_clearHeap_14 N (hg_Pr_clearHeap N L) w q (I (U : Int)) (I ((3 + 1 : Nat) : Int)))
      unfold hb_Pr_clearHeap_14
      rw [I_lit (n := 4)]
      refine k_le ⟨by decide, by decide⟩ ⟨by decide, by decide⟩ (fun _ => ?_) (fun y => absurd y (by decide))
      refine ok_lt.mpr (ok_lt.mpr (ok_some.mpr ?_))
      rw [wi_e]
      obtain ⟨src, bs, f, c1, c2, c3, r0, r1, r2, r3⟩ := c
      have hUn := CNT_le c3
      rw [if_pos rfl] at c1
      obtain ⟨G1, -⟩ := CPc_hp (owd := fun _ => 0) (kdd := fun _ => 0) (d0 := w.2.2.2 (pq q 3)) g hF c1 HP_0 (fun _ _ => rfl)
      have f1 : FR [pq q 4] [] [] [pq q 2, pq q 3, pq q 33, pq q 35, pq q 6] u0 (wi (swp w q) (pq q 4) (U : Int)) := FR.wi (FR_upJ (FR_upJ (FR.mo f (by simp) (by simp) (by simp) (by simp)) (by simp)) (by simp)) (by simp)
      have fu : FR [pq q 4, pq q 5] [] [] [pq q 2, pq q 3, pq q 33, pq q 35, pq q 6] u (wi (swp w q) (pq q 4) (U : Int)) := FR.tr (FR.mo f0 (by simp) (by simp) (by simp) (by simp)) (FR.mo f1 (by simp) (by simp) (by simp) (by simp))
      have e2 : (wi (swp w q) (pq q 4) (U : Int)).2.2.2 (pq q 2) = w.2.2.2 (pq q 3) := swp_2
      have eo : ∀ a, a ≠ 2 → a ≠ 3 → (wi (swp w q) (pq q 4) (U : Int)).2.2.2 (pq q a) = w.2.2.2 (pq q a) := fun a h2 h3 => swp_ne ⟨pq_inj h2, pq_inj h3⟩
      have nI : ∀ a, a ≠ 4 → a ≠ 5 → F (wi (swp w q) (pq q 4) (U : Int)) (pq q a) = F u (pq q a) := fun a h1 h2 => FR.F fu (by simp; exact ⟨pq_inj h1, pq_inj h2⟩)
      have sm : ∀ {r0 row : Nat → Int64} {c : Nat}, ROWc n ow kd P U src bs r0 row c c → ∀ i, i < c → SML h n ow kd (w.2.2.2 (pq q 3)) U (owN 0 (fun _ => 0) bs) (kdN 0 (fun _ => 0) src) Fv P (r0 i) (row i) := fun {r0 row c} r i hi => by
        have hr := (r i hi).2.1 hi
        refine ⟨?_, ⟨fun z => ?_, fun k hk => RTO_so (RTO_tl c1 hr k hk)⟩, fun f s z => RTO_sz g hF c1 hr z⟩
        · rcases hr with y | y
          · rw [y.2]
          · exact y.2.1
        · rcases hr with y | y
          · exact y.2
          · exact absurd y.1 z
      have gtr : ∀ {r0 row : Nat → Int64} {c : Nat}, ROWc n ow kd P U src bs r0 row c c → ∀ i, i < c → GT U (owN 0 (fun _ => 0) bs) (kdN 0 (fun _ => 0) src) P (row i) := fun {r0 row c} r i hi => by
        obtain ⟨f, s, z⟩ := HP_szc g (r i hi).1
        exact SZ_gtc ((sm r i hi).2.2 f s z)
      have B1 : CLB (wi (swp w q) (pq q 4) (U : Int)) q B W Y := by
        obtain ⟨⟨l, a1, a2⟩, ⟨l2, b1, b2⟩, c⟩ := p10
        exact ⟨⟨l, by rw [nI 43 (by decide) (by decide)]; exact a1, a2⟩, ⟨l2, by rw [nI 45 (by decide) (by decide)]; exact b1, b2⟩, c⟩
      refine ⟨U, _, _, ⟨⟨by rw [F_wi (by omega) (by omega), if_pos rfl], by omega, by rw [e2]; exact G1⟩, ⟨by rw [nI 24 (by decide) (by decide)]; exact p4, ?_⟩, ⟨by rw [nI 26 (by decide) (by decide)]; exact p6, ?_⟩, ⟨by rw [nI 7 (by decide) (by decide)]; exact p8, ?_⟩, B1⟩, hUn, fu, ?_, ?_⟩
      · rw [eo 33 (by decide) (by decide)]; exact gtr r0
      · rw [eo 35 (by decide) (by decide)]; exact gtr r1
      · rw [eo 6 (by decide) (by decide)]; exact gtr r2
      · intro i hi
        rw [e2, eo 33 (by decide) (by decide), ← row 33]
        exact sm r0 i hi
      · intro i hi
        rw [e2, eo 35 (by decide) (by decide), ← row 35]
        exact sm r1 i hi
  have hP0 : ∀ t, P t → PT u t := hP
  have fI : ∀ (w : MS), FR [] [] [] [pq q 2, pq q 3, pq q 33, pq q 35, pq q 6] u0 w → w.1 (pq q 24) = I (B : Int) ∧ w.1 (pq q 26) = I (W : Int) ∧ w.1 (pq q 7) = I (Y : Int) := fun w f => by
    have h5 : ∀ a, a ≠ 5 → F w (pq q a) = F u (pq q a) := fun a ha => by rw [FR.F f (by simp), FR.F f0 (pn5 a ha)]
    exact ⟨by rw [I_F, h5 24 (by decide), p4], by rw [I_F, h5 26 (by decide), p6], by rw [I_F, h5 7 (by decide), p8]⟩
  have go3 : ∀ (L : Nat) (w : MS) (U : Nat), 520 ≤ L → CLc u0 q h n ow kd P B W Y w 2 Y U → OK (fun w _ => CLQc u q h n ow kd Fv P B W Y w) ((hg_Pr_clearHeap N L).1 w q (I (U : Int)) (I ((2 + 1 : Nat) : Int))) := by
    intro L w U hL c
    cases L with
    | zero => omega
    | succ L =>
      show OK _ (hb_Pr_clearHeap_14 N (hg_Pr_clearHeap N L) w q (I (U : Int)) (I ((2 + 1 : Nat) : Int)))
      unfold hb_Pr_clearHeap_14 hb_Pr_clearHeap_64 hb_Pr_clearHeap_107
      refine ok_br.mpr ⟨fun y => absurd y (by decide), fun _ => ok_br.mpr ⟨fun y => absurd y (by decide), fun _ => ok_br.mpr ⟨fun y => absurd y (by decide), fun _ => ok_br.mpr ⟨fun y => absurd y (by decide), fun _ => ok_br.mpr ⟨fun y => absurd y (by decide), fun _ => ok_br.mpr ⟨fun y => absurd y (by decide), fun _ => ok_br.mpr ⟨fun y => absurd y (by decide), fun _ => ?_⟩⟩⟩⟩⟩⟩⟩
      rw [lit0q]
      obtain ⟨src, bs, f, c1, c2, c3, r0, r1, r2, r3⟩ := c
      exact clear_in (k := 3) (L := 1) (fx := 0) (by decide) g p2 hF hP0 B0 (fun z => absurd rfl z) ⟨by decide, by decide⟩ (fun L2 w2 U2 hL2 c4 => fin L2 w2 U2 hL2 c4) L 0 w U (by show 1 + (512 - 0) + 1 ≤ L; omega) (Nat.zero_le _) ⟨src, bs, f, c1, c2, c3, r0, r1, r2, fun _ => Nat.zero_le _⟩
  have go2 : ∀ (L : Nat) (w : MS) (U : Nat), 522 + Y ≤ L → CLc u0 q h n ow kd P B W Y w 1 W U → OK (fun w _ => CLQc u q h n ow kd Fv P B W Y w) ((hg_Pr_clearHeap N L).1 w q (I (U : Int)) (I ((1 + 1 : Nat) : Int))) := by
    intro L w U hL c
    cases L with
    | zero => omega
    | succ L =>
      show OK _ (hb_Pr_clearHeap_14 N (hg_Pr_clearHeap N L) w q (I (U : Int)) (I ((1 + 1 : Nat) : Int)))
      unfold hb_Pr_clearHeap_14 hb_Pr_clearHeap_64 hb_Pr_clearHeap_107
      refine ok_br.mpr ⟨fun y => absurd y (by decide), fun _ => ok_br.mpr ⟨fun y => absurd y (by decide), fun _ => ok_br.mpr ⟨fun y => absurd y (by decide), fun _ => ok_br.mpr ⟨fun _ => ok_br.mpr ⟨fun y => absurd y (by decide), fun _ => ok_br.mpr ⟨fun y => absurd y (by decide), fun _ => ok_br.mpr ⟨fun _ => ?_, fun y => absurd y (by decide)⟩⟩⟩, fun y => absurd y (by decide)⟩⟩⟩⟩
      obtain ⟨src, bs, f, c1, c2, c3, r0, r1, r2, r3⟩ := c
      rw [lit0q, (fI w f).2.2]
      exact clear_in (k := 2) (L := 520) (fx := (Y : Int)) (by decide) g p2 hF hP0 B0 (fun _ => rfl) ⟨by omega, by omega⟩ (fun L2 w2 U2 hL2 c4 => go3 L2 w2 U2 hL2 c4) L 0 w U (by show 520 + (Y - 0) + 1 ≤ L; omega) (Nat.zero_le _) ⟨src, bs, f, c1, c2, c3, r0, r1, r2, fun z => (by cases z)⟩
  have go1 : ∀ (L : Nat) (w : MS) (U : Nat), 524 + Y + W ≤ L → CLc u0 q h n ow kd P B W Y w 0 B U → OK (fun w _ => CLQc u q h n ow kd Fv P B W Y w) ((hg_Pr_clearHeap N L).1 w q (I (U : Int)) (I ((0 + 1 : Nat) : Int))) := by
    intro L w U hL c
    cases L with
    | zero => omega
    | succ L =>
      show OK _ (hb_Pr_clearHeap_14 N (hg_Pr_clearHeap N L) w q (I (U : Int)) (I ((0 + 1 : Nat) : Int)))
      unfold hb_Pr_clearHeap_14 hb_Pr_clearHeap_64 hb_Pr_clearHeap_107
      refine ok_br.mpr ⟨fun y => absurd y (by decide), fun _ => ok_br.mpr ⟨fun y => absurd y (by decide), fun _ => ok_br.mpr ⟨fun _ => ok_br.mpr ⟨fun y => absurd y (by decide), fun _ => ok_br.mpr ⟨fun _ => ?_, fun y => absurd y (by decide)⟩⟩, fun y => absurd y (by decide)⟩⟩⟩
      obtain ⟨src, bs, f, c1, c2, c3, r0, r1, r2, r3⟩ := c
      rw [lit0q, (fI w f).2.1]
      exact clear_in (k := 1) (L := 522 + Y) (fx := (W : Int)) (by decide) g p2 hF hP0 B0 (fun _ => rfl) ⟨by omega, by omega⟩ (fun L2 w2 U2 hL2 c4 => go2 L2 w2 U2 hL2 c4) L 0 w U (by show 522 + Y + (W - 0) + 1 ≤ L; omega) (Nat.zero_le _) ⟨src, bs, f, c1, c2, c3, r0, r1, r2, fun z => (by cases z)⟩
  cases N with
  | zero => omega
  | succ M =>
    show OK _ (hb_Pr_clearHeap_14 (M + 1) (hg_Pr_clearHeap (M + 1) M) u0 q (I ((0 : Nat) : Int)) (I ((0 : Nat) : Int)))
    unfold hb_Pr_clearHeap_14 hb_Pr_clearHeap_64 hb_Pr_clearHeap_107
    refine ok_br.mpr ⟨fun y => absurd y (by decide), fun _ => ok_br.mpr ⟨fun _ => ok_br.mpr ⟨fun _ => ?_, fun y => absurd y (by decide)⟩, fun y => absurd y (by decide)⟩⟩
    rw [lit0q, (fI u0 FR.rf).1]
    exact clear_in (k := 0) (L := 524 + Y + W) (fx := (B : Int)) (by decide) g p2 hF hP0 B0 (fun _ => rfl) ⟨by omega, by omega⟩ (fun L2 w2 U2 hL2 c4 => go1 L2 w2 U2 hL2 c4) M 0 u0 0 (by show 524 + Y + W + (B - 0) + 1 ≤ M; omega) (Nat.zero_le _) st
end
end
section
set_option maxRecDepth 100000
def cEc (m : MS) : Nat → Nat
  | 0 => 0
  | k + 1 => cEc m k + (if F m (pq k 9) = 3 then 1 else 0)
def EPQ (Fv : Int64 → Int64 → Prop) (P : Int64 → Prop) (PR : Nat) (m : MS) (r : Nat) : Prop := ∃ hq n ow kd, rf (m.1 (pq r 17)) = some hq ∧ hq < PR ∧ F m (pq hq 9) = 3 ∧ n ≤ 512 ∧ HPc (m.2.2.2 (pq hq 2)) n ow kd Fv P ∧ GT n ow kd P (m.2.1 (pq r 16))
def LVQ (Fv : Int64 → Int64 → Prop) (P : Int64 → Prop) (m : MS) (r : Nat) : Prop := ∃ n ow kd B W Y, PTQ m r n ow kd Fv P B W Y
def SMQ (m : MS) (r : Nat) : Prop := (0 ≤ F m (pq r 15) ∧ F m (pq r 15) ≤ 24) ∧ (0 ≤ F m (pq r 8) ∧ (F m (pq r 9) ≠ 3 → F m (pq r 8) ≤ F m (pq r 7)))
def GLQ (PR : Nat) (m : MS) : Prop := (F m 942 = ((PR : Nat) : Int) ∧ PR ≤ 24) ∧ (∀ r, r < PR → rf (m.2.2.1 1948 r) = some r) ∧ (0 ≤ F m 950 ∧ F m 950 ≤ 200) ∧ (F m 955 = ((cEc m PR : Nat) : Int) ∧ 0 ≤ F m 956 ∧ F m 956 ≤ F m 955) ∧ (∀ i : Nat, (i : Int) < F m 955 → ∃ r, A m 54 i = ((r : Nat) : Int) ∧ r < PR ∧ F m (pq r 9) = 3) ∧ (0 ≤ F m 953 ∧ F m 953 ≤ 200) ∧ ∀ i : Nat, (i : Int) < F m 953 → 0 ≤ A m 53 i ∧ A m 53 i ≤ 100
def DWc (Fv : Int64 → Int64 → Prop) (P : Int64 → Prop) (PR : Nat) (m : MS) : Prop := GLQ PR m ∧ ∀ r, r < PR → SMQ m r ∧ (F m (pq r 9) = 3 → EPQ Fv P PR m r) ∧ (F m (pq r 9) ≠ 3 → LVQ Fv P m r)
def DWo (Fv : Int64 → Int64 → Prop) (P : Int64 → Prop) (PR q : Nat) (m : MS) : Prop := GLQ PR m ∧ ∀ r, r < PR → SMQ m r ∧ (F m (pq r 9) = 3 → EPQ Fv P PR m r) ∧ (F m (pq r 9) ≠ 3 → r ≠ q → LVQ Fv P m r)
def WFR (u w : MS) : Prop := (∀ r k, k < 100 → k ∉ [4, 5, 7, 9, 12, 15, 17] → w.1 (pq r k) = u.1 (pq r k)) ∧ (∀ k, k < 2000 → k ∉ [950, 955, 956] → w.1 k = u.1 k) ∧ (∀ r k, k < 100 → k ∉ [14] → w.2.2.1 (pq r k) = u.2.2.1 (pq r k)) ∧ (∀ k, k < 2000 → k ∉ [49, 50, 51, 54] → w.2.2.1 k = u.2.2.1 k) ∧ (∀ k, k < 2000 → k ∉ [45, 46] → w.2.2.2 k = u.2.2.2 k) ∧ (∀ r k, k < 100 → k ∉ [16] → w.2.1 (pq r k) = u.2.1 (pq r k)) ∧ (∀ k, k < 2000 → w.2.1 k = u.2.1 k)
section
variable {Fv : Int64 → Int64 → Prop} {P : Int64 → Prop} {u v w m m2 : MS} {PR N q r n B W Y : Nat} {ow kd : Nat → Nat} {t : Int64}
theorem WFR.rf : WFR u u := ⟨fun _ _ _ _ => rfl, fun _ _ _ => rfl, fun _ _ _ _ => rfl, fun _ _ _ => rfl, fun _ _ _ => rfl, fun _ _ _ _ => rfl, fun _ _ => rfl⟩
theorem WFR.tr (a : WFR u v) (b : WFR v w) : WFR u w := ⟨fun r k x y => (b.1 r k x y).trans (a.1 r k x y), fun k x y => (b.2.1 k x y).trans (a.2.1 k x y), fun r k x y => (b.2.2.1 r k x y).trans (a.2.2.1 r k x y), fun k x y => (b.2.2.2.1 k x y).trans (a.2.2.2.1 k x y), fun k x y => (b.2.2.2.2.1 k x y).trans (a.2.2.2.2.1 k x y), fun r k x y => (b.2.2.2.2.2.1 r k x y).trans (a.2.2.2.2.2.1 r k x y), fun k x => (b.2.2.2.2.2.2 k x).trans (a.2.2.2.2.2.2 k x)⟩
theorem WFR.F (a : WFR u w) {r k : Nat} (h1 : k < 100) (h2 : k ∉ [4, 5, 7, 9, 12, 15, 17]) : F w (pq r k) = F u (pq r k) := congrArg _ (a.1 r k h1 h2)
theorem WFR.G (a : WFR u w) {k : Nat} (h1 : k < 2000) (h2 : k ∉ [950, 955, 956]) : Jvm.Pilot.@@N@@.F w k = Jvm.Pilot.@@N@@.F u k := congrArg _ (a.2.1 k h1 h2)
theorem cEc_le (m : MS) : ∀ k, cEc m k ≤ k
  | 0 => Nat.le_refl _
  | k + 1 => by
    have := cEc_le m k
    show cEc m k + _ ≤ k + 1
    split <;> omega
theorem cEc_eq : ∀ k, (∀ r, r < k → F m2 (pq r 9) = F m (pq r 9)) → cEc m2 k = cEc m k
  | 0, _ => rfl
  | k + 1, h => by
    show cEc m2 k + _ = cEc m k + _
    rw [cEc_eq k (fun r hr => h r (by omega)), h k (by omega)]
theorem cEc_up (hq : F m (pq q 9) ≠ 3) (h1 : F m2 (pq q 9) = 3) (h2 : ∀ r, r ≠ q → F m2 (pq r 9) = F m (pq r 9)) : ∀ k, q < k → cEc m2 k = cEc m k + 1
  | 0, h => by omega
  | k + 1, h => by
    show cEc m2 k + _ = cEc m k + _ + 1
    by_cases e : q = k
    · subst e
      rw [cEc_eq (m := m) q (fun r hr => h2 r (by omega)), if_pos h1, if_neg hq]
    · rw [cEc_up hq h1 h2 k (by omega), h2 k (by omega)]
      omega
theorem cEc_lt : ∀ k, q < k → F m (pq q 9) ≠ 3 → cEc m k < k
  | 0, h, _ => by omega
  | k + 1, h, hq => by
    show cEc m k + _ < k + 1
    by_cases e : q = k
    · subst e
      have := cEc_le m q
      rw [if_neg hq]; omega
    · have := cEc_lt k (by omega) hq
      split <;> omega
theorem PTQ_same (p : PTQ m q n ow kd Fv P B W Y) (hI : ∀ k, k ∈ [4, 24, 26, 7, 43, 45] → m2.1 (pq q k) = m.1 (pq q k)) (hJ : ∀ k, k ∈ [2, 33, 35, 6] → m2.2.2.2 (pq q k) = m.2.2.2 (pq q k)) : PTQ m2 q n ow kd Fv P B W Y := by
  have hF : ∀ k, k ∈ [4, 24, 26, 7, 43, 45] → F m2 (pq q k) = F m (pq q k) := fun k hk => congrArg _ (hI k hk)
  obtain ⟨⟨p1, p2, p3⟩, ⟨p4, p5⟩, ⟨p6, p7⟩, ⟨p8, p9⟩, ⟨l, a1, a2⟩, ⟨l2, b1, b2⟩, c⟩ := p
  refine ⟨⟨by rw [hF 4 (by simp)]; exact p1, p2, by rw [hJ 2 (by simp)]; exact p3⟩, ⟨by rw [hF 24 (by simp)]; exact p4, by rw [hJ 33 (by simp)]; exact p5⟩, ⟨by rw [hF 26 (by simp)]; exact p6, by rw [hJ 35 (by simp)]; exact p7⟩, ⟨by rw [hF 7 (by simp)]; exact p8, by rw [hJ 6 (by simp)]; exact p9⟩, ⟨l, by rw [hF 43 (by simp)]; exact a1, a2⟩, ⟨l2, by rw [hF 45 (by simp)]; exact b1, b2⟩, c⟩
theorem DWo_of (d : DWc Fv P PR m) : DWo Fv P PR q m := ⟨d.1, fun r hr => ⟨(d.2 r hr).1, (d.2 r hr).2.1, fun z _ => (d.2 r hr).2.2 z⟩⟩
theorem DWc_of (d : DWo Fv P PR q m) (hl : F m (pq q 9) ≠ 3 → LVQ Fv P m q) : DWc Fv P PR m := ⟨d.1, fun r hr => ⟨(d.2 r hr).1, (d.2 r hr).2.1, fun z => by
  by_cases e : r = q
  · rw [e] at z ⊢; exact hl z
  · exact (d.2 r hr).2.2 z e⟩⟩
theorem DWo_q (d : DWo Fv P PR q m) (hq : q < PR) (hal : F m (pq q 9) ≠ 3) (hal2 : F m2 (pq q 9) ≠ 3) (hs : SMQ m2 q)
    (o1 : ∀ r k, r ≠ q → k < 100 → m2.1 (pq r k) = m.1 (pq r k)) (o2 : ∀ r, r ≠ q → m2.2.1 (pq r 16) = m.2.1 (pq r 16)) (o3 : ∀ r k, r ≠ q → k < 100 → m2.2.2.2 (pq r k) = m.2.2.2 (pq r k))
    (g1 : ∀ k, k ∈ [942, 950, 953, 955, 956] → m2.1 k = m.1 k) (g2 : ∀ k, k ∈ [1948, 53, 54] → m2.2.2.1 k = m.2.2.1 k) : DWo Fv P PR q m2 := by
  obtain ⟨⟨⟨g11, g12⟩, g13, g14, ⟨g15, g16⟩, g17, g18, g19⟩, d2⟩ := d
  have st : ∀ r, r ≠ q → F m2 (pq r 9) = F m (pq r 9) := fun r hr => congrArg _ (o1 r 9 hr (by omega))
  have gF : ∀ k, k ∈ [942, 950, 953, 955, 956] → F m2 k = F m k := fun k hk => congrArg _ (g1 k hk)
  have gA : ∀ k i, k ∈ [1948, 53, 54] → A m2 k i = A m k i := fun k i hk => by show (m2.2.2.1 k i).toInt = _; rw [g2 k hk]; rfl
  have hce : cEc m2 PR = cEc m PR := by
    have gen : ∀ k, cEc m2 k = cEc m k := by
      intro k
      induction k with
      | zero => rfl
      | succ k ih =>
        show cEc m2 k + _ = cEc m k + _
        rw [ih]
        by_cases e : k = q
        · subst e; rw [if_neg hal, if_neg hal2]
        · rw [st k e]
    exact gen PR
  refine ⟨⟨⟨by rw [gF 942 (by simp)]; exact g11, g12⟩, fun r hr => by rw [g2 1948 (by simp)]; exact g13 r hr, by rw [gF 950 (by simp)]; exact g14, ⟨by rw [gF 955 (by simp), hce]; exact g15, by rw [gF 955 (by simp), gF 956 (by simp)]; exact g16⟩, fun i hi => ?_, by rw [gF 953 (by simp)]; exact g18, fun i hi => ?_⟩, fun r hr => ?_⟩
  · rw [gF 955 (by simp)] at hi
    obtain ⟨r, r1, r2, r3⟩ := g17 i hi
    refine ⟨r, by rw [gA 54 i (by simp)]; exact r1, r2, ?_⟩
    by_cases e : r = q
    · subst e; exact absurd r3 hal
    · rw [st r e]; exact r3
  · rw [gF 953 (by simp)] at hi
    rw [gA 53 i (by simp)]; exact g19 i hi
  · by_cases e : r = q
    · subst e; exact ⟨hs, fun z => absurd z hal2, fun _ z => absurd rfl z⟩
    · obtain ⟨s1, s2, s3⟩ := d2 r hr
      have hI : ∀ k, k < 100 → F m2 (pq r k) = F m (pq r k) := fun k hk => congrArg _ (o1 r k e hk)
      refine ⟨?_, fun z => ?_, fun z _ => ?_⟩
      · unfold SMQ
        rw [hI 15 (by omega), hI 8 (by omega), hI 9 (by omega), hI 7 (by omega)]; exact s1
      · rw [hI 9 (by omega)] at z
        obtain ⟨hq2, n, ow, kd, e1, e2, e3, e4, e5, e6⟩ := s2 z
        have hne : hq2 ≠ q := fun y => hal (y ▸ e3)
        exact ⟨hq2, n, ow, kd, by rw [o1 r 17 e (by omega)]; exact e1, e2, by rw [st hq2 hne]; exact e3, e4, by rw [o3 hq2 2 hne (by omega)]; exact e5, by rw [o2 r e]; exact e6⟩
      · rw [hI 9 (by omega)] at z
        obtain ⟨n, ow, kd, B, W, Y, p⟩ := s3 z e
        exact ⟨n, ow, kd, B, W, Y, PTQ_same p (fun k hk => o1 r k e (by simp at hk; omega)) (fun k hk => o3 r k e (by simp at hk; omega))⟩
theorem DWc_q (d : DWc Fv P PR m) (hq : q < PR) (hal : F m (pq q 9) ≠ 3) (hal2 : F m2 (pq q 9) ≠ 3) (hs : SMQ m2 q) (hl : LVQ Fv P m2 q)
    (o1 : ∀ r k, r ≠ q → k < 100 → m2.1 (pq r k) = m.1 (pq r k)) (o2 : ∀ r, r ≠ q → m2.2.1 (pq r 16) = m.2.1 (pq r 16)) (o3 : ∀ r k, r ≠ q → k < 100 → m2.2.2.2 (pq r k) = m.2.2.2 (pq r k))
    (g1 : ∀ k, k ∈ [942, 950, 953, 955, 956] → m2.1 k = m.1 k) (g2 : ∀ k, k ∈ [1948, 53, 54] → m2.2.2.1 k = m.2.2.1 k) : DWc Fv P PR m2 := DWc_of (DWo_q (DWo_of d) hq hal hal2 hs o1 o2 o3 g1 g2) (fun _ => hl)
end
end
section
set_option maxRecDepth 100000
def CTX (Fv : Int64 → Int64 → Prop) (P : Int64 → Prop) (m : MS) : Prop := FVc Fv ∧ (∀ t, P t → PT m t) ∧ WDc m 1 ∧ 22 ≤ F m 22 ∧ (∀ x : Int, RG x → P (mk 0 x) ∧ P (mk 2 x) ∧ P (mk 4 x)) ∧ (∀ a : Int, 0 ≤ a → a < F m 22 → P (mk 1 a)) ∧ P (mk 6 0)
section
variable {Fv : Int64 → Int64 → Prop} {P : Int64 → Prop} {u v w m m2 : MS} {PR N q r n B W Y : Nat} {ow kd : Nat → Nat} {t : Int64} {h h2 : Nat → Int64}
theorem CTX_fr (c : CTX Fv P u) (h1 : w.1 22 = u.1 22) (h2 : w.2.2.1 3 = u.2.2.1 3) : CTX Fv P w := by
  obtain ⟨c1, c2, c3, c4, c5, c6, c7⟩ := c
  have e : F w 22 = F u 22 := congrArg _ h1
  refine ⟨c1, fun t ht => ?_, ?_, by rw [e]; exact c4, c5, by rw [e]; exact c6, c7⟩
  · have := c2 t ht; unfold PT at this ⊢; rw [e]; exact this
  · unfold WDc at c3 ⊢
    have e2 : ∀ i, A w (1 + 2) i = A u (1 + 2) i := fun i => by show (w.2.2.1 3 i).toInt = _; rw [h2]; rfl
    have e3 : F w (20 * 1 + 2) = F u (20 * 1 + 2) := e
    rw [e3]; simp only [e2]; exact c3
theorem CTX_w (c : CTX Fv P u) (f : WFR u w) : CTX Fv P w := CTX_fr c (f.2.1 22 (by omega) (by simp)) (f.2.2.2.1 3 (by omega) (by simp))
theorem SZ_max (g : HPc h n ow kd Fv P) {f s : Nat} (z : SZc h n ow kd Fv P f t s) : s ≤ 500 + n := by
  by_cases e : 500 < s
  · obtain ⟨S, dS, h1, -⟩ := SZ_bigc g s f t z e
    have := @cnt_le S dS ow n
    omega
  · omega
theorem SML_rf {o : Int64} : SML h n ow kd h n ow kd Fv P o o := ⟨rfl, ⟨fun _ => rfl, fun _ _ => rfl⟩, fun _ _ z => z⟩
def WNTc (Fv : Int64 → Int64 → Prop) (P : Int64 → Prop) (u : MS) (q n : Nat) (ow kd : Nat → Nat) (B W Y : Nat) (x : Int) (w : MS) (r : Int32) : Prop := (r = 0 ∨ r = 1) ∧ ∃ U ow2 kd2, PTQ w q U ow2 kd2 Fv P B W Y ∧ (r = 1 → (U : Int) + x ≤ 500) ∧ FR [pq q 4, pq q 5] [] [] [pq q 2, pq q 3, pq q 33, pq q 35, pq q 6] u w ∧ (∀ i, i < B → SML (u.2.2.2 (pq q 2)) n ow kd (w.2.2.2 (pq q 2)) U ow2 kd2 Fv P (u.2.2.2 (pq q 33) i) (w.2.2.2 (pq q 33) i)) ∧ (∀ i, i < W → SML (u.2.2.2 (pq q 2)) n ow kd (w.2.2.2 (pq q 2)) U ow2 kd2 Fv P (u.2.2.2 (pq q 35) i) (w.2.2.2 (pq q 35) i))
theorem want_ok {x : Int} (p : PTQ u q n ow kd Fv P B W Y) (c : CTX Fv P u) (hx : 0 ≤ x ∧ x ≤ 100000) (hN : 2100000 ≤ N) : OK (fun w r => WNTc Fv P u q n ow kd B W Y x w r) (hm_Pr_want N u q (I x)) := by
  have p' := p
  obtain ⟨⟨p1, p2, p3⟩, ⟨p4, p5⟩, ⟨p6, p7⟩, ⟨p8, p9⟩, ⟨l, a1, a2, a3⟩, ⟨l2, b1, b2, b3⟩, c0⟩ := p
  unfold hm_Pr_want hb_Pr_want_0
  have fin : ∀ (w : MS) (U : Nat) (ow2 kd2 : Nat → Nat), PTQ w q U ow2 kd2 Fv P B W Y → U ≤ 500 → FR [pq q 4, pq q 5] [] [] [pq q 2, pq q 3, pq q 33, pq q 35, pq q 6] u w → (∀ i, i < B → SML (u.2.2.2 (pq q 2)) n ow kd (w.2.2.2 (pq q 2)) U ow2 kd2 Fv P (u.2.2.2 (pq q 33) i) (w.2.2.2 (pq q 33) i)) → (∀ i, i < W → SML (u.2.2.2 (pq q 2)) n ow kd (w.2.2.2 (pq q 2)) U ow2 kd2 Fv P (u.2.2.2 (pq q 35) i) (w.2.2.2 (pq q 35) i)) → OK (fun w r => WNTc Fv P u q n ow kd B W Y x w r) (hb_Pr_want_16 N () w q (I x)) := by
    intro w U ow2 kd2 pw hU f s1 s2
    unfold hb_Pr_want_16 hb_Pr_want_33
    rw [I_F (k := pq q 4), pw.1.1, I_add, I_lit (n := 500)]
    refine k_lt ⟨by decide, by decide⟩ ⟨by omega, by omega⟩ (fun _ => ok_ck.mpr ⟨by decide, ok_some.mpr ⟨Or.inl rfl, U, ow2, kd2, pw, fun z => absurd z (by decide), f, s1, s2⟩⟩) (fun y => ok_ck.mpr ⟨by decide, ok_some.mpr ⟨Or.inr rfl, U, ow2, kd2, pw, fun _ => y, f, s1, s2⟩⟩)
  rw [I_F (k := pq q 4), p1, I_add, I_lit (n := 500)]
  refine k_le ⟨by omega, by omega⟩ ⟨by decide, by decide⟩ (fun _ => fin u n ow kd p' p2 FR.rf (fun _ _ => SML_rf) (fun _ _ => SML_rf)) (fun _ => ?_)
  refine ok_bnd.mpr (ok_mono (clearHeap_ok (N := N) p' c.1 c.2.1 (by omega)) (fun w _ hw => ?_))
  obtain ⟨U, ow2, kd2, q1, q2, q3, q4, q5⟩ := hw
  exact fin w U ow2 kd2 q1 (by omega) q3 q4 q5
theorem rf_some {x : Nat} (h : x < 24) : rf (fr (some x)) = some x := rf_fr (fun r e => by cases e; exact h)
theorem endsWith_ok {hq n2 : Nat} {ow2 kd2 : Nat → Nat} (d : DWo Fv P PR q u) (hqq : q < PR) (hal : F u (pq q 9) ≠ 3) (hh : hq < PR) (hh2 : hq = q ∨ F u (pq hq 9) = 3) (hn : n2 ≤ 512) (g : HPc (u.2.2.2 (pq hq 2)) n2 ow2 kd2 Fv P) (gt : GT n2 ow2 kd2 P t) :
    OK (fun w _ => DWc Fv P PR w ∧ WFR u w ∧ F w (pq q 9) = 3 ∧ (∀ r, r ≠ q → F w (pq r 9) = F u (pq r 9)) ∧ F w 956 = F u 956 ∧ ((∀ r k, r ≠ q → k < 100 → w.1 (pq r k) = u.1 (pq r k)) ∧ w.2.2.2 = u.2.2.2 ∧ ∀ k, k ≠ 54 → w.2.2.1 k = u.2.2.1 k) ∧ ∀ r, w.1 (pq r 7) = u.1 (pq r 7)) (hm_Wl_endsWith N u q t hq) := by
  obtain ⟨⟨⟨g11, g12⟩, g13, g14, ⟨g15, g16, g16b⟩, g17, g18, g19⟩, d2⟩ := d
  have hlt := cEc_lt (m := u) PR hqq hal
  unfold hm_Wl_endsWith hb_Wl_endsWith_0 hb_Wl_endsWith_17
  refine k_F (y := 3) rfl ⟨by decide, by decide⟩ (fun z => absurd z hal) (fun _ => ?_)
  rw [I_F (k := 955), g15, I_lit (n := 24)]
  refine k_lt ⟨by omega, by omega⟩ ⟨by decide, by decide⟩ (fun _ => ?_) (fun z => absurd z (by show ¬ (24 : Int) ≤ _; omega))
  refine ok_lt.mpr (ok_lt.mpr (ok_lt.mpr ?_))
  rw [I_lit (n := 3), wi_e, wl_e, I_of (fr (some hq)), wi_e]
  generalize hw : wi (wl (wi u (pq q 9) (OfNat.ofNat 3)) (pq q 16) t) (pq q 17) (fr (some hq)).toInt = w
  have e955 : w.1 955 = I ((cEc u PR : Nat) : Int) := by
    rw [← hw]
    show (if 955 = pq q 17 then _ else if 955 = pq q 9 then _ else u.1 955) = _
    rw [if_neg (by unfold pq; omega), if_neg (by unfold pq; omega), I_F, g15]
  rw [e955]
  refine e_in ⟨by omega, by omega⟩ (by decide) (ok_lt.mpr (ok_lt.mpr (ok_some.mpr ?_)))
  rw [tnI (n := cEc u PR) rfl (by omega), show Int32.ofNat q = I ((q : Nat) : Int) from rfl, wa_e]
  rw [show (wa w 54 (cEc u PR) (q : Int)).1 955 = I ((cEc u PR : Nat) : Int) from e955, lit1q, I_add, wi_e]
  generalize hz : wi (wa w 54 (cEc u PR) (q : Int)) 955 ((cEc u PR : Nat) + 1) = z
  have z1 : ∀ k, z.1 k = if k = 955 then I ((cEc u PR : Nat) + 1) else if k = pq q 17 then fr (some hq) else if k = pq q 9 then 3 else u.1 k := by
    intro k
    rw [← hz, ← hw]
    show (if k = 955 then _ else if k = pq q 17 then I _ else if k = pq q 9 then _ else u.1 k) = _
    rw [← I_of (fr (some hq))]
    rfl
  have z2 : ∀ k, z.2.1 k = if k = pq q 16 then t else u.2.1 k := by
    intro k
    rw [← hz, ← hw]
    rfl
  have z3 : ∀ k, z.2.2.1 k = if k = 54 then upd (u.2.2.1 54) (cEc u PR) (I (q : Int)) else u.2.2.1 k := by
    intro k
    rw [← hz, ← hw]
    rfl
  have z4 : z.2.2.2 = u.2.2.2 := by rw [← hz, ← hw]; rfl
  have st : F z (pq q 9) = 3 := by
    show (z.1 (pq q 9)).toInt = 3
    rw [z1, if_neg (by unfold pq; omega), if_neg (by unfold pq; omega), if_pos rfl]; rfl
  have so9 : ∀ r, r ≠ q → F z (pq r 9) = F u (pq r 9) := fun r hr => by
    show (z.1 (pq r 9)).toInt = _
    rw [z1, if_neg (by unfold pq; omega), if_neg (by unfold pq; omega), if_neg (by unfold pq; omega)]; rfl
  have oI : ∀ r k, (r ≠ q ∨ (k ≠ 9 ∧ k ≠ 17)) → k < 100 → z.1 (pq r k) = u.1 (pq r k) := fun r k h hk => by
    rw [z1, if_neg (by unfold pq; omega), if_neg (by unfold pq; omega), if_neg (by unfold pq; omega)]
  have gI : ∀ k, k < 2000 → k ≠ 955 → z.1 k = u.1 k := fun k h1 h2 => by rw [z1, if_neg h2, if_neg (by unfold pq; omega), if_neg (by unfold pq; omega)]
  have e9 : F z 955 = (cEc u PR : Nat) + 1 := by
    show (z.1 955).toInt = _
    rw [z1, if_pos rfl, I_ti (by omega) (by omega)]
  have hce := cEc_up (m2 := z) hal st so9 PR hqq
  have st3 : ∀ r, F u (pq r 9) = 3 → F z (pq r 9) = 3 := fun r hr => by
    by_cases e : r = q
    · rw [e]; exact st
    · rw [so9 r e]; exact hr
  refine ⟨⟨⟨⟨by rw [show F z 942 = F u 942 from congrArg _ (gI 942 (by omega) (by omega))]; exact g11, g12⟩, fun r hr => by rw [z3, if_neg (by omega)]; exact g13 r hr, by rw [show F z 950 = F u 950 from congrArg _ (gI 950 (by omega) (by omega))]; exact g14, ⟨by rw [e9, hce]; omega, by rw [show F z 956 = F u 956 from congrArg _ (gI 956 (by omega) (by omega))]; exact g16, by rw [show F z 956 = F u 956 from congrArg _ (gI 956 (by omega) (by omega)), e9]; omega⟩, fun i hi => ?_, by rw [show F z 953 = F u 953 from congrArg _ (gI 953 (by omega) (by omega))]; exact g18, fun i hi => ?_⟩, fun r hr => ?_⟩, ⟨fun r k hk hk2 => ?_, fun k hk hk2 => ?_, fun r k hk _ => ?_, fun k hk hk2 => ?_, fun k _ _ => ?_, fun r k hk hk2 => ?_, fun k hk => ?_⟩, st, so9, congrArg _ (gI 956 (by omega) (by omega)), ⟨fun r k hr hk => oI r k (Or.inl hr) hk, z4, fun k hk => by rw [z3, if_neg hk]⟩, fun r => oI r 7 (Or.inr (by omega)) (by omega)⟩
  · rw [e9] at hi
    by_cases e : i = cEc u PR
    · refine ⟨q, ?_, hqq, st⟩
      show (z.2.2.1 54 i).toInt = _
      rw [z3, if_pos rfl]
      unfold upd
      rw [if_pos e, I_ti (by omega) (by omega)]
    · obtain ⟨r, r1, r2, r3⟩ := g17 i (by omega)
      refine ⟨r, ?_, r2, st3 r r3⟩
      show (z.2.2.1 54 i).toInt = _
      rw [z3, if_pos rfl]
      unfold upd
      rw [if_neg e]; exact r1
  · rw [show F z 953 = F u 953 from congrArg _ (gI 953 (by omega) (by omega))] at hi
    have : A z 53 i = A u 53 i := by show (z.2.2.1 53 i).toInt = _; rw [z3, if_neg (by omega)]; rfl
    rw [this]; exact g19 i hi
  · obtain ⟨s1, s2, s3⟩ := d2 r hr
    have fI : ∀ k, (r ≠ q ∨ (k ≠ 9 ∧ k ≠ 17)) → k < 100 → F z (pq r k) = F u (pq r k) := fun k h hk => congrArg _ (oI r k h hk)
    refine ⟨?_, fun _ => ?_, fun y => ?_⟩
    · obtain ⟨t1, t2, t3⟩ := s1
      refine ⟨by rw [fI 15 (by omega) (by omega)]; exact t1, by rw [fI 8 (by omega) (by omega)]; exact t2, fun y => ?_⟩
      rw [fI 8 (by omega) (by omega), fI 7 (by omega) (by omega)]
      exact t3 (fun y2 => y (st3 r y2))
    · by_cases e : r = q
      · subst e
        refine ⟨hq, n2, ow2, kd2, ?_, hh, ?_, hn, by rw [z4]; exact g, ?_⟩
        · rw [z1, if_neg (by unfold pq; omega), if_pos rfl]; exact rf_some (by omega)
        · rcases hh2 with y | y
          · rw [y]; exact st
          · exact st3 hq y
        · rw [z2, if_pos rfl]; exact gt
      · rename_i y
        rw [so9 r e] at y
        obtain ⟨hq2, n3, ow3, kd3, e1, e2, e3, e4, e5, e6⟩ := s2 y
        exact ⟨hq2, n3, ow3, kd3, by rw [oI r 17 (Or.inl e) (by omega)]; exact e1, e2, st3 hq2 e3, e4, by rw [z4]; exact e5, by rw [z2, if_neg (by unfold pq; omega)]; exact e6⟩
    · have e : r ≠ q := fun y2 => y (by rw [y2]; exact st)
      rw [so9 r e] at y
      obtain ⟨n3, ow3, kd3, B3, W3, Y3, p⟩ := s3 y e
      exact ⟨n3, ow3, kd3, B3, W3, Y3, PTQ_same p (fun k hk => oI r k (Or.inl e) (by simp at hk; omega)) (fun k hk => by rw [z4])⟩
  · refine oI r k (Or.inr ?_) hk
    simp at hk2; omega
  · exact gI k hk (by simp at hk2; omega)
  · rw [z3, if_neg (by unfold pq; omega)]
  · rw [z3, if_neg (by simp at hk2; omega)]
  · rw [z4]
  · rw [z2, if_neg (by simp at hk2; unfold pq; omega)]
  · rw [z2, if_neg (by unfold pq; omega)]
theorem endsBy_ok {a : Nat} (d : DWc Fv P PR u) (c : CTX Fv P u) (hqq : q < PR) (hal : F u (pq q 9) ≠ 3) (ha : a < 22) :
    OK (fun w _ => DWc Fv P PR w ∧ WFR u w ∧ F w (pq q 9) = 3 ∧ (∀ r, r ≠ q → F w (pq r 9) = F u (pq r 9)) ∧ F w 956 = F u 956 ∧ ((∀ r k, r ≠ q → k < 100 → w.1 (pq r k) = u.1 (pq r k)) ∧ w.2.2.2 = u.2.2.2 ∧ ∀ k, k ≠ 54 → w.2.2.1 k = u.2.2.1 k) ∧ ∀ r, w.1 (pq r 7) = u.1 (pq r 7)) (hm_Wl_endsBy N u q (I ((a : Nat) : Int))) := by
  obtain ⟨n, ow, kd, B, W, Y, p⟩ := (d.2 q hqq).2.2 hal
  unfold hm_Wl_endsBy hb_Wl_endsBy_0
  rw [lit1q, e_make, bnd_so]
  refine ok_bnd.mpr (ok_mono (endsWith_ok (N := N) (DWo_of d) hqq hal hqq (Or.inl rfl) (by have := p.1.2.1; omega) p.1.2.2 (Or.inl ⟨nh_so ?_, c.2.2.2.2.2.1 _ (by omega) (by have := c.2.2.2.1; omega)⟩)) (fun w _ hw => ok_some.mpr hw))
  rw [so_mk (by decide) (by decide)]; decide
end
end
section
set_option maxRecDepth 100000
def FC (q : Nat) (gi gl ga ki kl ka kj : List Nat) (u w : MS) : Prop :=
  (∀ k, k < 2000 → k ∉ gi → w.1 k = u.1 k) ∧ (∀ k, k < 2000 → k ∉ gl → w.2.1 k = u.2.1 k) ∧ (∀ k, k < 2000 → k ∉ ga → w.2.2.1 k = u.2.2.1 k) ∧ (∀ k, k < 2000 → k ∉ [44, 45, 46] → w.2.2.2 k = u.2.2.2 k) ∧
  (∀ r k, k < 100 → (r = q → k ∉ ki) → w.1 (pq r k) = u.1 (pq r k)) ∧ (∀ r k, k < 100 → (r = q → k ∉ kl) → w.2.1 (pq r k) = u.2.1 (pq r k)) ∧ (∀ r k, k < 100 → (r = q → k ∉ ka) → w.2.2.1 (pq r k) = u.2.2.1 (pq r k)) ∧ (∀ r k, k < 100 → (r = q → k ∉ kj) → w.2.2.2 (pq r k) = u.2.2.2 (pq r k))
theorem pq_e {q k r l : Nat} (hk : k < 100) (hl : l < 100) (h : pq q k = pq r l) : q = r ∧ k = l := by unfold pq at h; omega
section
variable {q : Nat} {gi gl ga ki kl ka kj gi2 gl2 ga2 ki2 kl2 ka2 kj2 : List Nat} {u v w : MS} {k : Nat}
theorem FC.rf : FC q gi gl ga ki kl ka kj u u := ⟨fun _ _ _ => rfl, fun _ _ _ => rfl, fun _ _ _ => rfl, fun _ _ _ => rfl, fun _ _ _ _ => rfl, fun _ _ _ _ => rfl, fun _ _ _ _ => rfl, fun _ _ _ _ => rfl⟩
theorem FC.tr (a : FC q gi gl ga ki kl ka kj u v) (b : FC q gi gl ga ki kl ka kj v w) : FC q gi gl ga ki kl ka kj u w := by
  obtain ⟨a1, a2, a3, a4, a5, a6, a7, a8⟩ := a
  obtain ⟨b1, b2, b3, b4, b5, b6, b7, b8⟩ := b
  exact ⟨fun k x y => (b1 k x y).trans (a1 k x y), fun k x y => (b2 k x y).trans (a2 k x y), fun k x y => (b3 k x y).trans (a3 k x y), fun k x y => (b4 k x y).trans (a4 k x y), fun r k x y => (b5 r k x y).trans (a5 r k x y), fun r k x y => (b6 r k x y).trans (a6 r k x y), fun r k x y => (b7 r k x y).trans (a7 r k x y), fun r k x y => (b8 r k x y).trans (a8 r k x y)⟩
theorem FC.mo (a : FC q gi gl ga ki kl ka kj u w) (h1 : ∀ k, k ∈ gi → k ∈ gi2) (h2 : ∀ k, k ∈ gl → k ∈ gl2) (h3 : ∀ k, k ∈ ga → k ∈ ga2) (h4 : ∀ k, k ∈ ki → k ∈ ki2) (h5 : ∀ k, k ∈ kl → k ∈ kl2) (h6 : ∀ k, k ∈ ka → k ∈ ka2) (h7 : ∀ k, k ∈ kj → k ∈ kj2) : FC q gi2 gl2 ga2 ki2 kl2 ka2 kj2 u w := by
  obtain ⟨a1, a2, a3, a4, a5, a6, a7, a8⟩ := a
  exact ⟨fun k x y => a1 k x (fun z => y (h1 k z)), fun k x y => a2 k x (fun z => y (h2 k z)), fun k x y => a3 k x (fun z => y (h3 k z)), a4, fun r k x y => a5 r k x (fun e z => y e (h4 k z)), fun r k x y => a6 r k x (fun e z => y e (h5 k z)), fun r k x y => a7 r k x (fun e z => y e (h6 k z)), fun r k x y => a8 r k x (fun e z => y e (h7 k z))⟩
theorem FC.Fq (a : FC q gi gl ga ki kl ka kj u w) (h1 : k < 100) (h2 : k ∉ ki) : F w (pq q k) = F u (pq q k) := congrArg _ (a.2.2.2.2.1 q k h1 (fun _ => h2))
theorem FC.Fo (a : FC q gi gl ga ki kl ka kj u w) {r : Nat} (hr : r ≠ q) (h1 : k < 100) : F w (pq r k) = F u (pq r k) := congrArg _ (a.2.2.2.2.1 r k h1 (fun e => absurd e hr))
theorem FC.Fg (a : FC q gi gl ga ki kl ka kj u w) (h1 : k < 2000) (h2 : k ∉ gi) : F w k = F u k := congrArg _ (a.1 k h1 h2)
theorem FC.aq (a : FC q gi gl ga ki kl ka kj u w) {i : Nat} (h1 : k < 100) (h2 : k ∉ ka) : A w (pq q k) i = A u (pq q k) i := by show (w.2.2.1 (pq q k) i).toInt = _; rw [a.2.2.2.2.2.2.1 q k h1 (fun _ => h2)]; rfl
theorem FC.ag (a : FC q gi gl ga ki kl ka kj u w) {i : Nat} (h1 : k < 2000) (h2 : k ∉ ga) : A w k i = A u k i := by show (w.2.2.1 k i).toInt = _; rw [a.2.2.1 k h1 h2]; rfl
theorem FC.jq (a : FC q gi gl ga ki kl ka kj u w) (h1 : k < 100) (h2 : k ∉ kj) : w.2.2.2 (pq q k) = u.2.2.2 (pq q k) := a.2.2.2.2.2.2.2 q k h1 (fun _ => h2)
theorem FC.jo (a : FC q gi gl ga ki kl ka kj u w) {r : Nat} (hr : r ≠ q) (h1 : k < 100) : w.2.2.2 (pq r k) = u.2.2.2 (pq r k) := a.2.2.2.2.2.2.2 r k h1 (fun e => absurd e hr)
theorem FC.wi_q (a : FC q gi gl ga ki kl ka kj u w) {x : Int} (h1 : k < 100) (h2 : k ∈ ki) : FC q gi gl ga ki kl ka kj u (wi w (pq q k) x) := by
  obtain ⟨a1, a2, a3, a4, a5, a6, a7, a8⟩ := a
  refine ⟨fun j x y => (if_neg (by unfold pq; omega)).trans (a1 j x y), a2, a3, a4, fun r j x y => (if_neg (fun z => ?_)).trans (a5 r j x y), a6, a7, a8⟩
  obtain ⟨e1, e2⟩ := pq_e x h1 z
  exact y e1 (e2 ▸ h2)
theorem FC.wi_g (a : FC q gi gl ga ki kl ka kj u w) {x : Int} (h1 : k < 2000) (h2 : k ∈ gi) : FC q gi gl ga ki kl ka kj u (wi w k x) := by
  obtain ⟨a1, a2, a3, a4, a5, a6, a7, a8⟩ := a
  exact ⟨fun j x y => (if_neg (fun (z : j = k) => y (z ▸ h2))).trans (a1 j x y), a2, a3, a4, fun r j x y => (if_neg (by unfold pq; omega)).trans (a5 r j x y), a6, a7, a8⟩
theorem FC.wl_q (a : FC q gi gl ga ki kl ka kj u w) {x : Int64} (h1 : k < 100) (h2 : k ∈ kl) : FC q gi gl ga ki kl ka kj u (wl w (pq q k) x) := by
  obtain ⟨a1, a2, a3, a4, a5, a6, a7, a8⟩ := a
  refine ⟨a1, fun j x y => (if_neg (by unfold pq; omega)).trans (a2 j x y), a3, a4, a5, fun r j x y => (if_neg (fun z => ?_)).trans (a6 r j x y), a7, a8⟩
  obtain ⟨e1, e2⟩ := pq_e x h1 z
  exact y e1 (e2 ▸ h2)
theorem FC.wl_g (a : FC q gi gl ga ki kl ka kj u w) {x : Int64} (h1 : k < 2000) (h2 : k ∈ gl) : FC q gi gl ga ki kl ka kj u (wl w k x) := by
  obtain ⟨a1, a2, a3, a4, a5, a6, a7, a8⟩ := a
  exact ⟨a1, fun j x y => (if_neg (fun (z : j = k) => y (z ▸ h2))).trans (a2 j x y), a3, a4, a5, fun r j x y => (if_neg (by unfold pq; omega)).trans (a6 r j x y), a7, a8⟩
theorem FC.A_q (a : FC q gi gl ga ki kl ka kj u w) {g : Nat → Int32} (h1 : k < 100) (h2 : k ∈ ka) : FC q gi gl ga ki kl ka kj u (upA w (pq q k) g) := by
  obtain ⟨a1, a2, a3, a4, a5, a6, a7, a8⟩ := a
  refine ⟨a1, a2, fun j x y => (if_neg (by unfold pq; omega)).trans (a3 j x y), a4, a5, a6, fun r j x y => (if_neg (fun z => ?_)).trans (a7 r j x y), a8⟩
  obtain ⟨e1, e2⟩ := pq_e x h1 z
  exact y e1 (e2 ▸ h2)
theorem FC.A_g (a : FC q gi gl ga ki kl ka kj u w) {g : Nat → Int32} (h1 : k < 2000) (h2 : k ∈ ga) : FC q gi gl ga ki kl ka kj u (upA w k g) := by
  obtain ⟨a1, a2, a3, a4, a5, a6, a7, a8⟩ := a
  exact ⟨a1, a2, fun j x y => (if_neg (fun (z : j = k) => y (z ▸ h2))).trans (a3 j x y), a4, a5, a6, fun r j x y => (if_neg (by unfold pq; omega)).trans (a7 r j x y), a8⟩
theorem FC.J_q (a : FC q gi gl ga ki kl ka kj u w) {g : Nat → Int64} (h1 : k < 100) (h2 : k ∈ kj) : FC q gi gl ga ki kl ka kj u (upJ w (pq q k) g) := by
  obtain ⟨a1, a2, a3, a4, a5, a6, a7, a8⟩ := a
  refine ⟨a1, a2, a3, fun j x y => (if_neg (by unfold pq; omega)).trans (a4 j x y), a5, a6, a7, fun r j x y => (if_neg (fun z => ?_)).trans (a8 r j x y)⟩
  obtain ⟨e1, e2⟩ := pq_e x h1 z
  exact y e1 (e2 ▸ h2)
theorem FC.J_g (a : FC q gi gl ga ki kl ka kj u w) {g : Nat → Int64} (h2 : k ∈ [44, 45, 46]) : FC q gi gl ga ki kl ka kj u (upJ w k g) := by
  obtain ⟨a1, a2, a3, a4, a5, a6, a7, a8⟩ := a
  have hk : k < 2000 := by simp at h2; omega
  exact ⟨a1, a2, a3, fun j x y => (if_neg (fun (z : j = k) => y (z ▸ h2))).trans (a4 j x y), a5, a6, a7, fun r j x y => (if_neg (by unfold pq; omega)).trans (a8 r j x y)⟩
theorem FC.wa_q (a : FC q gi gl ga ki kl ka kj u w) {i : Nat} {x : Int} (h1 : k < 100) (h2 : k ∈ ka) : FC q gi gl ga ki kl ka kj u (wa w (pq q k) i x) := FC.A_q a h1 h2
theorem FC.wa_g (a : FC q gi gl ga ki kl ka kj u w) {i : Nat} {x : Int} (h1 : k < 2000) (h2 : k ∈ ga) : FC q gi gl ga ki kl ka kj u (wa w k i x) := FC.A_g a h1 h2
theorem FC.wj_q (a : FC q gi gl ga ki kl ka kj u w) {i : Nat} {x : Int64} (h1 : k < 100) (h2 : k ∈ kj) : FC q gi gl ga ki kl ka kj u (wj w (pq q k) i x) := FC.J_q a h1 h2
theorem FC.wj_g (a : FC q gi gl ga ki kl ka kj u w) {i : Nat} {x : Int64} (h2 : k ∈ [44, 45, 46]) : FC q gi gl ga ki kl ka kj u (wj w k i x) := FC.J_g a h2
theorem FC.of (f : FR gi gl ga kj u w) (h : ∀ k, k ∈ kj → k ∈ [44, 45, 46]) (h1 : ∀ k, k ∈ gi → k < 2000) (h2 : ∀ k, k ∈ gl → k < 2000) (h3 : ∀ k, k ∈ ga → k < 2000) : FC q gi gl ga [] [] [] [] u w := by
  refine ⟨fun k _ y => f.1 k y, fun k _ y => f.2.1 k y, fun k _ y => f.2.2.1 k y, fun k _ y => f.2.2.2 k (fun z => y (h k z)), fun r k _ _ => f.1 _ (fun z => ?_), fun r k _ _ => f.2.1 _ (fun z => ?_), fun r k _ _ => f.2.2.1 _ (fun z => ?_), fun r k _ _ => f.2.2.2 _ (fun z => ?_)⟩
  · have := h1 _ z; unfold pq at this; omega
  · have := h2 _ z; unfold pq at this; omega
  · have := h3 _ z; unfold pq at this; omega
  · have := h _ z; simp at this; unfold pq at this; omega
theorem FC.ofq (f : FR (ki.map (pq q)) [] [] (kj.map (pq q)) u w) (h1 : ∀ k, k ∈ ki → k < 100) (h2 : ∀ k, k ∈ kj → k < 100) : FC q [] [] [] ki [] [] kj u w := by
  have m : ∀ {l : List Nat} {x : Nat}, x ∈ l.map (pq q) → ∃ k, k ∈ l ∧ pq q k = x := fun h => List.mem_map.mp h
  refine ⟨fun k hk _ => f.1 k (fun z => ?_), fun k _ _ => f.2.1 k (by simp), fun k _ _ => f.2.2.1 k (by simp), fun k hk _ => f.2.2.2 k (fun z => ?_), fun r k hk y => f.1 _ (fun z => ?_), fun r k _ _ => f.2.1 _ (by simp), fun r k _ _ => f.2.2.1 _ (by simp), fun r k hk y => f.2.2.2 _ (fun z => ?_)⟩
  · obtain ⟨j, -, e⟩ := m z; unfold pq at e; omega
  · obtain ⟨j, -, e⟩ := m z; unfold pq at e; omega
  · obtain ⟨j, j1, e⟩ := m z
    obtain ⟨e1, e2⟩ := pq_e (h1 j j1) hk e
    exact y e1.symm (e2 ▸ j1)
  · obtain ⟨j, j1, e⟩ := m z
    obtain ⟨e1, e2⟩ := pq_e (h2 j j1) hk e
    exact y e1.symm (e2 ▸ j1)
theorem FC.W (a : FC q gi gl ga ki kl ka kj u w) (h1 : ∀ k, k ∈ gi → k ∈ [950, 955, 956]) (h2 : ∀ k, k ∈ gl → False) (h3 : ∀ k, k ∈ ga → k ∈ [49, 50, 51, 54]) (h4 : ∀ k, k ∈ ki → k ∈ [4, 5, 7, 9, 12, 15, 17]) (h5 : ∀ k, k ∈ kl → k ∈ [16]) (h6 : ∀ k, k ∈ ka → k ∈ [14]) (h7 : w.2.2.2 44 = u.2.2.2 44) : WFR u w := by
  obtain ⟨a1, a2, a3, a4, a5, a6, a7, a8⟩ := a
  refine ⟨fun r k x y => a5 r k x (fun _ z => y (h4 k z)), fun k x y => a1 k x (fun z => y (h1 k z)), fun r k x y => a7 r k x (fun _ z => y (h6 k z)), fun k x y => a3 k x (fun z => y (h3 k z)), fun k x y => ?_, fun r k x y => a6 r k x (fun _ z => y (h5 k z)), fun k x => a2 k x (fun z => h2 k z)⟩
  by_cases e : k = 44
  · rw [e]; exact h7
  · exact a4 k x (by simp at y ⊢; omega)
variable {Fv : Int64 → Int64 → Prop} {P : Int64 → Prop} {PR : Nat}
theorem DWc_fc (d : DWc Fv P PR u) (f : FC q gi gl ga ki kl ka kj u w) (hq : q < PR) (hal : F u (pq q 9) ≠ 3) (hal2 : F w (pq q 9) ≠ 3) (hs : SMQ w q) (hl : LVQ Fv P w q) (h1 : ∀ k, k ∈ [942, 950, 953, 955, 956] → k ∉ gi) (h2 : ∀ k, k ∈ [1948, 53, 54] → k ∉ ga) : DWc Fv P PR w := by
  obtain ⟨a1, a2, a3, a4, a5, a6, a7, a8⟩ := f
  exact DWc_q d hq hal hal2 hs hl (fun r k hr hk => a5 r k hk (fun e => absurd e hr)) (fun r hr => a6 r 16 (by omega) (fun e => absurd e hr)) (fun r k hr hk => a8 r k hk (fun e => absurd e hr)) (fun k hk => a1 k (by simp at hk; omega) (h1 k hk)) (fun k hk => a3 k (by simp at hk; omega) (h2 k hk))
theorem DWo_fc (d : DWo Fv P PR q u) (f : FC q gi gl ga ki kl ka kj u w) (hq : q < PR) (hal : F u (pq q 9) ≠ 3) (hal2 : F w (pq q 9) ≠ 3) (hs : SMQ w q) (h1 : ∀ k, k ∈ [942, 950, 953, 955, 956] → k ∉ gi) (h2 : ∀ k, k ∈ [1948, 53, 54] → k ∉ ga) : DWo Fv P PR q w := by
  obtain ⟨a1, a2, a3, a4, a5, a6, a7, a8⟩ := f
  exact DWo_q d hq hal hal2 hs (fun r k hr hk => a5 r k hk (fun e => absurd e hr)) (fun r hr => a6 r 16 (by omega) (fun e => absurd e hr)) (fun r k hr hk => a8 r k hk (fun e => absurd e hr)) (fun k hk => a1 k (by simp at hk; omega) (h1 k hk)) (fun k hk => a3 k (by simp at hk; omega) (h2 k hk))
end
end
section
set_option maxRecDepth 100000
section
variable {Fv : Int64 → Int64 → Prop} {P : Int64 → Prop} {u v w m m2 : MS} {PR N q r n B W Y : Nat} {ow kd : Nat → Nat} {t : Int64} {h h2 : Nat → Int64}
theorem PTQ_b (p : PTQ u q n ow kd Fv P B W Y) : n ≤ 500 ∧ B ≤ 1000000 ∧ W ≤ 1000000 ∧ Y ≤ 30 := by
  obtain ⟨⟨p1, p2, p3⟩, ⟨p4, p5⟩, ⟨p6, p7⟩, ⟨p8, p9⟩, ⟨l, a1, a2, a3⟩, ⟨l2, b1, b2, b3⟩, c⟩ := p
  omega
theorem comes_ok (p : PTQ u q n ow kd Fv P B W Y) (hY : Y < 30) (g : GT n ow kd P t) : OK (fun w _ => FC q [] [] [] [7] [] [] [6] u w ∧ PTQ w q n ow kd Fv P B W (Y + 1) ∧ w.2.2.2 44 = u.2.2.2 44) (hm_Pr_comes N u q t) := by
  obtain ⟨⟨p1, p2, p3⟩, ⟨p4, p5⟩, ⟨p6, p7⟩, ⟨p8, p9⟩, ⟨l, a1, a2⟩, ⟨l2, b1, b2⟩, c⟩ := p
  unfold hm_Pr_comes hb_Pr_comes_0 hb_Pr_comes_29
  rw [I_F (k := pq q 7), p8, I_lit (n := 30)]
  refine k_le ⟨by decide, by decide⟩ ⟨by omega, by omega⟩ (fun y => absurd y (by show ¬ (30 : Int) ≤ _; omega)) (fun _ => ?_)
  refine e_in ⟨by omega, by omega⟩ (by decide) (ok_lt.mpr ?_)
  rw [tnI (n := Y) rfl (by omega), wj_e, show (wj u (pq q 6) Y t).1 (pq q 7) = I ((Y : Nat) : Int) by show u.1 (pq q 7) = _; rw [I_F, p8], lit1q, I_add]
  refine ok_lt.mpr (ok_some.mpr ?_)
  rw [wi_e]
  generalize hz : wi (wj u (pq q 6) Y t) (pq q 7) ((Y : Int) + 1) = z
  have f : FC q [] [] [] [7] [] [] [6] u z := by rw [← hz]; exact FC.wi_q (FC.wj_q FC.rf (by omega) (by simp)) (by omega) (by simp)
  have e7 : F z (pq q 7) = ((Y + 1 : Nat) : Int) := by rw [← hz, F_wi (by omega) (by omega), if_pos rfl]; omega
  have e6 : ∀ i, z.2.2.2 (pq q 6) i = if i = Y then t else u.2.2.2 (pq q 6) i := fun i => by rw [← hz]; exact wj_row
  refine ⟨f, ⟨⟨by rw [f.Fq (by omega) (by simp)]; exact p1, p2, by rw [f.jq (by omega) (by simp)]; exact p3⟩, ⟨by rw [f.Fq (by omega) (by simp)]; exact p4, by rw [f.jq (by omega) (by simp)]; exact p5⟩, ⟨by rw [f.Fq (by omega) (by simp)]; exact p6, by rw [f.jq (by omega) (by simp)]; exact p7⟩, ⟨e7, fun i hi => ?_⟩, ⟨l, by rw [f.Fq (by omega) (by simp)]; exact a1, a2⟩, ⟨l2, by rw [f.Fq (by omega) (by simp)]; exact b1, b2⟩, by omega⟩, ?_⟩
  · rw [e6]
    by_cases e : i = Y
    · rw [if_pos e]; exact g
    · rw [if_neg e]; exact p9 i (by omega)
  · rw [← hz]
    show (wj u (pq q 6) Y t).2.2.2 44 = _
    exact if_neg (by unfold pq; omega)
theorem PTQ_cells (p : PTQ u q n ow kd Fv P B W Y) {n2 : Nat} {ow2 kd2 : Nat → Nat} (f : FC q [] [] [] [4] [] [] [2] u w) (e4 : F w (pq q 4) = ((n2 : Nat) : Int)) (hn : n2 ≤ 500) (g : HPc (w.2.2.2 (pq q 2)) n2 ow2 kd2 Fv P) (gt : ∀ t, GT n ow kd P t → GT n2 ow2 kd2 P t) : PTQ w q n2 ow2 kd2 Fv P B W Y := by
  obtain ⟨⟨p1, p2, p3⟩, ⟨p4, p5⟩, ⟨p6, p7⟩, ⟨p8, p9⟩, ⟨l, a1, a2⟩, ⟨l2, b1, b2⟩, c⟩ := p
  exact ⟨⟨e4, hn, g⟩, ⟨by rw [f.Fq (by omega) (by simp)]; exact p4, fun i hi => by rw [f.jq (by omega) (by simp)]; exact gt _ (p5 i hi)⟩, ⟨by rw [f.Fq (by omega) (by simp)]; exact p6, fun i hi => by rw [f.jq (by omega) (by simp)]; exact gt _ (p7 i hi)⟩, ⟨by rw [f.Fq (by omega) (by simp)]; exact p8, fun i hi => by rw [f.jq (by omega) (by simp)]; exact gt _ (p9 i hi)⟩, ⟨l, by rw [f.Fq (by omega) (by simp)]; exact a1, a2⟩, ⟨l2, by rw [f.Fq (by omega) (by simp)]; exact b1, b2⟩, c⟩
theorem GT_at {a : Nat} (c : CTX Fv P u) (ha : a < 22) : GT n ow kd P (mk 1 ((a : Nat) : Int)) := Or.inl ⟨nh_so (by rw [so_mk (by decide) (by decide)]; decide), c.2.2.2.2.2.1 _ (by omega) (by have := c.2.2.2.1; omega)⟩
theorem GT_nu {s x : Int} (c : CTX Fv P u) (hs : s = 0 ∨ s = 2 ∨ s = 4) (hx : RG x) : GT n ow kd P (mk s x) := by
  obtain ⟨x1, x2, x3⟩ := c.2.2.2.2.1 x hx
  refine Or.inl ⟨nh_so (by rw [so_mk (by omega) (by omega)]; omega), ?_⟩
  rcases hs with rfl | rfl | rfl
  · exact x1
  · exact x2
  · exact x3
theorem nh_mk2 {s x : Int} (hs : s = 0 ∨ s = 1 ∨ s = 2 ∨ s = 4 ∨ s = 6) : ¬ isH (mk s x) := nh_so (by rw [so_mk (by omega) (by omega)]; omega)
theorem around_hp {U a s f0 : Nat} {c : Int64} (g : HPc h n ow kd Fv P) (hU : U + a ≤ n) (ha : a = 4 ∨ a = 5) (hno : ∀ j, j < a → U + j < ow (U + j)) (gc : GT n ow kd P c) (zc : SZc h n ow kd Fv P f0 c s) (hs : a + s ≤ 500) (hh : ∀ i, ¬ (U ≤ i ∧ i < U + a) → h2 i = h i) (hx1 : h2 U = mk 8 ((a : Int) - 1)) (hx2 : ∀ j, 1 ≤ j → j < a - 1 → ¬ isH (h2 (U + j)) ∧ P (h2 (U + j))) (hx3 : h2 (U + (a - 1)) = c) (hb : n ≤ 500) :
    ∃ ow2 kd2, HPc h2 n ow2 kd2 Fv P ∧ GT n ow2 kd2 P (mk 5 ((U : Nat) : Int)) ∧ ∀ t, GT n ow kd P t → GT n ow2 kd2 P t := by
  have s5 : so (mk 5 ((U : Nat) : Int)) = 5 := so_mk (by decide) (by decide)
  have v5 : va (mk 5 ((U : Nat) : Int)) = ((U : Nat) : Int) := va_mk (by omega) (by omega)
  have hv : vn (mk 5 ((U : Nat) : Int)) = U := by unfold vn; rw [v5]; exact Int.toNat_natCast U
  have hp : prt (mk 5 ((U : Nat) : Int)) = 1 := by unfold prt; rw [if_neg (by omega), if_pos s5]
  have s8 : so (mk 8 ((a : Int) - 1)) = 8 := so_mk (by decide) (by decide)
  have v8 : va (mk 8 ((a : Int) - 1)) = (a : Int) - 1 := va_mk (by omega) (by omega)
  have hbl : blk h2 (mk 5 ((U : Nat) : Int)) = a := by
    unfold blk
    rw [if_neg (by omega), if_pos s5, hv, hx1]
    unfold vn
    rw [v8]; omega
  have part : ∀ j, 1 ≤ j → j < a → GT n ow kd P (h2 (U + j)) := by
    intro j j1 j2
    by_cases e : j = a - 1
    · rw [e, hx3]; exact gc
    · exact Or.inl (hx2 j j1 (by omega))
  obtain ⟨ow2, kd2, o1, o2, o3, o4, o5, o6, o7⟩ := HP_putc g (h2 := h2) (m := a) (k := U) (x := mk 5 ((U : Nat) : Int)) hh hU hno (Or.inr (Or.inl s5)) (by omega) hv hbl (fun _ => by rw [hx1]; exact ⟨by omega, s8⟩) (fun z => by omega) (fun j j1 j2 => part j (by omega) j2) (Or.inr (fun f c2 hc => by
    rw [hp] at hc ⊢
    have z0 : ∀ j, 1 ≤ j → j < a - 1 → c2 j = 0 := fun j j1 j2 => SZ_nhc (hc j j1 (by omega)) (hx2 j j1 j2).1
    have z1 : c2 (a - 1) = s := by
      have := hc (a - 1) (by omega) (by omega)
      rw [hx3] at this
      exact SZ_func this zc
    rcases ha with rfl | rfl
    · have e : smm c2 1 (4 - 1) = c2 1 + c2 2 + c2 3 := by show 0 + c2 (1 + 0) + c2 (1 + 1) + c2 (1 + 2) = _; simp
      rw [e, z0 1 (by omega) (by omega), z0 2 (by omega) (by omega)]
      have : c2 3 = s := z1
      omega
    · have e : smm c2 1 (5 - 1) = c2 1 + c2 2 + c2 3 + c2 4 := by show 0 + c2 (1 + 0) + c2 (1 + 1) + c2 (1 + 2) + c2 (1 + 3) = _; simp
      rw [e, z0 1 (by omega) (by omega), z0 2 (by omega) (by omega), z0 3 (by omega) (by omega)]
      have : c2 4 = s := z1
      omega))
  exact ⟨ow2, kd2, o4, o5, fun t gt => GT_own gt (Nat.le_refl _) o1 o2⟩
theorem post_120 {U a s f0 : Nat} {v3 v4 : Int} {c : Int64} (cx : CTX Fv P u) (p : PTQ u q n ow kd Fv P B W Y) (hY : Y < 30) (hU : n = U + a + s) (ha : a = 0 ∨ a = 4 ∨ a = 5) (hno : ∀ j, j < a → U + j < ow (U + j)) (gc : GT n ow kd P c) (zc : SZc (u.2.2.2 (pq q 2)) n ow kd Fv P f0 c s) (h3 : RG v3) (h4 : RG v4) :
    OK (fun w _ => FC q [] [] [] [4, 7] [] [] [2, 6] u w ∧ (∃ ow2 kd2, PTQ w q n ow2 kd2 Fv P B W (Y + 1)) ∧ w.2.2.2 44 = u.2.2.2 44) (hb_Wl_post_120 N () u q (I ((a : Nat) : Int)) (I v3) (I v4) (I ((U : Nat) : Int)) c) := by
  have hn := p.1.2.1
  unfold hb_Wl_post_120
  rw [lit0q]
  refine k_eq ⟨by omega, by omega⟩ ⟨by decide, by decide⟩ (fun y => ?_) (fun y => ?_)
  · refine ok_bnd.mpr (ok_mono (comes_ok (N := N) p hY gc) (fun w _ hw => ok_some.mpr ⟨FC.mo hw.1 (by simp) (by simp) (by simp) (by simp) (by simp) (by simp) (by simp), ⟨ow, kd, hw.2.1⟩, hw.2.2⟩))
  have ha2 : a = 4 ∨ a = 5 := by omega
  rw [I_lit (n := 8), lit1q, I_sub, e_make, bnd_so]
  refine e_in ⟨by omega, by omega⟩ (by decide) (ok_lt.mpr ?_)
  rw [tnI (n := U) rfl (by omega), wj_e]
  generalize hw1 : wj u (pq q 2) U (mk (OfNat.ofNat 8) ((a : Int) - 1)) = w1
  have f1 : FC q [] [] [] [4, 7] [] [] [2, 6] u w1 := by rw [← hw1]; exact FC.wj_q FC.rf (by omega) (by simp)
  have r1 : ∀ i, w1.2.2.2 (pq q 2) i = if i = U then mk 8 ((a : Int) - 1) else u.2.2.2 (pq q 2) i := fun i => by rw [← hw1]; exact wj_row
  have s44 : ∀ (x : MS) (i : Nat) (y : Int64), (wj x (pq q 2) i y).2.2.2 44 = x.2.2.2 44 := fun x i y => if_neg (by unfold pq; omega)
  have q1 : w1.2.2.2 44 = u.2.2.2 44 := by rw [← hw1]; exact s44 _ _ _
  have main : ∀ x : Nat, x < 22 → OK (fun w _ => FC q [] [] [] [4, 7] [] [] [2, 6] u w ∧ (∃ ow2 kd2, PTQ w q n ow2 kd2 Fv P B W (Y + 1)) ∧ w.2.2.2 44 = u.2.2.2 44) (hb_Wl_post_169 N () w1 q (I ((a : Nat) : Int)) (I v3) (I v4) (I ((U : Nat) : Int)) c (pq q 2) (I ((U : Nat) : Int) + I 1) (I 1) (I ((x : Nat) : Int))) := by
    intro x hx
    unfold hb_Wl_post_169
    rw [e_make, bnd_so, I_add, show ((U : Nat) : Int) + 1 = ((U + 1 : Nat) : Int) by omega]
    refine e_in ⟨by omega, by omega⟩ (by decide) (ok_lt.mpr ?_)
    rw [tnI (n := U + 1) rfl (by omega), wj_e]
    generalize hw2 : wj w1 (pq q 2) (U + 1) (mk 1 ((x : Nat) : Int)) = w2
    have f2 : FC q [] [] [] [4, 7] [] [] [2, 6] u w2 := by rw [← hw2]; exact FC.wj_q f1 (by omega) (by simp)
    have r2 : ∀ i, w2.2.2.2 (pq q 2) i = if i = U + 1 then mk 1 ((x : Nat) : Int) else w1.2.2.2 (pq q 2) i := fun i => by rw [← hw2]; exact wj_row
    have q2 : w2.2.2.2 44 = u.2.2.2 44 := by rw [← hw2, s44]; exact q1
    have fin : ∀ (w3 : MS), FC q [] [] [] [4, 7] [] [] [2, 6] u w3 → w3.2.2.2 44 = u.2.2.2 44 → F w3 (pq q 4) = F u (pq q 4) → F w3 (pq q 7) = F u (pq q 7) → w3.2.2.2 (pq q 6) = u.2.2.2 (pq q 6) → (∀ i, ¬ (U ≤ i ∧ i < U + a) → w3.2.2.2 (pq q 2) i = u.2.2.2 (pq q 2) i) → w3.2.2.2 (pq q 2) U = mk 8 ((a : Int) - 1) → (∀ j, 1 ≤ j → j < a - 2 → ¬ isH (w3.2.2.2 (pq q 2) (U + j)) ∧ P (w3.2.2.2 (pq q 2) (U + j))) → OK (fun w _ => FC q [] [] [] [4, 7] [] [] [2, 6] u w ∧ (∃ ow2 kd2, PTQ w q n ow2 kd2 Fv P B W (Y + 1)) ∧ w.2.2.2 44 = u.2.2.2 44) (hb_Wl_post_193 N () w3 q (I ((a : Nat) : Int)) (I v3) (I ((U : Nat) : Int)) c) := by
      intro w3 f3 e44 e4 e7 e6 ho hU0 hmid
      unfold hb_Wl_post_193
      have ea : I ((U : Nat) : Int) + I ((a : Nat) : Int) - 2 = I ((U + (a - 2) : Nat) : Int) := by rw [I_lit (n := 2), I_add, I_sub]; congr 1; show _ - (2 : Int) = _; omega
      have eb : I ((U : Nat) : Int) + I ((a : Nat) : Int) - 1 = I ((U + (a - 1) : Nat) : Int) := by rw [lit1q, I_add, I_sub]; congr 1; omega
      rw [ea, eb, I_lit (n := 4), e_make, bnd_so]
      refine e_in ⟨by omega, by omega⟩ (by decide) (ok_lt.mpr ?_)
      rw [tnI (n := U + (a - 2)) rfl (by omega), wj_e]
      refine e_in ⟨by omega, by omega⟩ (by decide) (ok_lt.mpr ?_)
      rw [tnI (n := U + (a - 1)) rfl (by omega), wj_e]
      generalize hw5 : wj (wj w3 (pq q 2) (U + (a - 2)) (mk (OfNat.ofNat 4) v3)) (pq q 2) (U + (a - 1)) c = w5
      have f5 : FC q [] [] [] [4, 7] [] [] [2, 6] u w5 := by rw [← hw5]; exact FC.wj_q (FC.wj_q f3 (by omega) (by simp)) (by omega) (by simp)
      have r5 : ∀ i, w5.2.2.2 (pq q 2) i = if i = U + (a - 1) then c else if i = U + (a - 2) then mk 4 v3 else w3.2.2.2 (pq q 2) i := fun i => by rw [← hw5, wj_row, wj_row]
      have q5 : w5.2.2.2 44 = u.2.2.2 44 := by rw [← hw5, s44, s44]; exact e44
      have i5 : ∀ k, w5.1 k = w3.1 k := fun k => by rw [← hw5]; rfl
      have j5 : w5.2.2.2 (pq q 6) = u.2.2.2 (pq q 6) := by
        rw [← hw5, ← e6]
        show (if pq q 6 = pq q 2 then _ else if pq q 6 = pq q 2 then _ else w3.2.2.2 (pq q 6)) = _
        rw [if_neg (pq_inj (by decide)), if_neg (pq_inj (by decide))]
      rw [I_lit (n := 5), e_make, bnd_so]
      obtain ⟨ow2, kd2, G1, G2, G3⟩ := around_hp (h2 := w5.2.2.2 (pq q 2)) (U := U) (a := a) (s := s) p.1.2.2 (by omega) ha2 hno gc zc (by omega) (fun i hi => by rw [r5, if_neg (by omega), if_neg (by omega)]; exact ho i hi) (by rw [r5, if_neg (by omega), if_neg (by omega)]; exact hU0) (fun j j1 j2 => by
        rw [r5, if_neg (by omega)]
        by_cases e : U + j = U + (a - 2)
        · rw [if_pos e]
          have := GT_nu (n := n) (ow := ow) (kd := kd) (s := 4) cx (Or.inr (Or.inr rfl)) h3
          rcases this with z | z
          · exact z
          · exact absurd z.1 (nh_mk2 (by omega))
        · rw [if_neg e]; exact hmid j j1 (by omega)) (by rw [r5, if_pos rfl]) hn
      have p5 : PTQ w5 q n ow2 kd2 Fv P B W Y := by
        refine PTQ_cells p ?_ ?_ hn G1 G3
        · refine ⟨f5.1, f5.2.1, f5.2.2.1, f5.2.2.2.1, fun r k hk y => ?_, f5.2.2.2.2.2.1, f5.2.2.2.2.2.2.1, fun r k hk y => ?_⟩
          · by_cases e : r = q
            · subst e
              by_cases e2 : k = 7
              · subst e2
                rw [i5]
                exact Int32.toInt_inj.mp e7
              · exact f5.2.2.2.2.1 r k hk (fun _ => by have := y rfl; simp at this ⊢; omega)
            · exact f5.2.2.2.2.1 r k hk (fun z => absurd z e)
          · by_cases e : r = q
            · subst e
              by_cases e2 : k = 6
              · subst e2; exact j5
              · exact f5.2.2.2.2.2.2.2 r k hk (fun _ => by have := y rfl; simp at this ⊢; omega)
            · exact f5.2.2.2.2.2.2.2 r k hk (fun z => absurd z e)
        · show (w5.1 (pq q 4)).toInt = _
          rw [i5]
          show F w3 (pq q 4) = _
          rw [e4]; exact p.1.1
      refine ok_bnd.mpr (ok_mono (comes_ok (N := N) p5 hY G2) (fun w6 _ hw6 => ok_some.mpr ⟨FC.tr f5 (FC.mo hw6.1 (by simp) (by simp) (by simp) (by simp) (by simp) (by simp) (by simp)), ⟨ow2, kd2, hw6.2.1⟩, by rw [hw6.2.2]; exact q5⟩))
    have at1 : ¬ isH (mk 1 ((x : Nat) : Int)) ∧ P (mk 1 ((x : Nat) : Int)) := ⟨nh_mk2 (by omega), cx.2.2.2.2.2.1 _ (by omega) (by have := cx.2.2.2.1; omega)⟩
    have w2I : ∀ k, w2.1 k = u.1 k := fun k => by rw [← hw2, ← hw1]; rfl
    have w26 : w2.2.2.2 (pq q 6) = u.2.2.2 (pq q 6) := by
      rw [← hw2, ← hw1]
      show (if pq q 6 = pq q 2 then _ else if pq q 6 = pq q 2 then _ else u.2.2.2 (pq q 6)) = _
      rw [if_neg (pq_inj (by decide)), if_neg (pq_inj (by decide))]
    rw [I_lit (n := 5)]
    refine k_eq ⟨by omega, by omega⟩ ⟨by decide, by decide⟩ (fun y5 => ?_) (fun n5 => ?_)
    · have e5 : a = 5 := by have : ((a : Nat) : Int) = 5 := y5; omega
      rw [I_lit (n := 2), e_make, bnd_so, I_add]
      refine e_in ⟨by show 0 ≤ _ + (2 : Int); omega, by show _ + (2 : Int) < _; omega⟩ (by decide) (ok_lt.mpr ?_)
      rw [tnI (n := U + 2) (by show _ + (2 : Int) = _; omega) (by omega), wj_e]
      have r3 : ∀ i, (wj w2 (pq q 2) (U + 2) (mk (OfNat.ofNat 2) v4)).2.2.2 (pq q 2) i = if i = U + 2 then mk 2 v4 else w2.2.2.2 (pq q 2) i := fun i => wj_row
      refine fin _ (FC.wj_q f2 (by omega) (by simp)) (by rw [s44]; exact q2) (by show (w2.1 (pq q 4)).toInt = _; rw [w2I]; rfl) (by show (w2.1 (pq q 7)).toInt = _; rw [w2I]; rfl) ?_ (fun i hi => ?_) ?_ (fun j j1 j2 => ?_)
      · show (if pq q 6 = pq q 2 then _ else w2.2.2.2 (pq q 6)) = _
        rw [if_neg (pq_inj (by decide))]; exact w26
      · rw [r3, if_neg (by omega), r2, if_neg (by omega), r1, if_neg (by omega)]
      · rw [r3, if_neg (by omega), r2, if_neg (by omega), r1, if_pos rfl]
      · rcases (show j = 1 ∨ j = 2 by omega) with rfl | rfl
        · rw [r3, if_neg (by omega), r2, if_pos rfl]; exact at1
        · rw [r3, if_pos rfl]
          have := GT_nu (n := n) (ow := ow) (kd := kd) (s := 2) cx (Or.inr (Or.inl rfl)) h4
          rcases this with z | z
          · exact z
          · exact absurd z.1 (nh_mk2 (by omega))
    · have e4 : a = 4 := by
        rcases ha2 with e | e
        · exact e
        · exact absurd (show ((a : Nat) : Int) = 5 by omega) n5
      refine fin w2 f2 q2 (by show (w2.1 (pq q 4)).toInt = _; rw [w2I]; rfl) (by show (w2.1 (pq q 7)).toInt = _; rw [w2I]; rfl) w26 (fun i hi => ?_) ?_ (fun j j1 j2 => ?_)
      · rw [r2, if_neg (by omega), r1, if_neg (by omega)]
      · rw [r2, if_neg (by omega), r1, if_pos rfl]
      · have : j = 1 := by omega
        subst this
        rw [r2, if_pos rfl]; exact at1
  refine ok_br.mpr ⟨fun _ => main 8 (by omega), fun _ => main 9 (by omega)⟩
end
end
section
set_option maxRecDepth 100000
def SRCc (Fv : Int64 → Int64 → Prop) (P : Int64 → Prop) (PR : Nat) (u : MS) (q : Nat) (t : Int64) (s : Option Nat) : Prop := (s = none ∧ ¬ isH t ∧ P t) ∨ ∃ j n ow kd, s = some j ∧ j < PR ∧ n ≤ 512 ∧ HPc (u.2.2.2 (pq j 2)) n ow kd Fv P ∧ GT n ow kd P t ∧ (j = q → ∃ B W Y, PTQ u q n ow kd Fv P B (W + 1) Y ∧ t = u.2.2.2 (pq q 35) W)
section
variable {Fv : Int64 → Int64 → Prop} {P : Int64 → Prop} {u v w m m2 : MS} {PR N q r n B W Y : Nat} {ow kd : Nat → Nat} {t : Int64} {h h2 : Nat → Int64} {src : Option Nat}
def ST3 (u w : MS) : Prop := ∀ r, (F w (pq r 9) = F u (pq r 9) ∨ F w (pq r 9) = 3) ∧ F u (pq r 7) ≤ F w (pq r 7)
theorem ST3.rf : ST3 u u := fun _ => ⟨Or.inl rfl, Int.le_refl _⟩
theorem ST3.tr (a : ST3 u v) (b : ST3 v w) : ST3 u w := fun r => ⟨by
  rcases (b r).1 with e | e
  · rcases (a r).1 with e2 | e2
    · exact Or.inl (e.trans e2)
    · exact Or.inr (e.trans e2)
  · exact Or.inr e, Int.le_trans (a r).2 (b r).2⟩
theorem ST3.en (a : ST3 u w) (h : F u (pq r 9) = 3) : F w (pq r 9) = 3 := by
  rcases (a r).1 with e | e
  · rw [e]; exact h
  · exact e
theorem ST3.of {gi gl ga ki kl ka kj : List Nat} (f : FC q gi gl ga ki kl ka kj u w) (h9 : 9 ∉ ki) (h7 : 7 ∈ ki → F u (pq q 7) ≤ F w (pq q 7)) : ST3 u w := by
  intro r
  by_cases e : r = q
  · subst e
    refine ⟨Or.inl (f.Fq (by omega) h9), ?_⟩
    by_cases e7 : 7 ∈ ki
    · exact h7 e7
    · rw [f.Fq (by omega) e7]; exact Int.le_refl _
  · exact ⟨Or.inl (f.Fo e (by omega)), by rw [f.Fo e (by omega)]; exact Int.le_refl _⟩
theorem ST3.ends (h3 : F w (pq q 9) = 3) (ho : ∀ r, r ≠ q → F w (pq r 9) = F u (pq r 9)) (f : ∀ r, w.1 (pq r 7) = u.1 (pq r 7)) : ST3 u w := fun r => ⟨by
  by_cases e : r = q
  · exact Or.inr (by rw [e]; exact h3)
  · exact Or.inl (ho r e), by rw [show F w (pq r 7) = F u (pq r 7) from congrArg _ (f r)]; exact Int.le_refl _⟩
theorem bo_s {α β : Type} {j : α} {f : α → Option β} : bo (some j) f = f j := rfl
theorem FC_want (f : FR [pq q 4, pq q 5] [] [] [pq q 2, pq q 3, pq q 33, pq q 35, pq q 6] u w) : FC q [] [] [] [4, 5] [] [] [2, 3, 33, 35, 6] u w := FC.ofq (ki := [4, 5]) (kj := [2, 3, 33, 35, 6]) f (by simp) (by simp)
theorem SMQ_up (s : SMQ u q) (h1 : F w (pq q 15) = F u (pq q 15)) (h2 : F w (pq q 8) = F u (pq q 8)) (h3 : F u (pq q 7) ≤ F w (pq q 7)) (h4 : F u (pq q 9) ≠ 3) : SMQ w q := by
  obtain ⟨s1, s2, s3⟩ := s
  refine ⟨by rw [h1]; exact s1, by rw [h2]; exact s2, fun _ => ?_⟩
  rw [h2]
  have := s3 h4
  omega
theorem post_81 {U a s f0 : Nat} {v3 v4 : Int} {c : Int64} {hs : Nat → Int64} {ns : Nat} {os ks : Nat → Nat} (cx : CTX Fv P u) (p : PTQ u q U ow kd Fv P B W Y) (hY : Y < 30) (hU : U + a + s ≤ 500) (ha : a = 0 ∨ a = 4 ∨ a = 5) (h3 : RG v3) (h4 : RG v4)
    (hsrc : (src = none ∧ ¬ isH c ∧ P c ∧ s = 0) ∨ ∃ j, src = some j ∧ HPc hs ns os ks Fv P ∧ ns ≤ 512 ∧ (∀ i, i < ns → u.2.2.2 (pq j 2) i = hs i) ∧ (j = q → ns ≤ U) ∧ SZc hs ns os ks Fv P f0 c s) (hN : 600 ≤ N) :
    OK (fun w _ => FC q [] [] [] [4, 7] [] [] [2, 6] u w ∧ (∃ n2 ow2 kd2, PTQ w q n2 ow2 kd2 Fv P B W (Y + 1)) ∧ w.2.2.2 44 = u.2.2.2 44) (hb_Wl_post_81 N () u q (I ((a : Nat) : Int)) (I v3) (I v4) src c) := by
  unfold hb_Wl_post_81
  refine ok_lt.mpr ?_
  rw [I_F (k := pq q 4), p.1.1, I_add, wi_e]
  generalize hw1 : wi u (pq q 4) ((U : Int) + (a : Int)) = w1
  have f1 : FC q [] [] [] [4] [] [] [2] u w1 := by rw [← hw1]; exact FC.wi_q FC.rf (by omega) (by simp)
  have e1 : F w1 (pq q 4) = ((U + a : Nat) : Int) := by rw [← hw1, F_wi (by omega) (by omega), if_pos rfl]; omega
  have j1 : w1.2.2.2 = u.2.2.2 := by rw [← hw1]; rfl
  have hole : HPc (w1.2.2.2 (pq q 2)) (U + a) (owH U ow) kd Fv P := by rw [j1]; exact HP_holec a p.1.2.2 (fun _ _ => rfl)
  have p1 : PTQ w1 q (U + a) (owH U ow) kd Fv P B W Y := PTQ_cells p f1 e1 (by omega) hole (fun t gt => GT_hole a gt)
  have hno : ∀ j, j < a → U + j < owH U ow (U + j) := fun j hj => by unfold owH; rw [if_pos (by omega)]; omega
  have cx1 : CTX Fv P w1 := by rw [← hw1]; exact CTX_fr cx (if_neg (by unfold pq; omega)) rfl
  rcases hsrc with ⟨rfl, c1, c2, rfl⟩ | ⟨j, rfl, g, hn, hr, hq, z⟩
  · refine ok_br.mpr ⟨fun _ => ?_, fun y => absurd y (by decide)⟩
    have zc : SZc (w1.2.2.2 (pq q 2)) (U + a) (owH U ow) kd Fv P 1 c 0 := Or.inl ⟨c1, c2, rfl⟩
    refine ok_mono (post_120 (N := N) cx1 p1 hY (by omega) ha hno (Or.inl ⟨c1, c2⟩) zc h3 h4) (fun w _ hw => ?_)
    obtain ⟨f2, ⟨ow2, kd2, p2⟩, q2⟩ := hw
    exact ⟨FC.tr (FC.mo f1 (by simp) (by simp) (by simp) (by simp) (by simp) (by simp) (by simp)) f2, ⟨_, ow2, kd2, p2⟩, by rw [q2, j1]⟩
  · refine ok_br.mpr ⟨fun y => absurd y (by simp), fun _ => ?_⟩
    rw [bo_s]
    refine ok_bnd.mpr (ok_mono (copyIn_ok (N := N) (s0 := U + a) (owd := owH U ow) (kdd := kd) g cx.1 hn (by omega) (fun i hi => by rw [j1]; exact hr i hi) (fun e => by have := (pq_e (by omega) (by omega) e).1; have := hq this; omega) z e1 hole hN) (fun w2 r hw2 => ?_))
    obtain ⟨f2, e2, k2, ow2, kd2, g2, o2, t2, r2, f3, z2⟩ := hw2
    have fc2 : FC q [] [] [] [4] [] [] [2] w1 w2 := FC.ofq (ki := [4]) (kj := [2]) f2 (by simp) (by simp)
    have p2 : PTQ w2 q (U + a + s) ow2 kd2 Fv P B W Y := PTQ_cells p1 fc2 e2 (by omega) g2 t2
    have cx2 : CTX Fv P w2 := CTX_fr cx1 (fc2.1 22 (by omega) (by simp)) (fc2.2.2.1 3 (by omega) (by simp))
    refine ok_mono (post_120 (N := N) cx2 p2 hY rfl ha (fun j hj => by rw [(o2 (U + j) (by omega)).1]; exact hno j hj) r2 z2 h3 h4) (fun w _ hw => ?_)
    obtain ⟨f4, ⟨ow4, kd4, p4⟩, q4⟩ := hw
    have q5 : w2.2.2.2 44 = w1.2.2.2 44 := f2.2.2.2 44 (by simp; unfold pq; omega)
    exact ⟨FC.tr (FC.mo (FC.tr f1 fc2) (by simp) (by simp) (by simp) (by simp) (by simp) (by simp) (by simp)) f4, ⟨_, ow4, kd4, p4⟩, by rw [q4, q5, j1]⟩
theorem post_ok {a : Nat} {v3 v4 : Int} (d : DWc Fv P PR u) (cx : CTX Fv P u) (hq : q < PR) (ha : a = 0 ∨ a = 4 ∨ a = 5) (h3 : RG v3) (h4 : RG v4) (hs : SRCc Fv P PR u q t src) (hN : 3000000 ≤ N) : OK (fun w _ => DWc Fv P PR w ∧ WFR u w ∧ F w 956 = F u 956 ∧ ST3 u w) (hm_Wl_post N u q (I ((a : Nat) : Int)) (I v3) (I v4) t src) := by
  unfold hm_Wl_post hb_Wl_post_0 hb_Wl_post_17
  refine k_F (y := 3) rfl ⟨by decide, by decide⟩ (fun _ => ok_some.mpr ⟨d, WFR.rf, rfl, ST3.rf⟩) (fun hal => ?_)
  obtain ⟨n0, ow0, kd0, B0, W0, Y0, p0⟩ := (d.2 q hq).2.2 hal
  have sm := (d.2 q hq).1
  rw [I_F (k := pq q 7), p0.2.2.2.1.1, I_lit (n := 30)]
  have pb := PTQ_b p0
  refine k_lt ⟨by omega, by omega⟩ ⟨by decide, by decide⟩ (fun hY => ?_) (fun _ => ok_some.mpr ⟨d, WFR.rf, rfl, ST3.rf⟩)
  have hY : ((Y0 : Nat) : Int) < 30 := hY
  have main : ∀ (u1 : MS) (n1 : Nat) (ow1 kd1 : Nat → Nat) (B1 W1 Y1 s f0 : Nat), DWc Fv P PR u1 → CTX Fv P u1 → WFR u u1 → F u1 956 = F u 956 → ST3 u u1 → F u1 (pq q 9) ≠ 3 → SMQ u1 q → PTQ u1 q n1 ow1 kd1 Fv P B1 W1 Y1 → Y1 < 30 → s ≤ 1100 → ((src = none ∧ ¬ isH t ∧ P t ∧ s = 0) ∨ ∃ j ns os ks, src = some j ∧ j < PR ∧ HPc (u1.2.2.2 (pq j 2)) ns os ks Fv P ∧ ns ≤ 512 ∧ SZc (u1.2.2.2 (pq j 2)) ns os ks Fv P f0 t s ∧ (j = q → ns = n1 ∧ os = ow1 ∧ ks = kd1 ∧ 1 ≤ W1 ∧ t = u1.2.2.2 (pq q 35) (W1 - 1))) → OK (fun w _ => DWc Fv P PR w ∧ WFR u w ∧ F w 956 = F u 956 ∧ ST3 u w) (hb_Wl_post_41 N () u1 q (I ((a : Nat) : Int)) (I v3) (I v4) t src (I ((s : Nat) : Int))) := by
    intro u1 n1 ow1 kd1 B1 W1 Y1 s f0 d1 cx1 wf e956 st3 hal1 sm1 p1 hY1 hs1 hsrc
    have pb1 := PTQ_b p1
    unfold hb_Wl_post_41
    rw [I_add]
    refine ok_bnd.mpr (ok_mono (want_ok (N := N) p1 cx1 (by omega) (by omega)) (fun w r hw => ?_))
    obtain ⟨hr, U, ow2, kd2, p2, hU, f2, sB, sW⟩ := hw
    have fc := FC_want f2
    have i2 : ∀ k, k < 100 → k ∉ [4, 5] → F w (pq q k) = F u1 (pq q k) := fun k h1 h2 => fc.Fq h1 h2
    have hal2 : F w (pq q 9) ≠ 3 := by rw [i2 9 (by omega) (by simp)]; exact hal1
    have sm2 : SMQ w q := SMQ_up sm1 (i2 15 (by omega) (by simp)) (i2 8 (by omega) (by simp)) (by rw [i2 7 (by omega) (by simp)]; exact Int.le_refl _) hal1
    have d2 : DWc Fv P PR w := DWc_fc d1 fc hq hal1 hal2 sm2 ⟨U, ow2, kd2, B1, W1, Y1, p2⟩ (by simp) (by simp)
    have w44 : w.2.2.2 44 = u1.2.2.2 44 := f2.2.2.2 44 (by simp; unfold pq; omega)
    have wf2 : WFR u w := WFR.tr wf (fc.W (by simp) (by simp) (by simp) (by simp) (by simp) (by simp) w44)
    have e9562 : F w 956 = F u 956 := by rw [fc.Fg (by omega) (by simp)]; exact e956
    have st2 : ST3 u w := ST3.tr st3 (ST3.of fc (by simp) (by simp))
    have cx2 : CTX Fv P w := CTX_fr cx1 (fc.1 22 (by omega) (by simp)) (fc.2.2.1 3 (by omega) (by simp))
    rcases hr with rfl | rfl
    · refine ok_br.mpr ⟨fun _ => ?_, fun y => absurd y (by decide)⟩
      refine ok_bnd.mpr (ok_mono (endsBy_ok (N := N) (a := 20) d2 cx2 hq hal2 (by omega)) (fun w3 _ hw3 => ok_some.mpr ?_))
      obtain ⟨k1, k2, k3, k4, k5, k6, k7⟩ := hw3
      exact ⟨k1, WFR.tr wf2 k2, by rw [k5]; exact e9562, ST3.tr st2 (ST3.ends k3 k4 k7)⟩
    · refine ok_br.mpr ⟨fun y => absurd y (by decide), fun _ => ?_⟩
      have hU := hU rfl
      have hUn := p2.1.2.1
      have fin : ∀ (c : Int64) (hs2 : Nat → Int64) (ns : Nat) (os ks : Nat → Nat), ((src = none ∧ ¬ isH c ∧ P c ∧ s = 0) ∨ ∃ j, src = some j ∧ HPc hs2 ns os ks Fv P ∧ ns ≤ 512 ∧ (∀ i, i < ns → w.2.2.2 (pq j 2) i = hs2 i) ∧ (j = q → ns ≤ U) ∧ SZc hs2 ns os ks Fv P f0 c s) → OK (fun w _ => DWc Fv P PR w ∧ WFR u w ∧ F w 956 = F u 956 ∧ ST3 u w) (hb_Wl_post_81 N () w q (I ((a : Nat) : Int)) (I v3) (I v4) src c) := by
        intro c hs2 ns os ks hc
        refine ok_mono (post_81 (N := N) (f0 := f0) (hs := hs2) (ns := ns) (os := os) (ks := ks) (s := s) cx2 p2 hY1 (by omega) ha h3 h4 hc (by omega)) (fun w3 _ hw3 => ?_)
        obtain ⟨f3, ⟨n3, ow3, kd3, p3⟩, q3⟩ := hw3
        have hal3 : F w3 (pq q 9) ≠ 3 := by rw [f3.Fq (by omega) (by simp)]; exact hal2
        have sm3 : SMQ w3 q := SMQ_up sm2 (f3.Fq (by omega) (by simp)) (f3.Fq (by omega) (by simp)) (by rw [p3.2.2.2.1.1, p2.2.2.2.1.1]; omega) hal2
        refine ⟨DWc_fc d2 f3 hq hal2 hal3 sm3 ⟨n3, ow3, kd3, B1, W1, Y1 + 1, p3⟩ (by simp) (by simp), WFR.tr wf2 (f3.W (by simp) (by simp) (by simp) (by simp) (by simp) (by simp) q3), by rw [f3.Fg (by omega) (by simp)]; exact e9562, ST3.tr st2 (ST3.of f3 (by simp) (fun _ => by rw [p3.2.2.2.1.1, p2.2.2.2.1.1]; omega))⟩
      rcases hsrc with ⟨rfl, c1, c2, c3⟩ | ⟨j, ns, os, ks, rfl, hj, g, hns, z, hjq⟩
      · refine ok_br.mpr ⟨fun y => absurd y (by simp), fun _ => ?_⟩
        exact fin t (fun _ => 0) 0 (fun _ => 0) (fun _ => 0) (Or.inl ⟨rfl, c1, c2, c3⟩)
      · refine ok_br.mpr ⟨fun y => ?_, fun y => ?_⟩
        · have ejq : j = q := by have := of_decide_eq_true y; injection this
          obtain ⟨rfl, rfl, rfl, hW, rfl⟩ := hjq ejq
          subst ejq
          have eW : F w (pq j 26) = ((W1 : Nat) : Int) := p2.2.2.1.1
          have hb : hm_Fr_below N w j 0 = some (w, w.2.2.2 (pq j 35) (W1 - 1)) := by
            unfold hm_Fr_below hb_Fr_below_0 hb_Fr_below_23
            obtain ⟨l2, b1, b2, b3⟩ := p2.2.2.2.2.2.1
            rw [I_F (k := pq j 26), eW, lit0q, lit1q, I_sub, I_sub, decI (by decide) (by decide) (by omega) (by omega), decide_eq_true (by omega), br_tq, lnQ_e b1, (I_inb (by omega) (by omega)).mpr ⟨by omega, by omega⟩, ck_t, tnI (n := W1 - 1) (by omega) (by omega)]
          rw [hb, bnd_so]
          have sl := sW (W1 - 1) (by omega)
          exact fin _ (w.2.2.2 (pq j 2)) U ow2 kd2 (Or.inr ⟨j, rfl, p2.1.2.2, by omega, fun _ _ => rfl, fun _ => Nat.le_refl _, sl.2.2 f0 s z⟩)
        · have ejq : j ≠ q := fun e => of_decide_eq_false y (by rw [e])
          refine fin t (u1.2.2.2 (pq j 2)) ns os ks (Or.inr ⟨j, rfl, g, hns, fun i _ => by rw [fc.jo ejq (by omega)], fun e => absurd e ejq, z⟩)
  rcases hs with ⟨rfl, c1, c2⟩ | ⟨j, ns, os, ks, rfl, hj, hns, g, gt, hjq⟩
  · refine ok_br.mpr ⟨fun _ => ?_, fun y => absurd y (by decide)⟩
    rw [lit0q, show (0 : Int) = ((0 : Nat) : Int) from rfl]
    exact main u n0 ow0 kd0 B0 W0 Y0 0 0 d cx WFR.rf rfl ST3.rf hal sm p0 (by omega) (by omega) (Or.inl ⟨rfl, c1, c2, rfl⟩)
  · refine ok_br.mpr ⟨fun y => absurd y (by simp), fun _ => ?_⟩
    obtain ⟨f0, s, z⟩ := HP_szc g gt
    have hsm := SZ_max g z
    rw [bo_s]
    refine ok_bnd.mpr (ok_mono (size_ok (N := N) (b := pq j 2) (by unfold pq; omega) rfl hns cx.1.1 (by omega) z (by omega)) (fun w r hw => ?_))
    obtain ⟨f1, rfl⟩ := hw
    have fc : FC q [] [] [] [] [] [] [] u w := FC.of f1 (by simp) (by simp) (by simp) (by simp)
    have row : ∀ r k, k < 100 → w.2.2.2 (pq r k) = u.2.2.2 (pq r k) := fun r k hk => fc.2.2.2.2.2.2.2 r k hk (by simp)
    have int : ∀ r k, k < 100 → w.1 (pq r k) = u.1 (pq r k) := fun r k hk => fc.2.2.2.2.1 r k hk (by simp)
    have hal1 : F w (pq q 9) ≠ 3 := by rw [fc.Fq (by omega) (by simp)]; exact hal
    have sm1 : SMQ w q := SMQ_up sm (fc.Fq (by omega) (by simp)) (fc.Fq (by omega) (by simp)) (by rw [fc.Fq (by omega) (by simp)]; exact Int.le_refl _) hal
    have pw : ∀ {n1 ow1 kd1 B1 W1 Y1}, PTQ u q n1 ow1 kd1 Fv P B1 W1 Y1 → PTQ w q n1 ow1 kd1 Fv P B1 W1 Y1 := fun p => PTQ_same p (fun k hk => int q k (by simp at hk; omega)) (fun k hk => row q k (by simp at hk; omega))
    have d1 : DWc Fv P PR w := DWc_fc d fc hq hal hal1 sm1 ⟨n0, ow0, kd0, B0, W0, Y0, pw p0⟩ (by simp) (by simp)
    have cx1 : CTX Fv P w := CTX_fr cx (fc.1 22 (by omega) (by simp)) (fc.2.2.1 3 (by omega) (by simp))
    have wf : WFR u w := fc.W (by simp) (by simp) (by simp) (by simp) (by simp) (by simp) (FRj f1 (by simp))
    have st : ST3 u w := ST3.of fc (by simp) (by simp)
    by_cases ejq : j = q
    · obtain ⟨B2, W2, Y2, p2, et⟩ := hjq ejq
      subst ejq
      have eY : Y2 = Y0 := by have a := p2.2.2.2.1.1; have b := p0.2.2.2.1.1; omega
      exact main w ns os ks B2 (W2 + 1) Y2 s f0 d1 cx1 wf (fc.Fg (by omega) (by simp)) st hal1 sm1 (pw p2) (by omega) (by omega) (Or.inr ⟨j, ns, os, ks, rfl, hj, by rw [row j 2 (by omega)]; exact g, hns, by rw [row j 2 (by omega)]; exact z, fun _ => ⟨rfl, rfl, rfl, by omega, by rw [row j 35 (by omega)]; exact et⟩⟩)
    · exact main w n0 ow0 kd0 B0 W0 Y0 s f0 d1 cx1 wf (fc.Fg (by omega) (by simp)) st hal1 sm1 (pw p0) (by omega) (by omega) (Or.inr ⟨j, ns, os, ks, rfl, hj, by rw [row j 2 (by omega)]; exact g, hns, by rw [row j 2 (by omega)]; exact z, fun e => absurd e ejq⟩)
end
end
