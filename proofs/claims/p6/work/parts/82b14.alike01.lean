set_option maxRecDepth 100000
theorem yb_Co_at_21 {N : Nat} {o : Option Nat} {c : Nat → Nat} {m : MS} {u : CS} (R : RP o c m u) {t0 : Int32} : RF 0 o VE c u (fb_Co_at_21 N () u t0) (hb_Co_at_21 N () m t0) := by
  unfold fb_Co_at_21 hb_Co_at_21
  exact rf_ret R rfl
theorem yb_Co_at_11 {N : Nat} {o : Option Nat} {c : Nat → Nat} {m : MS} {u : CS} (R : RP o c m u) : RF 0 o VE c u (fb_Co_at_11 N () u) (hb_Co_at_11 N () m) := by
  unfold fb_Co_at_11 hb_Co_at_11
  exact (yb_Co_at_21 R)
theorem yb_Co_at_0 {N : Nat} {o : Option Nat} {c : Nat → Nat} {m : MS} {u : CS} (R : RP o c m u) {v1 : Int32} : RF 0 o VE c u (fb_Co_at_0 N () u 22 v1) (hb_Co_at_0 N () m v1) := by
  unfold fb_Co_at_0 hb_Co_at_0
  refine rf_br ?_ ?_
  · exact (yb_Co_at_11 R)
  · refine rf_br ?_ ?_
    · refine rf_bo (rx_22_0 R) ?_
      refine rf_so ?_
      refine rf_ai (ax_23 R) ?_
      exact (yb_Co_at_21 R)
    · exact (yb_Co_at_11 R)
theorem ym_Co_at {N : Nat} {o : Option Nat} {c : Nat → Nat} {m : MS} {u : CS} (R : RP o c m u) {v1 : Int32} : RF 0 o VE c u (fm_Co_at N u 22 v1) (hm_Co_at N m v1) := yb_Co_at_0 (N := N) R
theorem yb_Co_set_18 {N : Nat} {o : Option Nat} {c : Nat → Nat} {m : MS} {u : CS} (R : RP o c m u) : RF 0 o VE c u (fb_Co_set_18 N () u) (hb_Co_set_18 N () m) := by
  unfold fb_Co_set_18 hb_Co_set_18
  exact rf_ret R rfl
theorem yb_Co_set_0 {N : Nat} {o : Option Nat} {c : Nat → Nat} {m : MS} {u : CS} (R : RP o c m u) {v1 : Int32} {v2 : Int32} : RF 0 o VE c u (fb_Co_set_0 N () u 22 v1 v2) (hb_Co_set_0 N () m v1 v2) := by
  unfold fb_Co_set_0 hb_Co_set_0
  refine rf_br ?_ ?_
  · exact (yb_Co_set_18 R)
  · refine rf_br ?_ ?_
    · exact (yb_Co_set_18 R)
    · refine rf_bo (rx_22_0 R) ?_
      refine rf_so ?_
      refine rf_wk (sx_23 R) (fun w3' w3 R_w3 => ?_)
      exact (yb_Co_set_18 R_w3)
theorem ym_Co_set {N : Nat} {o : Option Nat} {c : Nat → Nat} {m : MS} {u : CS} (R : RP o c m u) {v1 : Int32} {v2 : Int32} : RF 0 o VE c u (fm_Co_set N u 22 v1 v2) (hm_Co_set N m v1 v2) := yb_Co_set_0 (N := N) R
theorem yb_Co_arrive_40 {N : Nat} {o : Option Nat} {c : Nat → Nat} {m : MS} {u : CS} {G : (CS → Nat → Int32 → Int32 → Option (CS × Unit))} {G' : (MS → Int32 → Int32 → Option (MS × Unit))} (hG : ∀ (c : Nat → Nat) (m : MS) (u : CS) (v2 : Int32) (v3 : Int32), RP o c m u → RF 0 o VE c u (G u 22 v2 v3) (G' m v2 v3)) (R : RP o c m u) : RF 0 o VE c u (fb_Co_arrive_40 N G u) (hb_Co_arrive_40 N G' m) := by
  unfold fb_Co_arrive_40 hb_Co_arrive_40
  exact rf_ret R rfl
theorem yb_Co_arrive_4 {N : Nat} {o : Option Nat} {c : Nat → Nat} {m : MS} {u : CS} {G : (CS → Nat → Int32 → Int32 → Option (CS × Unit))} {G' : (MS → Int32 → Int32 → Option (MS × Unit))} (hG : ∀ (c : Nat → Nat) (m : MS) (u : CS) (v2 : Int32) (v3 : Int32), RP o c m u → RF 0 o VE c u (G u 22 v2 v3) (G' m v2 v3)) (R : RP o c m u) {v2 : Int32} {v3 : Int32} : RF 0 o VE c u (fb_Co_arrive_4 N G u 22 v2 v3) (hb_Co_arrive_4 N G' m v2 v3) := by
  unfold fb_Co_arrive_4 hb_Co_arrive_4
  refine rf_br ?_ ?_
  · exact (yb_Co_arrive_40 hG R)
  · refine rf_br ?_ ?_
    · exact (yb_Co_arrive_40 hG R)
    · refine rf_ck (ox_22 R) ?_
      refine rf_bx0 (ym_Co_at R) (fun u1' u1 r1 R_u1 => ?_)
      refine rf_bo (gx_22_1 R_u1) ?_
      refine rf_ck (ox_22 R_u1) ?_
      refine rf_bx0 (ym_Co_set R_u1) (fun u3' u3 r3 R_u3 => ?_)
      exact (hG _ _ _ _ _ R_u3)
theorem yb_Co_arrive_0 {N : Nat} {o : Option Nat} {c : Nat → Nat} {m : MS} {u : CS} {G : (CS → Nat → Int32 → Int32 → Option (CS × Unit))} {G' : (MS → Int32 → Int32 → Option (MS × Unit))} (hG : ∀ (c : Nat → Nat) (m : MS) (u : CS) (v2 : Int32) (v3 : Int32), RP o c m u → RF 0 o VE c u (G u 22 v2 v3) (G' m v2 v3)) (R : RP o c m u) {v1 : Int32} : RF 0 o VE c u (fb_Co_arrive_0 N G u 22 v1) (hb_Co_arrive_0 N G' m v1) := by
  unfold fb_Co_arrive_0 hb_Co_arrive_0
  exact (hG _ _ _ _ _ R)
theorem yg_Co_arrive {N : Nat} {o : Option Nat} : ∀ n, (∀ (c : Nat → Nat) (m : MS) (u : CS) (v2 : Int32) (v3 : Int32), RP o c m u → RF 0 o VE c u ((gg_Co_arrive N n) u 22 v2 v3) ((hg_Co_arrive N n) m v2 v3)) := by
  intro n
  induction n with
  | zero => exact fun c m u v2 v3 R => rf_none
  | succ n ih => exact fun c m u v2 v3 R => yb_Co_arrive_4 (N := N) ih R
theorem ym_Co_arrive {N : Nat} {o : Option Nat} {c : Nat → Nat} {m : MS} {u : CS} (R : RP o c m u) {v1 : Int32} : RF 0 o VE c u (fm_Co_arrive N u 22 v1) (hm_Co_arrive N m v1) := yb_Co_arrive_0 (N := N) (yg_Co_arrive (N := N) N) R
theorem yb_Cm_hold_113 {N : Nat} {o : Option Nat} {c : Nat → Nat} {m : MS} {u : CS} {G : (CS → Nat → Int32 → Int32 → Int32 → Option (CS × Int32)) × (CS → Nat → Int32 → Int32 → Int32 → Int32 → Int32 → Option (CS × Int32))} {G' : (MS → Int32 → Int32 → Int32 → Option (MS × Int32)) × (MS → Int32 → Int32 → Int32 → Int32 → Int32 → Option (MS × Int32))} (hG1 : ∀ (c : Nat → Nat) (m : MS) (u : CS) (v2 : Int32) (v3 : Int32) (v4 : Int32), RP o c m u → RF 0 o VE c u (G.1 u 35 v2 v3 v4) (G'.1 m v2 v3 v4)) (hG2 : ∀ (c : Nat → Nat) (m : MS) (u : CS) (v2 : Int32) (v3 : Int32) (v4 : Int32) (v5 : Int32) (v6 : Int32), RP o c m u → RF 0 o VE c u (G.2 u 35 v2 v3 v4 v5 v6) (G'.2 m v2 v3 v4 v5 v6)) (R : RP o c m u) {v2 : Int32} {v3 : Int32} {v4 : Int32} : RF 0 o VE c u (fb_Cm_hold_113 N G u 35 v2 v3 v4) (hb_Cm_hold_113 N G' m v2 v3 v4) := by
  unfold fb_Cm_hold_113 hb_Cm_hold_113
  exact (hG1 _ _ _ _ _ _ R)
theorem yb_Cm_hold_92 {N : Nat} {o : Option Nat} {c : Nat → Nat} {m : MS} {u : CS} {G : (CS → Nat → Int32 → Int32 → Int32 → Option (CS × Int32)) × (CS → Nat → Int32 → Int32 → Int32 → Int32 → Int32 → Option (CS × Int32))} {G' : (MS → Int32 → Int32 → Int32 → Option (MS × Int32)) × (MS → Int32 → Int32 → Int32 → Int32 → Int32 → Option (MS × Int32))} (hG1 : ∀ (c : Nat → Nat) (m : MS) (u : CS) (v2 : Int32) (v3 : Int32) (v4 : Int32), RP o c m u → RF 0 o VE c u (G.1 u 35 v2 v3 v4) (G'.1 m v2 v3 v4)) (hG2 : ∀ (c : Nat → Nat) (m : MS) (u : CS) (v2 : Int32) (v3 : Int32) (v4 : Int32) (v5 : Int32) (v6 : Int32), RP o c m u → RF 0 o VE c u (G.2 u 35 v2 v3 v4 v5 v6) (G'.2 m v2 v3 v4 v5 v6)) (R : RP o c m u) {v2 : Int32} {v3 : Int32} {v4 : Int32} {v5 : Int32} {v6 : Int32} : RF 0 o VE c u (fb_Cm_hold_92 N G u 35 v2 v3 v4 v5 v6) (hb_Cm_hold_92 N G' m v2 v3 v4 v5 v6) := by
  unfold fb_Cm_hold_92 hb_Cm_hold_92
  refine rf_bo (rx_35_2 R) ?_
  refine rf_so ?_
  refine rf_bo (gx_22_1 R) ?_
  refine rf_br ?_ ?_
  · refine rf_bo (rx_35_2 R) ?_
    refine rf_so ?_
    refine rf_ck (ox_22 R) ?_
    refine rf_bx0 (ym_Co_put R) (fun u5' u5 r5 R_u5 => ?_)
    exact (yb_Cm_hold_113 hG1 hG2 R_u5)
  · exact (yb_Cm_hold_113 hG1 hG2 R)
theorem yb_Cm_hold_60 {N : Nat} {o : Option Nat} {c : Nat → Nat} {m : MS} {u : CS} {G : (CS → Nat → Int32 → Int32 → Int32 → Option (CS × Int32)) × (CS → Nat → Int32 → Int32 → Int32 → Int32 → Int32 → Option (CS × Int32))} {G' : (MS → Int32 → Int32 → Int32 → Option (MS × Int32)) × (MS → Int32 → Int32 → Int32 → Int32 → Int32 → Option (MS × Int32))} (hG1 : ∀ (c : Nat → Nat) (m : MS) (u : CS) (v2 : Int32) (v3 : Int32) (v4 : Int32), RP o c m u → RF 0 o VE c u (G.1 u 35 v2 v3 v4) (G'.1 m v2 v3 v4)) (hG2 : ∀ (c : Nat → Nat) (m : MS) (u : CS) (v2 : Int32) (v3 : Int32) (v4 : Int32) (v5 : Int32) (v6 : Int32), RP o c m u → RF 0 o VE c u (G.2 u 35 v2 v3 v4 v5 v6) (G'.2 m v2 v3 v4 v5 v6)) (R : RP o c m u) {v2 : Int32} {v3 : Int32} {v4 : Int32} {v5 : Int32} {v6 : Int32} : RF 0 o VE c u (fb_Cm_hold_60 N G u 35 v2 v3 v4 v5 v6) (hb_Cm_hold_60 N G' m v2 v3 v4 v5 v6) := by
  unfold fb_Cm_hold_60 hb_Cm_hold_60
  refine rf_bo (rx_35_2 R) ?_
  refine rf_so ?_
  refine rf_bo (gx_22_1 R) ?_
  refine rf_br ?_ ?_
  · exact (yb_Cm_hold_92 hG1 hG2 R)
  · refine rf_bo (rx_35_2 R) ?_
    refine rf_so ?_
    refine rf_ck (ox_22 R) ?_
    refine rf_bx0 (ym_Co_at R) (fun u11' u11 r11 R_u11 => ?_)
    refine rf_br ?_ ?_
    · exact (yb_Cm_hold_92 hG1 hG2 R_u11)
    · exact (hG2 _ _ _ _ _ _ _ _ R_u11)
theorem yb_Cm_hold_11 {N : Nat} {o : Option Nat} {c : Nat → Nat} {m : MS} {u : CS} {G : (CS → Nat → Int32 → Int32 → Int32 → Option (CS × Int32)) × (CS → Nat → Int32 → Int32 → Int32 → Int32 → Int32 → Option (CS × Int32))} {G' : (MS → Int32 → Int32 → Int32 → Option (MS × Int32)) × (MS → Int32 → Int32 → Int32 → Int32 → Int32 → Option (MS × Int32))} (hG1 : ∀ (c : Nat → Nat) (m : MS) (u : CS) (v2 : Int32) (v3 : Int32) (v4 : Int32), RP o c m u → RF 0 o VE c u (G.1 u 35 v2 v3 v4) (G'.1 m v2 v3 v4)) (hG2 : ∀ (c : Nat → Nat) (m : MS) (u : CS) (v2 : Int32) (v3 : Int32) (v4 : Int32) (v5 : Int32) (v6 : Int32), RP o c m u → RF 0 o VE c u (G.2 u 35 v2 v3 v4 v5 v6) (G'.2 m v2 v3 v4 v5 v6)) (R : RP o c m u) {v2 : Int32} {v3 : Int32} {v4 : Int32} : RF 0 o VE c u (fb_Cm_hold_11 N G u 35 v2 v3 v4) (hb_Cm_hold_11 N G' m v2 v3 v4) := by
  unfold fb_Cm_hold_11 hb_Cm_hold_11
  refine rf_br ?_ ?_
  · refine rf_bo (rx_35_2 R) ?_
    refine rf_so ?_
    refine rf_bo (gx_22_1 R) ?_
    exact rf_ret R rfl
  · refine rf_bo (rx_35_0 R) ?_
    refine rf_so ?_
    refine rf_bo (rx_4_2 R) ?_
    refine rf_so ?_
    refine rf_ai (ax_6 R) ?_
    refine rf_br ?_ ?_
    · refine rf_bo (rx_35_10 R) ?_
      refine rf_so ?_
      refine rf_ai (ax_42 R) ?_
      refine rf_bo (gx_35_9 R) ?_
      refine rf_br ?_ ?_
      · exact (yb_Cm_hold_113 hG1 hG2 R)
      · refine rf_bo (rx_35_0 R) ?_
        refine rf_so ?_
        refine rf_bo (rx_4_3 R) ?_
        refine rf_so ?_
        refine rf_ai (ax_7 R) ?_
        exact (hG2 _ _ _ _ _ _ _ _ R)
    · exact (yb_Cm_hold_113 hG1 hG2 R)
theorem yb_Cm_hold_0 {N : Nat} {o : Option Nat} {c : Nat → Nat} {m : MS} {u : CS} {G : (CS → Nat → Int32 → Int32 → Int32 → Option (CS × Int32)) × (CS → Nat → Int32 → Int32 → Int32 → Int32 → Int32 → Option (CS × Int32))} {G' : (MS → Int32 → Int32 → Int32 → Option (MS × Int32)) × (MS → Int32 → Int32 → Int32 → Int32 → Int32 → Option (MS × Int32))} (hG1 : ∀ (c : Nat → Nat) (m : MS) (u : CS) (v2 : Int32) (v3 : Int32) (v4 : Int32), RP o c m u → RF 0 o VE c u (G.1 u 35 v2 v3 v4) (G'.1 m v2 v3 v4)) (hG2 : ∀ (c : Nat → Nat) (m : MS) (u : CS) (v2 : Int32) (v3 : Int32) (v4 : Int32) (v5 : Int32) (v6 : Int32), RP o c m u → RF 0 o VE c u (G.2 u 35 v2 v3 v4 v5 v6) (G'.2 m v2 v3 v4 v5 v6)) (R : RP o c m u) {v1 : Int32} {v2 : Int32} : RF 0 o VE c u (fb_Cm_hold_0 N G u 35 v1 v2) (hb_Cm_hold_0 N G' m v1 v2) := by
  unfold fb_Cm_hold_0 hb_Cm_hold_0
  refine rf_bo (rx_35_2 R) ?_
  refine rf_so ?_
  refine rf_bo (gx_22_1 R) ?_
  exact (hG1 _ _ _ _ _ _ R)
theorem yg_Cm_hold {N : Nat} {o : Option Nat} : ∀ n, (∀ (c : Nat → Nat) (m : MS) (u : CS) (v2 : Int32) (v3 : Int32) (v4 : Int32), RP o c m u → RF 0 o VE c u ((gg_Cm_hold N n).1 u 35 v2 v3 v4) ((hg_Cm_hold N n).1 m v2 v3 v4)) ∧ (∀ (c : Nat → Nat) (m : MS) (u : CS) (v2 : Int32) (v3 : Int32) (v4 : Int32) (v5 : Int32) (v6 : Int32), RP o c m u → RF 0 o VE c u ((gg_Cm_hold N n).2 u 35 v2 v3 v4 v5 v6) ((hg_Cm_hold N n).2 m v2 v3 v4 v5 v6)) := by
  intro n
  induction n with
  | zero => exact ⟨fun c m u v2 v3 v4 R => rf_none, fun c m u v2 v3 v4 v5 v6 R => rf_none⟩
  | succ n ih => exact ⟨fun c m u v2 v3 v4 R => yb_Cm_hold_11 (N := N) ih.1 ih.2 R, fun c m u v2 v3 v4 v5 v6 R => yb_Cm_hold_60 (N := N) ih.1 ih.2 R⟩
theorem ym_Cm_hold {N : Nat} {o : Option Nat} {c : Nat → Nat} {m : MS} {u : CS} (R : RP o c m u) {v1 : Int32} {v2 : Int32} : RF 0 o VE c u (fm_Cm_hold N u 35 v1 v2) (hm_Cm_hold N m v1 v2) := yb_Cm_hold_0 (N := N) (yg_Cm_hold (N := N) N).1 (yg_Cm_hold (N := N) N).2 R
theorem yb_Wl_clearAll_0 {N : Nat} {o : Option Nat} {c : Nat → Nat} {m : MS} {u : CS} (R : RP o c m u) : RF 0 o VE c u (fb_Wl_clearAll_0 N () u 47) (hb_Wl_clearAll_0 N () m) := by
  unfold fb_Wl_clearAll_0 hb_Wl_clearAll_0
  refine rf_w (px_47_2 R) (fun w1' w1 R_w1 => ?_)
  refine rf_w (px_47_3 R_w1) (fun w2' w2 R_w2 => ?_)
  refine rf_w (px_47_4 R_w2) (fun w3' w3 R_w3 => ?_)
  refine rf_w (px_47_5 R_w3) (fun w4' w4 R_w4 => ?_)
  refine rf_w (px_47_6 R_w4) (fun w5' w5 R_w5 => ?_)
  refine rf_w (px_47_10 R_w5) (fun w6' w6 R_w6 => ?_)
  refine rf_w (px_47_13 R_w6) (fun w7' w7 R_w7 => ?_)
  refine rf_w (px_47_15 R_w7) (fun w8' w8 R_w8 => ?_)
  refine rf_w (px_47_16 R_w8) (fun w9' w9 R_w9 => ?_)
  exact rf_ret R_w9 rfl
theorem ym_Wl_clearAll {N : Nat} {o : Option Nat} {c : Nat → Nat} {m : MS} {u : CS} (R : RP o c m u) : RF 0 o VE c u (fm_Wl_clearAll N u 47) (hm_Wl_clearAll N m) := yb_Wl_clearAll_0 (N := N) R
theorem yb_H_count_108 {N : Nat} {c : Nat → Nat} {m : MS} {u : CS} (R : RP none c m u) {t0 : Int32} : RF 0 none VE c u (fb_H_count_108 N () u t0) (hb_H_count_108 N () m t0) := by
  unfold fb_H_count_108 hb_H_count_108
  exact rf_ret R rfl
theorem yb_H_count_89 {N : Nat} {c : Nat → Nat} {m : MS} {u : CS} (R : RP none c m u) {t0 : Int32} : RF 0 none VE c u (fb_H_count_89 N () u t0) (hb_H_count_89 N () m t0) := by
  unfold fb_H_count_89 hb_H_count_89
  exact rf_ret R rfl
theorem yb_H_count_70 {N : Nat} {c : Nat → Nat} {m : MS} {u : CS} (R : RP none c m u) {t0 : Int32} : RF 0 none VE c u (fb_H_count_70 N () u t0) (hb_H_count_70 N () m t0) := by
  unfold fb_H_count_70 hb_H_count_70
  exact rf_ret R rfl
theorem yb_H_count_0 {N : Nat} {c : Nat → Nat} {m : MS} {u : CS} (R : RP none c m u) {v1 : Int32} : RF 0 none VE c u (fb_H_count_0 N () u 0 v1) (hb_H_count_0 N () m v1) := by
  unfold fb_H_count_0 hb_H_count_0
  refine rf_br ?_ ?_
  · refine rf_bo (gx_0_10 R) ?_
    refine rf_br ?_ ?_
    · exact (yb_H_count_70 R)
    · refine rf_bo (rx_0_1 R) ?_
      refine rf_so ?_
      refine rf_bo (gx_4_5 R) ?_
      exact (yb_H_count_70 R)
  · refine rf_br ?_ ?_
    · refine rf_bo (gx_0_10 R) ?_
      refine rf_br ?_ ?_
      · exact (yb_H_count_89 R)
      · refine rf_bo (rx_0_2 R) ?_
        refine rf_so ?_
        refine rf_bo (gx_22_2 R) ?_
        exact (yb_H_count_89 R)
    · refine rf_br ?_ ?_
      · refine rf_bo (gx_0_10 R) ?_
        refine rf_br ?_ ?_
        · exact (yb_H_count_108 R)
        · refine rf_bo (rx_0_0 R) ?_
          refine rf_so ?_
          refine rf_bo (gx_1_2 R) ?_
          exact (yb_H_count_108 R)
      · refine rf_br ?_ ?_
        · refine rf_bo (rx_0_1 R) ?_
          refine rf_so ?_
          refine rf_bo (gx_4_1 R) ?_
          exact rf_ret R rfl
        · refine rf_br ?_ ?_
          · refine rf_bo (rx_0_6 R) ?_
            refine rf_so ?_
            refine rf_bo (gx_47_2 R) ?_
            exact rf_ret R rfl
          · refine rf_br ?_ ?_
            · refine rf_bo (rx_0_6 R) ?_
              refine rf_so ?_
              refine rf_bo (gx_47_13 R) ?_
              exact rf_ret R rfl
            · refine rf_br ?_ ?_
              · refine rf_bo (rx_0_6 R) ?_
                refine rf_so ?_
                refine rf_bo (gx_47_6 R) ?_
                exact rf_ret R rfl
              · refine rf_br ?_ ?_
                · refine rf_bo (rx_0_6 R) ?_
                  refine rf_so ?_
                  refine rf_bo (gx_47_4 R) ?_
                  exact rf_ret R rfl
                · refine rf_br ?_ ?_
                  · refine rf_bo (rx_0_6 R) ?_
                    refine rf_so ?_
                    refine rf_bo (gx_47_5 R) ?_
                    exact rf_ret R rfl
                  · exact rf_ret R rfl
theorem ym_H_count {N : Nat} {c : Nat → Nat} {m : MS} {u : CS} (R : RP none c m u) {v1 : Int32} : RF 0 none VE c u (fm_H_count N u 0 v1) (hm_H_count N m v1) := yb_H_count_0 (N := N) R
theorem yb_H_isFunction_27 {N : Nat} {c : Nat → Nat} {m : MS} {u : CS} (R : RP none c m u) {t0 : Int32} : RF 0 none VE c u (fb_H_isFunction_27 N () u t0) (hb_H_isFunction_27 N () m t0) := by
  unfold fb_H_isFunction_27 hb_H_isFunction_27
  refine rf_ckk ?_
  exact rf_ret R rfl
theorem yb_H_isFunction_26 {N : Nat} {c : Nat → Nat} {m : MS} {u : CS} (R : RP none c m u) : RF 0 none VE c u (fb_H_isFunction_26 N () u) (hb_H_isFunction_26 N () m) := by
  unfold fb_H_isFunction_26 hb_H_isFunction_26
  exact (yb_H_isFunction_27 R)
theorem yb_H_isFunction_0 {N : Nat} {c : Nat → Nat} {m : MS} {u : CS} (R : RP none c m u) {v1 : Int32} : RF 0 none VE c u (fb_H_isFunction_0 N () u 0 v1) (hb_H_isFunction_0 N () m v1) := by
  unfold fb_H_isFunction_0 hb_H_isFunction_0
  refine rf_bo (gx_0_10 R) ?_
  refine rf_br ?_ ?_
  · exact (yb_H_isFunction_26 R)
  · refine rf_br ?_ ?_
    · exact (yb_H_isFunction_26 R)
    · refine rf_bo (rx_0_2 R) ?_
      refine rf_so ?_
      refine rf_bo (gx_22_2 R) ?_
      refine rf_br ?_ ?_
      · exact (yb_H_isFunction_26 R)
      · exact (yb_H_isFunction_27 R)
theorem ym_H_isFunction {N : Nat} {c : Nat → Nat} {m : MS} {u : CS} (R : RP none c m u) {v1 : Int32} : RF 0 none VE c u (fm_H_isFunction N u 0 v1) (hm_H_isFunction N m v1) := yb_H_isFunction_0 (N := N) R
theorem yb_H_function_0 {N : Nat} {c : Nat → Nat} {m : MS} {u : CS} (R : RP none c m u) {v1 : Int32} {v2 : Int32} : RF 0 none VE c u (fb_H_function_0 N () u 0 v1 v2) (hb_H_function_0 N () m v1 v2) := by
  unfold fb_H_function_0 hb_H_function_0
  refine rf_ck (ox_0 R) ?_
  refine rf_bx0 (ym_H_isFunction R) (fun u1' u1 r1 R_u1 => ?_)
  refine rf_br ?_ ?_
  · exact rf_ret R_u1 rfl
  · refine rf_br ?_ ?_
    · refine rf_bo (rx_0_2 R_u1) ?_
      refine rf_so ?_
      refine rf_bo (rx_22_3 R_u1) ?_
      refine rf_so ?_
      refine rf_ai (ax_24 R_u1) ?_
      exact rf_ret R_u1 rfl
    · refine rf_br ?_ ?_
      · refine rf_bo (rx_0_2 R_u1) ?_
        refine rf_so ?_
        refine rf_bo (rx_22_4 R_u1) ?_
        refine rf_so ?_
        refine rf_ai (ax_25 R_u1) ?_
        exact rf_ret R_u1 rfl
      · refine rf_br ?_ ?_
        · refine rf_bo (rx_0_2 R_u1) ?_
          refine rf_so ?_
          refine rf_bo (rx_22_7 R_u1) ?_
          refine rf_so ?_
          refine rf_ai (ax_28 R_u1) ?_
          exact rf_ret R_u1 rfl
        · refine rf_br ?_ ?_
          · refine rf_bo (rx_0_2 R_u1) ?_
            refine rf_so ?_
            refine rf_bo (rx_22_5 R_u1) ?_
            refine rf_so ?_
            refine rf_ai (ax_26 R_u1) ?_
            exact rf_ret R_u1 rfl
          · exact rf_ret R_u1 rfl
theorem ym_H_function {N : Nat} {c : Nat → Nat} {m : MS} {u : CS} (R : RP none c m u) {v1 : Int32} {v2 : Int32} : RF 0 none VE c u (fm_H_function N u 0 v1 v2) (hm_H_function N m v1 v2) := yb_H_function_0 (N := N) R
theorem yb_Wo_sign_35 {N : Nat} {o : Option Nat} {c : Nat → Nat} {m : MS} {u : CS} (R : RP o c m u) : RF 0 o VE c u (fb_Wo_sign_35 N () u) (hb_Wo_sign_35 N () m) := by
  unfold fb_Wo_sign_35 hb_Wo_sign_35
  exact rf_ret R rfl
theorem yb_Wo_sign_0 {N : Nat} {o : Option Nat} {c : Nat → Nat} {m : MS} {u : CS} (R : RP o c m u) {v0 : Nat} {v1 : Int32} {v2 : Int32} (h_v0 : isWd v0) : RF 0 o VE c u (fb_Wo_sign_0 N () u v0 v1 v2) (hb_Wo_sign_0 N () m v0 v1 v2) := by
  unfold fb_Wo_sign_0 hb_Wo_sign_0
  refine rf_br ?_ ?_
  · exact (yb_Wo_sign_35 R)
  · refine rf_bo (gi_W2 R h_v0) ?_
    refine rf_br ?_ ?_
    · exact (yb_Wo_sign_35 R)
    · refine rf_br ?_ ?_
      · exact (yb_Wo_sign_35 R)
      · refine rf_bo (gr_W1 R h_v0) ?_
        refine rf_so ?_
        refine rf_ai (ai_W R h_v0) ?_
        refine rf_bo (gr_W1 R h_v0) ?_
        refine rf_so ?_
        refine rf_ai (ai_W R h_v0) ?_
        refine rf_br ?_ ?_
        · refine rf_bo (gr_W0 R h_v0) ?_
          refine rf_bo (gr_W1 R h_v0) ?_
          refine rf_so ?_
          refine rf_ai (ai_W R h_v0) ?_
          refine rf_so ?_
          refine rf_ai (ai_B R (By_w h_v0)) ?_
          exact rf_ret R rfl
        · exact (yb_Wo_sign_35 R)
theorem ym_Wo_sign {N : Nat} {o : Option Nat} {c : Nat → Nat} {m : MS} {u : CS} (R : RP o c m u) {v0 : Nat} {v1 : Int32} {v2 : Int32} (h_v0 : isWd v0) : RF 0 o VE c u (fm_Wo_sign N u v0 v1 v2) (hm_Wo_sign N m v0 v1 v2) := yb_Wo_sign_0 (N := N) R h_v0
theorem yb_H_letter_0 {N : Nat} {c : Nat → Nat} {m : MS} {u : CS} (R : RP none c m u) {v1 : Int32} {v2 : Int32} : RF 0 none VE c u (fb_H_letter_0 N () u 0 v1 v2) (hb_H_letter_0 N () m v1 v2) := by
  unfold fb_H_letter_0 hb_H_letter_0
  refine rf_bo (gx_0_10 R) ?_
  refine rf_br ?_ ?_
  · exact rf_ret R rfl
  · refine rf_bo (rx_0_0 R) ?_
    refine rf_so ?_
    refine rf_ck (ox_1 R) ?_
    refine rf_bx0 (ym_Wo_sign R (by unfold isWd; omega)) (fun u3' u3 r3 R_u3 => ?_)
    exact rf_ret R_u3 rfl
theorem ym_H_letter {N : Nat} {c : Nat → Nat} {m : MS} {u : CS} (R : RP none c m u) {v1 : Int32} {v2 : Int32} : RF 0 none VE c u (fm_H_letter N u 0 v1 v2) (hm_H_letter N m v1 v2) := yb_H_letter_0 (N := N) R
theorem yb_Fr_clear_0 {N : Nat} {o : Option Nat} {c : Nat → Nat} {m : MS} {u : CS} (R : RP o c m u) {v0 : Nat} {v0' : Nat} (h_v0 : FVn c v0 v0') : RF 0 o VE c u (fb_Fr_clear_0 N () u v0) (hb_Fr_clear_0 N () m v0') := by
  unfold fb_Fr_clear_0 hb_Fr_clear_0
  refine rf_w (wf_1 R h_v0) (fun w1' w1 R_w1 => ?_)
  refine rf_w (wf_4 R_w1 h_v0) (fun w2' w2 R_w2 => ?_)
  refine rf_w (wf_6 R_w2 h_v0) (fun w3' w3 R_w3 => ?_)
  refine rf_w (wf_8 R_w3 h_v0) (fun w4' w4 R_w4 => ?_)
  refine rf_w (wf_9 R_w4 h_v0) (fun w5' w5 R_w5 => ?_)
  exact rf_ret R_w5 rfl
theorem ym_Fr_clear {N : Nat} {o : Option Nat} {c : Nat → Nat} {m : MS} {u : CS} (R : RP o c m u) {v0 : Nat} {v0' : Nat} (h_v0 : FVn c v0 v0') : RF 0 o VE c u (fm_Fr_clear N u v0) (hm_Fr_clear N m v0') := yb_Fr_clear_0 (N := N) R h_v0
theorem yb_Pr_clear_0 {N : Nat} {o : Option Nat} {c : Nat → Nat} {m : MS} {u : CS} (R : RP o c m u) {v0 : Nat} {v0' : Nat} (h_v0 : PVn c v0 v0') : RF 0 o VE c u (fb_Pr_clear_0 N () u v0) (hb_Pr_clear_0 N () m v0') := by
  unfold fb_Pr_clear_0 hb_Pr_clear_0
  refine rf_bo (gR_P1 R h_v0) ?_
  refine rf_soF h_v0.1 (fun j3 h_j3 => ?_)
  refine rf_ck (io_F R h_j3) ?_
  refine rf_bx0 (ym_Fr_clear R h_j3) (fun u2' u2 r2 R_u2 => ?_)
  refine rf_w (wq_4 R_u2 h_v0) (fun w4' w4 R_w4 => ?_)
  refine rf_w (wq_5 R_w4 h_v0) (fun w5' w5 R_w5 => ?_)
  refine rf_w (wq_7 R_w5 h_v0) (fun w6' w6 R_w6 => ?_)
  refine rf_w (wq_8 R_w6 h_v0) (fun w7' w7 R_w7 => ?_)
  refine rf_w (wq_9 R_w7 h_v0) (fun w8' w8 R_w8 => ?_)
  refine rf_w (lq_10 R_w8 h_v0) (fun w9' w9 R_w9 => ?_)
  refine rf_w (wq_11 R_w9 h_v0) (fun w10' w10 R_w10 => ?_)
  refine rf_w (wq_12 R_w10 h_v0) (fun w11' w11 R_w11 => ?_)
  refine rf_w (wq_13 R_w11 h_v0) (fun w12' w12 R_w12 => ?_)
  refine rf_w (wq_15 R_w12 h_v0) (fun w13' w13 R_w13 => ?_)
  refine rf_w (lq_16 R_w13 h_v0) (fun w14' w14 R_w14 => ?_)
  refine rf_w (RP_qH R_w14 h_v0 (PV_j h_v0)) (fun w15' w15 R_w15 => ?_)
  exact rf_ret R_w15 rfl
theorem ym_Pr_clear {N : Nat} {o : Option Nat} {c : Nat → Nat} {m : MS} {u : CS} (R : RP o c m u) {v0 : Nat} {v0' : Nat} (h_v0 : PVn c v0 v0') : RF 0 o VE c u (fm_Pr_clear N u v0) (hm_Pr_clear N m v0') := yb_Pr_clear_0 (N := N) R h_v0
theorem yb_Fr_set_23 {N : Nat} {o : Option Nat} {c : Nat → Nat} {m : MS} {u : CS} (R : RP o c m u) : RF 0 o VE c u (fb_Fr_set_23 N () u) (hb_Fr_set_23 N () m) := by
  unfold fb_Fr_set_23 hb_Fr_set_23
  exact rf_ret R rfl
theorem yb_Fr_set_0 {N : Nat} {o : Option Nat} {c : Nat → Nat} {m : MS} {u : CS} (R : RP o c m u) {v0 : Nat} {v0' : Nat} {v1 : Int32} {v2 : Int32} (h_v0 : FVn c v0 v0') : RF 0 o VE c u (fb_Fr_set_0 N () u v0 v1 v2) (hb_Fr_set_0 N () m v0' v1 v2) := by
  unfold fb_Fr_set_0 hb_Fr_set_0
  refine rf_bo (gf_1 R h_v0) ?_
  refine rf_br ?_ ?_
  · exact (yb_Fr_set_23 R)
  · refine rf_bo (gR_F0 R h_v0) ?_
    refine rf_bo (gf_1 R h_v0) ?_
    refine rf_so ?_
    refine rf_wk (sq_30 R h_v0.1) (fun w5' w5 R_w5 => ?_)
    exact (yb_Fr_set_23 R_w5)
theorem ym_Fr_set {N : Nat} {o : Option Nat} {c : Nat → Nat} {m : MS} {u : CS} (R : RP o c m u) {v0 : Nat} {v0' : Nat} {v1 : Int32} {v2 : Int32} (h_v0 : FVn c v0 v0') : RF 0 o VE c u (fm_Fr_set N u v0 v1 v2) (hm_Fr_set N m v0' v1 v2) := yb_Fr_set_0 (N := N) R h_v0
theorem yb_Fr_open_0 {N : Nat} {o : Option Nat} {c : Nat → Nat} {m : MS} {u : CS} (R : RP o c m u) {v0 : Nat} {v0' : Nat} {v1 : Int32} {v2 : Int32} {v3 : Int32} (h_v0 : FVn c v0 v0') : RF 0 o VE c u (fb_Fr_open_0 N () u v0 v1 v2 v3) (hb_Fr_open_0 N () m v0' v1 v2 v3) := by
  unfold fb_Fr_open_0 hb_Fr_open_0
  refine rf_bo (gf_1 R h_v0) ?_
  refine rf_br ?_ ?_
  · refine rf_bo (gf_1 R h_v0) ?_
    refine rf_w (wf_1 R h_v0) (fun w3' w3 R_w3 => ?_)
    refine rf_bo (gf_4 R_w3 h_v0) ?_
    refine rf_ck (io_F R_w3 h_v0) ?_
    refine rf_bx0 (ym_Fr_set R_w3 h_v0) (fun u5' u5 r5 R_u5 => ?_)
    refine rf_bo (gf_6 R_u5 h_v0) ?_
    refine rf_ck (io_F R_u5 h_v0) ?_
    refine rf_bx0 (ym_Fr_set R_u5 h_v0) (fun u7' u7 r7 R_u7 => ?_)
    refine rf_ck (io_F R_u7 h_v0) ?_
    refine rf_bx0 (ym_Fr_set R_u7 h_v0) (fun u8' u8 r8 R_u8 => ?_)
    refine rf_ck (io_F R_u8 h_v0) ?_
    refine rf_bx0 (ym_Fr_set R_u8 h_v0) (fun u9' u9 r9 R_u9 => ?_)
    refine rf_ck (io_F R_u9 h_v0) ?_
    refine rf_bx0 (ym_Fr_set R_u9 h_v0) (fun u10' u10 r10 R_u10 => ?_)
    exact rf_ret R_u10 rfl
  · exact rf_ret R rfl
theorem ym_Fr_open {N : Nat} {o : Option Nat} {c : Nat → Nat} {m : MS} {u : CS} (R : RP o c m u) {v0 : Nat} {v0' : Nat} {v1 : Int32} {v2 : Int32} {v3 : Int32} (h_v0 : FVn c v0 v0') : RF 0 o VE c u (fm_Fr_open N u v0 v1 v2 v3) (hm_Fr_open N m v0' v1 v2 v3) := yb_Fr_open_0 (N := N) R h_v0
theorem yb_Wl_isReady_40 {N : Nat} {o : Option Nat} {c : Nat → Nat} {m : MS} {u : CS} (R : RP o c m u) {t0 : Int32} : RF 0 o VE c u (fb_Wl_isReady_40 N () u t0) (hb_Wl_isReady_40 N () m t0) := by
  unfold fb_Wl_isReady_40 hb_Wl_isReady_40
  refine rf_ckk ?_
  exact rf_ret R rfl
theorem yb_Wl_isReady_39 {N : Nat} {o : Option Nat} {c : Nat → Nat} {m : MS} {u : CS} (R : RP o c m u) : RF 0 o VE c u (fb_Wl_isReady_39 N () u) (hb_Wl_isReady_39 N () m) := by
  unfold fb_Wl_isReady_39 hb_Wl_isReady_39
  exact (yb_Wl_isReady_40 R)
theorem yb_Wl_isReady_35 {N : Nat} {o : Option Nat} {c : Nat → Nat} {m : MS} {u : CS} (R : RP o c m u) : RF 0 o VE c u (fb_Wl_isReady_35 N () u) (hb_Wl_isReady_35 N () m) := by
  unfold fb_Wl_isReady_35 hb_Wl_isReady_35
  exact (yb_Wl_isReady_40 R)
theorem yb_Wl_isReady_0 {N : Nat} {o : Option Nat} {c : Nat → Nat} {m : MS} {u : CS} (R : RP o c m u) {v1 : Nat} {v1' : Nat} (h_v1 : PVn c v1 v1') : RF 0 o VE c u (fb_Wl_isReady_0 N () u 47 (some v1)) (hb_Wl_isReady_0 N () m v1') := by
  unfold fb_Wl_isReady_0 hb_Wl_isReady_0
  refine rf_so ?_
  refine rf_bo (gq_8 R h_v1) ?_
  refine rf_so ?_
  refine rf_bo (gq_7 R h_v1) ?_
  refine rf_br ?_ ?_
  · exact (yb_Wl_isReady_35 R)
  · refine rf_so ?_
    refine rf_bo (gJ_P10 R h_v1) ?_
    refine rf_br ?_ ?_
    · exact (yb_Wl_isReady_39 R)
    · refine rf_so ?_
      refine rf_bo (gJ_P10 R h_v1) ?_
      refine rf_bo (gx_47_4 R) ?_
      refine rf_br ?_ ?_
      · exact (yb_Wl_isReady_39 R)
      · exact (yb_Wl_isReady_35 R)
theorem ym_Wl_isReady {N : Nat} {o : Option Nat} {c : Nat → Nat} {m : MS} {u : CS} (R : RP o c m u) {v1 : Nat} {v1' : Nat} (h_v1 : PVn c v1 v1') : RF 0 o VE c u (fm_Wl_isReady N u 47 (some v1)) (hm_Wl_isReady N m v1') := yb_Wl_isReady_0 (N := N) R h_v1
theorem yb_Fr_of_26 {N : Nat} {o : Option Nat} {c : Nat → Nat} {m : MS} {u : CS} (R : RP o c m u) {t0 : Int32} : RF 0 o VE c u (fb_Fr_of_26 N () u t0) (hb_Fr_of_26 N () m t0) := by
  unfold fb_Fr_of_26 hb_Fr_of_26
  exact rf_ret R rfl
theorem yb_Fr_of_12 {N : Nat} {o : Option Nat} {c : Nat → Nat} {m : MS} {u : CS} (R : RP o c m u) : RF 0 o VE c u (fb_Fr_of_12 N () u) (hb_Fr_of_12 N () m) := by
  unfold fb_Fr_of_12 hb_Fr_of_12
  exact (yb_Fr_of_26 R)
theorem yb_Fr_of_0 {N : Nat} {o : Option Nat} {c : Nat → Nat} {m : MS} {u : CS} (R : RP o c m u) {v0 : Nat} {v0' : Nat} {v1 : Int32} {v2 : Int32} (h_v0 : FVn c v0 v0') : RF 0 o VE c u (fb_Fr_of_0 N () u v0 v1 v2) (hb_Fr_of_0 N () m v0' v1 v2) := by
  unfold fb_Fr_of_0 hb_Fr_of_0
  refine rf_br ?_ ?_
  · exact (yb_Fr_of_12 R)
  · refine rf_bo (gf_1 R h_v0) ?_
    refine rf_br ?_ ?_
    · refine rf_bo (gR_F0 R h_v0) ?_
      refine rf_so ?_
      refine rf_ai (aq_30 R h_v0.1) ?_
      exact (yb_Fr_of_26 R)
    · exact (yb_Fr_of_12 R)
theorem ym_Fr_of {N : Nat} {o : Option Nat} {c : Nat → Nat} {m : MS} {u : CS} (R : RP o c m u) {v0 : Nat} {v0' : Nat} {v1 : Int32} {v2 : Int32} (h_v0 : FVn c v0 v0') : RF 0 o VE c u (fm_Fr_of N u v0 v1 v2) (hm_Fr_of N m v0' v1 v2) := yb_Fr_of_0 (N := N) R h_v0
theorem yb_Fr_place_0 {N : Nat} {o : Option Nat} {c : Nat → Nat} {m : MS} {u : CS} (R : RP o c m u) {v0 : Nat} {v0' : Nat} (h_v0 : FVn c v0 v0') : RF 0 o VE c u (fb_Fr_place_0 N () u v0) (hb_Fr_place_0 N () m v0') := by
  unfold fb_Fr_place_0 hb_Fr_place_0
  refine rf_bo (gf_1 R h_v0) ?_
  refine rf_ck (io_F R h_v0) ?_
  refine rf_bx0 (ym_Fr_of R h_v0) (fun u2' u2 r2 R_u2 => ?_)
  exact rf_ret R_u2 rfl
theorem ym_Fr_place {N : Nat} {o : Option Nat} {c : Nat → Nat} {m : MS} {u : CS} (R : RP o c m u) {v0 : Nat} {v0' : Nat} (h_v0 : FVn c v0 v0') : RF 0 o VE c u (fm_Fr_place N u v0) (hm_Fr_place N m v0') := yb_Fr_place_0 (N := N) R h_v0
theorem yb_Fr_below_23 {N : Nat} {o : Option Nat} {c : Nat → Nat} {m : MS} {u : CS} (R : RP o c m u) {t0 : Int64} : RF 0 o VE c u (fb_Fr_below_23 N () u t0) (hb_Fr_below_23 N () m t0) := by
  unfold fb_Fr_below_23 hb_Fr_below_23
  exact rf_ret R rfl
theorem yb_Fr_below_0 {N : Nat} {o : Option Nat} {c : Nat → Nat} {m : MS} {u : CS} (R : RP o c m u) {v0 : Nat} {v0' : Nat} {v1 : Int32} (h_v0 : FVn c v0 v0') : RF 0 o VE c u (fb_Fr_below_0 N () u v0 v1) (hb_Fr_below_0 N () m v0' v1) := by
  unfold fb_Fr_below_0 hb_Fr_below_0
  refine rf_bo (gf_6 R h_v0) ?_
  refine rf_br ?_ ?_
  · refine rf_bo (gR_F5 R h_v0) ?_
    refine rf_so ?_
    refine rf_ai (aq_35 R h_v0.1) ?_
    exact (yb_Fr_below_23 R)
  · exact (yb_Fr_below_23 R)
theorem ym_Fr_below {N : Nat} {o : Option Nat} {c : Nat → Nat} {m : MS} {u : CS} (R : RP o c m u) {v0 : Nat} {v0' : Nat} {v1 : Int32} (h_v0 : FVn c v0 v0') : RF 0 o VE c u (fm_Fr_below N u v0 v1) (hm_Fr_below N m v0' v1) := yb_Fr_below_0 (N := N) R h_v0
theorem yb_Te_tag_0 {N : Nat} {o : Option Nat} {c : Nat → Nat} {m : MS} {u : CS} (R : RP o c m u) {v0 : Int64} : RF 0 o VE c u (fb_Te_tag_0 N () u v0) (hb_Te_tag_0 N () m v0) := by
  unfold fb_Te_tag_0 hb_Te_tag_0
  exact rf_ret R rfl
theorem ym_Te_tag {N : Nat} {o : Option Nat} {c : Nat → Nat} {m : MS} {u : CS} (R : RP o c m u) {v0 : Int64} : RF 0 o VE c u (fm_Te_tag N u v0) (hm_Te_tag N m v0) := yb_Te_tag_0 (N := N) R
theorem yb_Co_takes_50 {N : Nat} {o : Option Nat} {c : Nat → Nat} {m : MS} {u : CS} (R : RP o c m u) {t0 : Int32} : RF 0 o VE c u (fb_Co_takes_50 N () u t0) (hb_Co_takes_50 N () m t0) := by
  unfold fb_Co_takes_50 hb_Co_takes_50
  exact rf_ret R rfl
theorem yb_Co_takes_49 {N : Nat} {o : Option Nat} {c : Nat → Nat} {m : MS} {u : CS} (R : RP o c m u) : RF 0 o VE c u (fb_Co_takes_49 N () u) (hb_Co_takes_49 N () m) := by
  unfold fb_Co_takes_49 hb_Co_takes_49
  exact (yb_Co_takes_50 R)
theorem yb_Co_takes_27 {N : Nat} {o : Option Nat} {c : Nat → Nat} {m : MS} {u : CS} (R : RP o c m u) {t0 : Int32} : RF 0 o VE c u (fb_Co_takes_27 N () u t0) (hb_Co_takes_27 N () m t0) := by
  unfold fb_Co_takes_27 hb_Co_takes_27
  exact rf_ret R rfl
theorem yb_Co_takes_0 {N : Nat} {o : Option Nat} {c : Nat → Nat} {m : MS} {u : CS} (R : RP o c m u) {v1 : Int32} : RF 0 o VE c u (fb_Co_takes_0 N () u 22 v1) (hb_Co_takes_0 N () m v1) := by
  unfold fb_Co_takes_0 hb_Co_takes_0
  refine rf_br ?_ ?_
  · refine rf_br ?_ ?_
    · exact (yb_Co_takes_49 R)
    · refine rf_bo (gx_22_9 R) ?_
      refine rf_br ?_ ?_
      · exact (yb_Co_takes_49 R)
      · refine rf_bo (rx_22_10 R) ?_
        refine rf_so ?_
        refine rf_ai (ax_30 R) ?_
        exact (yb_Co_takes_50 R)
  · refine rf_bo (gx_22_2 R) ?_
    refine rf_br ?_ ?_
    · exact (yb_Co_takes_27 R)
    · refine rf_bo (rx_22_4 R) ?_
      refine rf_so ?_
      refine rf_ai (ax_25 R) ?_
      exact (yb_Co_takes_27 R)
theorem ym_Co_takes {N : Nat} {o : Option Nat} {c : Nat → Nat} {m : MS} {u : CS} (R : RP o c m u) {v1 : Int32} : RF 0 o VE c u (fm_Co_takes N u 22 v1) (hm_Co_takes N m v1) := yb_Co_takes_0 (N := N) R
theorem yb_Te_make_0 {N : Nat} {o : Option Nat} {c : Nat → Nat} {m : MS} {u : CS} (R : RP o c m u) {v0 : Int32} {v1 : Int32} : RF 0 o VE c u (fb_Te_make_0 N () u v0 v1) (hb_Te_make_0 N () m v0 v1) := by
  unfold fb_Te_make_0 hb_Te_make_0
  exact rf_ret R rfl
theorem ym_Te_make {N : Nat} {o : Option Nat} {c : Nat → Nat} {m : MS} {u : CS} (R : RP o c m u) {v0 : Int32} {v1 : Int32} : RF 0 o VE c u (fm_Te_make N u v0 v1) (hm_Te_make N m v0 v1) := yb_Te_make_0 (N := N) R
theorem yb_Ma_atom_0 {N : Nat} {o : Option Nat} {c : Nat → Nat} {m : MS} {u : CS} (R : RP o c m u) {v0 : Int32} : RF 0 o VE c u (fb_Ma_atom_0 N () u v0) (hb_Ma_atom_0 N () m v0) := by
  unfold fb_Ma_atom_0 hb_Ma_atom_0
  refine rf_bx0 (ym_Te_make R) (fun u1' u1 r1 R_u1 => ?_)
  exact rf_ret R_u1 rfl
theorem ym_Ma_atom {N : Nat} {o : Option Nat} {c : Nat → Nat} {m : MS} {u : CS} (R : RP o c m u) {v0 : Int32} : RF 0 o VE c u (fm_Ma_atom N u v0) (hm_Ma_atom N m v0) := yb_Ma_atom_0 (N := N) R
theorem yb_Ma_tell_0 {N : Nat} {p : Nat} {c : Nat → Nat} {m : MS} {u : CS} (R : RP (some p) c m u) {v1 : Int32} {v2 : Int32} {v3 : Int64} : RF 0 (some p) VE c u (fb_Ma_tell_0 N () u 55 v1 v2 v3) (hb_Ma_tell_0 N () m p v1 v2 v3) := by
  unfold fb_Ma_tell_0 hb_Ma_tell_0
  refine rf_w (px_55_9 R) (fun w1' w1 R_w1 => ?_)
  refine rf_w (px_55_11 R_w1) (fun w2' w2 R_w2 => ?_)
  refine rf_w (pL_s10 R_w2) (fun w3' w3 R_w3 => ?_)
  exact rf_ret R_w3 rfl
theorem ym_Ma_tell {N : Nat} {p : Nat} {c : Nat → Nat} {m : MS} {u : CS} (R : RP (some p) c m u) {v1 : Int32} {v2 : Int32} {v3 : Int64} : RF 0 (some p) VE c u (fm_Ma_tell N u 55 v1 v2 v3) (hm_Ma_tell N m p v1 v2 v3) := yb_Ma_tell_0 (N := N) R
theorem yb_Ma_wrong_0 {N : Nat} {p : Nat} {c : Nat → Nat} {m : MS} {u : CS} (R : RP (some p) c m u) {v1 : Int32} : RF 0 (some p) VE c u (fb_Ma_wrong_0 N () u 55 v1) (hb_Ma_wrong_0 N () m p v1) := by
  unfold fb_Ma_wrong_0 hb_Ma_wrong_0
  refine rf_bx0 (ym_Ma_atom R) (fun u1' u1 r1 R_u1 => ?_)
  refine rf_ck (ox_55 R_u1) ?_
  refine rf_bx0 (ym_Ma_tell R_u1) (fun u2' u2 r2 R_u2 => ?_)
  exact rf_ret R_u2 rfl
theorem ym_Ma_wrong {N : Nat} {p : Nat} {c : Nat → Nat} {m : MS} {u : CS} (R : RP (some p) c m u) {v1 : Int32} : RF 0 (some p) VE c u (fm_Ma_wrong N u 55 v1) (hm_Ma_wrong N m p v1) := yb_Ma_wrong_0 (N := N) R
theorem yb_Ma_functionOf_14 {N : Nat} {o : Option Nat} {c : Nat → Nat} {m : MS} {u : CS} (R : RP o c m u) {t0 : Int32} : RF 0 o VE c u (fb_Ma_functionOf_14 N () u t0) (hb_Ma_functionOf_14 N () m t0) := by
  unfold fb_Ma_functionOf_14 hb_Ma_functionOf_14
  exact rf_ret R rfl
theorem yb_Ma_functionOf_0 {N : Nat} {o : Option Nat} {c : Nat → Nat} {m : MS} {u : CS} (R : RP o c m u) {v0 : Int32} : RF 0 o VE c u (fb_Ma_functionOf_0 N () u v0) (hb_Ma_functionOf_0 N () m v0) := by
  unfold fb_Ma_functionOf_0 hb_Ma_functionOf_0
  refine rf_br ?_ ?_
  · exact (yb_Ma_functionOf_14 R)
  · exact (yb_Ma_functionOf_14 R)
theorem ym_Ma_functionOf {N : Nat} {o : Option Nat} {c : Nat → Nat} {m : MS} {u : CS} (R : RP o c m u) {v0 : Int32} : RF 0 o VE c u (fm_Ma_functionOf N u v0) (hm_Ma_functionOf N m v0) := yb_Ma_functionOf_0 (N := N) R
theorem yb_Ma_entryOf_62 {N : Nat} {p : Nat} {c : Nat → Nat} {m : MS} {u : CS} (R : RP (some p) c m u) {t0 : Int32} : RF 0 (some p) VE c u (fb_Ma_entryOf_62 N () u t0) (hb_Ma_entryOf_62 N () m p t0) := by
  unfold fb_Ma_entryOf_62 hb_Ma_entryOf_62
  exact rf_ret R rfl
theorem yb_Ma_entryOf_61 {N : Nat} {p : Nat} {c : Nat → Nat} {m : MS} {u : CS} (R : RP (some p) c m u) : RF 0 (some p) VE c u (fb_Ma_entryOf_61 N () u) (hb_Ma_entryOf_61 N () m p) := by
  unfold fb_Ma_entryOf_61 hb_Ma_entryOf_61
  exact (yb_Ma_entryOf_62 R)
theorem yb_Ma_entryOf_33 {N : Nat} {p : Nat} {c : Nat → Nat} {m : MS} {u : CS} (R : RP (some p) c m u) {t0 : Int32} : RF 0 (some p) VE c u (fb_Ma_entryOf_33 N () u t0) (hb_Ma_entryOf_33 N () m p t0) := by
  unfold fb_Ma_entryOf_33 hb_Ma_entryOf_33
  exact rf_ret R rfl
theorem yb_Ma_entryOf_0 {N : Nat} {p : Nat} {c : Nat → Nat} {m : MS} {u : CS} (R : RP (some p) c m u) {v1 : Int32} : RF 0 (some p) VE c u (fb_Ma_entryOf_0 N () u 55 v1) (hb_Ma_entryOf_0 N () m p v1) := by
  unfold fb_Ma_entryOf_0 hb_Ma_entryOf_0
  refine rf_bx0 (ym_Ma_functionOf R) (fun u1' u1 r1 R_u1 => ?_)
  refine rf_br ?_ ?_
  · refine rf_br ?_ ?_
    · exact (yb_Ma_entryOf_61 R_u1)
    · refine rf_bo (rx_55_0 R_u1) ?_
      refine rf_so ?_
      refine rf_bo (gx_22_9 R_u1) ?_
      refine rf_br ?_ ?_
      · exact (yb_Ma_entryOf_61 R_u1)
      · refine rf_bo (rx_55_0 R_u1) ?_
        refine rf_so ?_
        refine rf_bo (rx_22_11 R_u1) ?_
        refine rf_so ?_
        refine rf_ai (ax_31 R_u1) ?_
        exact (yb_Ma_entryOf_62 R_u1)
  · refine rf_bo (rx_55_0 R_u1) ?_
    refine rf_so ?_
    refine rf_bo (gx_22_2 R_u1) ?_
    refine rf_br ?_ ?_
    · exact (yb_Ma_entryOf_33 R_u1)
    · refine rf_bo (rx_55_0 R_u1) ?_
      refine rf_so ?_
      refine rf_bo (rx_22_8 R_u1) ?_
      refine rf_so ?_
      refine rf_ai (ax_29 R_u1) ?_
      exact (yb_Ma_entryOf_33 R_u1)
theorem ym_Ma_entryOf {N : Nat} {p : Nat} {c : Nat → Nat} {m : MS} {u : CS} (R : RP (some p) c m u) {v1 : Int32} : RF 0 (some p) VE c u (fm_Ma_entryOf N u 55 v1) (hm_Ma_entryOf N m p v1) := yb_Ma_entryOf_0 (N := N) R
theorem yb_Te_cellsAt_49 {N : Nat} {o : Option Nat} {c : Nat → Nat} {m : MS} {u : CS} (R : RP o c m u) {t0 : Int32} : RF 0 o VE c u (fb_Te_cellsAt_49 N () u t0) (hb_Te_cellsAt_49 N () m t0) := by
  unfold fb_Te_cellsAt_49 hb_Te_cellsAt_49
  exact rf_ret R rfl
theorem yb_Te_cellsAt_0 {N : Nat} {o : Option Nat} {c : Nat → Nat} {m : MS} {u : CS} (R : RP o c m u) {v0 : Nat} {v0' : Nat} {v1 : Int64} (h_v0 : CVn c v0 v0') : RF 0 o VE c u (fb_Te_cellsAt_0 N () u (some v0) v1) (hb_Te_cellsAt_0 N () m v0' v1) := by
  unfold fb_Te_cellsAt_0 hb_Te_cellsAt_0
  refine rf_lt ?_
  refine rf_br ?_ ?_
  · exact rf_ret R rfl
  · refine rf_br ?_ ?_
    · refine rf_so ?_
      refine rf_ai (aq_C R h_v0) ?_
      exact rf_ret R rfl
    · refine rf_br ?_ ?_
      · refine rf_so ?_
        refine rf_ai (aq_C R h_v0) ?_
        exact (yb_Te_cellsAt_49 R)
      · exact (yb_Te_cellsAt_49 R)
theorem ym_Te_cellsAt {N : Nat} {o : Option Nat} {c : Nat → Nat} {m : MS} {u : CS} (R : RP o c m u) {v0 : Nat} {v0' : Nat} {v1 : Int64} (h_v0 : CVn c v0 v0') : RF 0 o VE c u (fm_Te_cellsAt N u (some v0) v1) (hm_Te_cellsAt N m v0' v1) := yb_Te_cellsAt_0 (N := N) R h_v0
theorem yb_Te_size_140 {N : Nat} {o : Option Nat} {c : Nat → Nat} {m : MS} {u : CS} {G : (CS → Nat → Option Nat → Int32 → Int32 → Int32 → Option (CS × Int32)) × (CS → Nat → Option Nat → Int32 → Int32 → Int32 → Int32 → Int32 → Int32 → Option (CS × Int32))} {G' : (MS → Nat → Int32 → Int32 → Int32 → Option (MS × Int32)) × (MS → Nat → Int32 → Int32 → Int32 → Int32 → Int32 → Int32 → Option (MS × Int32))} (hG1 : ∀ (c : Nat → Nat) (m : MS) (u : CS) (v1 : Nat) (v1' : Nat) (v4 : Int32) (v5 : Int32) (v6 : Int32), RP o c m u → CVn c v1 v1' → RF 0 o VE c u (G.1 u 43 (some v1) v4 v5 v6) (G'.1 m v1' v4 v5 v6)) (hG2 : ∀ (c : Nat → Nat) (m : MS) (u : CS) (v1 : Nat) (v1' : Nat) (v4 : Int32) (v5 : Int32) (v6 : Int32) (v7 : Int32) (v8 : Int32) (v9 : Int32), RP o c m u → CVn c v1 v1' → RF 0 o VE c u (G.2 u 43 (some v1) v4 v5 v6 v7 v8 v9) (G'.2 m v1' v4 v5 v6 v7 v8 v9)) (R : RP o c m u) {v4 : Int32} : RF 0 o VE c u (fb_Te_size_140 N G u v4) (hb_Te_size_140 N G' m v4) := by
  unfold fb_Te_size_140 hb_Te_size_140
  exact rf_ret R rfl
theorem yb_Te_size_134 {N : Nat} {o : Option Nat} {c : Nat → Nat} {m : MS} {u : CS} {G : (CS → Nat → Option Nat → Int32 → Int32 → Int32 → Option (CS × Int32)) × (CS → Nat → Option Nat → Int32 → Int32 → Int32 → Int32 → Int32 → Int32 → Option (CS × Int32))} {G' : (MS → Nat → Int32 → Int32 → Int32 → Option (MS × Int32)) × (MS → Nat → Int32 → Int32 → Int32 → Int32 → Int32 → Int32 → Option (MS × Int32))} (hG1 : ∀ (c : Nat → Nat) (m : MS) (u : CS) (v1 : Nat) (v1' : Nat) (v4 : Int32) (v5 : Int32) (v6 : Int32), RP o c m u → CVn c v1 v1' → RF 0 o VE c u (G.1 u 43 (some v1) v4 v5 v6) (G'.1 m v1' v4 v5 v6)) (hG2 : ∀ (c : Nat → Nat) (m : MS) (u : CS) (v1 : Nat) (v1' : Nat) (v4 : Int32) (v5 : Int32) (v6 : Int32) (v7 : Int32) (v8 : Int32) (v9 : Int32), RP o c m u → CVn c v1 v1' → RF 0 o VE c u (G.2 u 43 (some v1) v4 v5 v6 v7 v8 v9) (G'.2 m v1' v4 v5 v6 v7 v8 v9)) (R : RP o c m u) {v1 : Nat} {v1' : Nat} {v4 : Int32} {v5 : Int32} {v6 : Int32} (h_v1 : CVn c v1 v1') : RF 0 o VE c u (fb_Te_size_134 N G u 43 (some v1) v4 v5 v6) (hb_Te_size_134 N G' m v1' v4 v5 v6) := by
  unfold fb_Te_size_134 hb_Te_size_134
  exact (hG1 _ _ _ _ _ _ _ _ R h_v1)
theorem yb_Te_size_128 {N : Nat} {o : Option Nat} {c : Nat → Nat} {m : MS} {u : CS} {G : (CS → Nat → Option Nat → Int32 → Int32 → Int32 → Option (CS × Int32)) × (CS → Nat → Option Nat → Int32 → Int32 → Int32 → Int32 → Int32 → Int32 → Option (CS × Int32))} {G' : (MS → Nat → Int32 → Int32 → Int32 → Option (MS × Int32)) × (MS → Nat → Int32 → Int32 → Int32 → Int32 → Int32 → Int32 → Option (MS × Int32))} (hG1 : ∀ (c : Nat → Nat) (m : MS) (u : CS) (v1 : Nat) (v1' : Nat) (v4 : Int32) (v5 : Int32) (v6 : Int32), RP o c m u → CVn c v1 v1' → RF 0 o VE c u (G.1 u 43 (some v1) v4 v5 v6) (G'.1 m v1' v4 v5 v6)) (hG2 : ∀ (c : Nat → Nat) (m : MS) (u : CS) (v1 : Nat) (v1' : Nat) (v4 : Int32) (v5 : Int32) (v6 : Int32) (v7 : Int32) (v8 : Int32) (v9 : Int32), RP o c m u → CVn c v1 v1' → RF 0 o VE c u (G.2 u 43 (some v1) v4 v5 v6 v7 v8 v9) (G'.2 m v1' v4 v5 v6 v7 v8 v9)) (R : RP o c m u) {v1 : Nat} {v1' : Nat} {v4 : Int32} {v5 : Int32} {v6 : Int32} {v7 : Int32} {v8 : Int32} {v9 : Int32} (h_v1 : CVn c v1 v1') : RF 0 o VE c u (fb_Te_size_128 N G u 43 (some v1) v4 v5 v6 v7 v8 v9) (hb_Te_size_128 N G' m v1' v4 v5 v6 v7 v8 v9) := by
  unfold fb_Te_size_128 hb_Te_size_128
  exact (hG2 _ _ _ _ _ _ _ _ _ _ _ R h_v1)
theorem yb_Te_size_111 {N : Nat} {o : Option Nat} {c : Nat → Nat} {m : MS} {u : CS} {G : (CS → Nat → Option Nat → Int32 → Int32 → Int32 → Option (CS × Int32)) × (CS → Nat → Option Nat → Int32 → Int32 → Int32 → Int32 → Int32 → Int32 → Option (CS × Int32))} {G' : (MS → Nat → Int32 → Int32 → Int32 → Option (MS × Int32)) × (MS → Nat → Int32 → Int32 → Int32 → Int32 → Int32 → Int32 → Option (MS × Int32))} (hG1 : ∀ (c : Nat → Nat) (m : MS) (u : CS) (v1 : Nat) (v1' : Nat) (v4 : Int32) (v5 : Int32) (v6 : Int32), RP o c m u → CVn c v1 v1' → RF 0 o VE c u (G.1 u 43 (some v1) v4 v5 v6) (G'.1 m v1' v4 v5 v6)) (hG2 : ∀ (c : Nat → Nat) (m : MS) (u : CS) (v1 : Nat) (v1' : Nat) (v4 : Int32) (v5 : Int32) (v6 : Int32) (v7 : Int32) (v8 : Int32) (v9 : Int32), RP o c m u → CVn c v1 v1' → RF 0 o VE c u (G.2 u 43 (some v1) v4 v5 v6 v7 v8 v9) (G'.2 m v1' v4 v5 v6 v7 v8 v9)) (R : RP o c m u) {v1 : Nat} {v1' : Nat} {v4 : Int32} {v5 : Int32} {v6 : Int32} {v7 : Int32} {v8 : Int32} {v9 : Int32} (h_v1 : CVn c v1 v1') : RF 0 o VE c u (fb_Te_size_111 N G u 43 (some v1) v4 v5 v6 v7 v8 v9) (hb_Te_size_111 N G' m v1' v4 v5 v6 v7 v8 v9) := by
  unfold fb_Te_size_111 hb_Te_size_111
  refine rf_bo (rx_43_1 R) ?_
  refine rf_so ?_
  refine rf_ai (aq_C R h_v1) ?_
  refine rf_so ?_
  refine rf_wk (sx_45 R) (fun w5' w5 R_w5 => ?_)
  exact (yb_Te_size_128 hG1 hG2 R_w5 h_v1)
theorem yb_Te_size_64 {N : Nat} {o : Option Nat} {c : Nat → Nat} {m : MS} {u : CS} {G : (CS → Nat → Option Nat → Int32 → Int32 → Int32 → Option (CS × Int32)) × (CS → Nat → Option Nat → Int32 → Int32 → Int32 → Int32 → Int32 → Int32 → Option (CS × Int32))} {G' : (MS → Nat → Int32 → Int32 → Int32 → Option (MS × Int32)) × (MS → Nat → Int32 → Int32 → Int32 → Int32 → Int32 → Int32 → Option (MS × Int32))} (hG1 : ∀ (c : Nat → Nat) (m : MS) (u : CS) (v1 : Nat) (v1' : Nat) (v4 : Int32) (v5 : Int32) (v6 : Int32), RP o c m u → CVn c v1 v1' → RF 0 o VE c u (G.1 u 43 (some v1) v4 v5 v6) (G'.1 m v1' v4 v5 v6)) (hG2 : ∀ (c : Nat → Nat) (m : MS) (u : CS) (v1 : Nat) (v1' : Nat) (v4 : Int32) (v5 : Int32) (v6 : Int32) (v7 : Int32) (v8 : Int32) (v9 : Int32), RP o c m u → CVn c v1 v1' → RF 0 o VE c u (G.2 u 43 (some v1) v4 v5 v6 v7 v8 v9) (G'.2 m v1' v4 v5 v6 v7 v8 v9)) (R : RP o c m u) {v1 : Nat} {v1' : Nat} {v4 : Int32} {v5 : Int32} {v6 : Int32} {v7 : Int32} {v8 : Int32} {v9 : Int32} (h_v1 : CVn c v1 v1') : RF 0 o VE c u (fb_Te_size_64 N G u 43 (some v1) v4 v5 v6 v7 v8 v9) (hb_Te_size_64 N G' m v1' v4 v5 v6 v7 v8 v9) := by
  unfold fb_Te_size_64 hb_Te_size_64
  refine rf_br ?_ ?_
  · exact (yb_Te_size_134 hG1 hG2 R h_v1)
  · refine rf_br ?_ ?_
    · exact (yb_Te_size_134 hG1 hG2 R h_v1)
    · refine rf_so ?_
      refine rf_ai (aq_C R h_v1) ?_
      refine rf_lt ?_
      refine rf_br ?_ ?_
      · exact (yb_Te_size_111 hG1 hG2 R h_v1)
      · refine rf_br ?_ ?_
        · exact (yb_Te_size_111 hG1 hG2 R h_v1)
        · refine rf_br ?_ ?_
          · exact (yb_Te_size_111 hG1 hG2 R h_v1)
          · exact (yb_Te_size_128 hG1 hG2 R h_v1)
theorem yb_Te_size_16 {N : Nat} {o : Option Nat} {c : Nat → Nat} {m : MS} {u : CS} {G : (CS → Nat → Option Nat → Int32 → Int32 → Int32 → Option (CS × Int32)) × (CS → Nat → Option Nat → Int32 → Int32 → Int32 → Int32 → Int32 → Int32 → Option (CS × Int32))} {G' : (MS → Nat → Int32 → Int32 → Int32 → Option (MS × Int32)) × (MS → Nat → Int32 → Int32 → Int32 → Int32 → Int32 → Int32 → Option (MS × Int32))} (hG1 : ∀ (c : Nat → Nat) (m : MS) (u : CS) (v1 : Nat) (v1' : Nat) (v4 : Int32) (v5 : Int32) (v6 : Int32), RP o c m u → CVn c v1 v1' → RF 0 o VE c u (G.1 u 43 (some v1) v4 v5 v6) (G'.1 m v1' v4 v5 v6)) (hG2 : ∀ (c : Nat → Nat) (m : MS) (u : CS) (v1 : Nat) (v1' : Nat) (v4 : Int32) (v5 : Int32) (v6 : Int32) (v7 : Int32) (v8 : Int32) (v9 : Int32), RP o c m u → CVn c v1 v1' → RF 0 o VE c u (G.2 u 43 (some v1) v4 v5 v6 v7 v8 v9) (G'.2 m v1' v4 v5 v6 v7 v8 v9)) (R : RP o c m u) {v1 : Nat} {v1' : Nat} {v4 : Int32} {v5 : Int32} {v6 : Int32} (h_v1 : CVn c v1 v1') : RF 0 o VE c u (fb_Te_size_16 N G u 43 (some v1) v4 v5 v6) (hb_Te_size_16 N G' m v1' v4 v5 v6) := by
  unfold fb_Te_size_16 hb_Te_size_16
  refine rf_br ?_ ?_
  · exact (yb_Te_size_140 hG1 hG2 R)
  · refine rf_br ?_ ?_
    · exact (yb_Te_size_140 hG1 hG2 R)
    · refine rf_bo (rx_43_1 R) ?_
      refine rf_so ?_
      refine rf_ai (ax_45 R) ?_
      refine rf_bo (rx_43_1 R) ?_
      refine rf_so ?_
      refine rf_ai (ax_45 R) ?_
      refine rf_bx0 (ym_Te_cellsAt R h_v1) (fun u15' u15 r15 R_u15 => ?_)
      exact (hG2 _ _ _ _ _ _ _ _ _ _ _ R_u15 h_v1)
theorem yb_Te_size_0 {N : Nat} {o : Option Nat} {c : Nat → Nat} {m : MS} {u : CS} {G : (CS → Nat → Option Nat → Int32 → Int32 → Int32 → Option (CS × Int32)) × (CS → Nat → Option Nat → Int32 → Int32 → Int32 → Int32 → Int32 → Int32 → Option (CS × Int32))} {G' : (MS → Nat → Int32 → Int32 → Int32 → Option (MS × Int32)) × (MS → Nat → Int32 → Int32 → Int32 → Int32 → Int32 → Int32 → Option (MS × Int32))} (hG1 : ∀ (c : Nat → Nat) (m : MS) (u : CS) (v1 : Nat) (v1' : Nat) (v4 : Int32) (v5 : Int32) (v6 : Int32), RP o c m u → CVn c v1 v1' → RF 0 o VE c u (G.1 u 43 (some v1) v4 v5 v6) (G'.1 m v1' v4 v5 v6)) (hG2 : ∀ (c : Nat → Nat) (m : MS) (u : CS) (v1 : Nat) (v1' : Nat) (v4 : Int32) (v5 : Int32) (v6 : Int32) (v7 : Int32) (v8 : Int32) (v9 : Int32), RP o c m u → CVn c v1 v1' → RF 0 o VE c u (G.2 u 43 (some v1) v4 v5 v6 v7 v8 v9) (G'.2 m v1' v4 v5 v6 v7 v8 v9)) (R : RP o c m u) {v1 : Nat} {v1' : Nat} {v2 : Int64} (h_v1 : CVn c v1 v1') : RF 0 o VE c u (fb_Te_size_0 N G u 43 (some v1) v2) (hb_Te_size_0 N G' m v1' v2) := by
  unfold fb_Te_size_0 hb_Te_size_0
  refine rf_bo (rx_43_1 R) ?_
  refine rf_so ?_
  refine rf_wk (sx_45 R) (fun w18' w18 R_w18 => ?_)
  exact (hG1 _ _ _ _ _ _ _ _ R_w18 h_v1)
theorem yg_Te_size {N : Nat} {o : Option Nat} : ∀ n, (∀ (c : Nat → Nat) (m : MS) (u : CS) (v1 : Nat) (v1' : Nat) (v4 : Int32) (v5 : Int32) (v6 : Int32), RP o c m u → CVn c v1 v1' → RF 0 o VE c u ((gg_Te_size N n).1 u 43 (some v1) v4 v5 v6) ((hg_Te_size N n).1 m v1' v4 v5 v6)) ∧ (∀ (c : Nat → Nat) (m : MS) (u : CS) (v1 : Nat) (v1' : Nat) (v4 : Int32) (v5 : Int32) (v6 : Int32) (v7 : Int32) (v8 : Int32) (v9 : Int32), RP o c m u → CVn c v1 v1' → RF 0 o VE c u ((gg_Te_size N n).2 u 43 (some v1) v4 v5 v6 v7 v8 v9) ((hg_Te_size N n).2 m v1' v4 v5 v6 v7 v8 v9)) := by
  intro n
  induction n with
  | zero => exact ⟨fun c m u v1 v1' v4 v5 v6 R h_v1 => rf_none, fun c m u v1 v1' v4 v5 v6 v7 v8 v9 R h_v1 => rf_none⟩
  | succ n ih => exact ⟨fun c m u v1 v1' v4 v5 v6 R h_v1 => yb_Te_size_16 (N := N) ih.1 ih.2 R h_v1, fun c m u v1 v1' v4 v5 v6 v7 v8 v9 R h_v1 => yb_Te_size_64 (N := N) ih.1 ih.2 R h_v1⟩
theorem ym_Te_size {N : Nat} {o : Option Nat} {c : Nat → Nat} {m : MS} {u : CS} (R : RP o c m u) {v1 : Nat} {v1' : Nat} {v2 : Int64} (h_v1 : CVn c v1 v1') : RF 0 o VE c u (fm_Te_size N u 43 (some v1) v2) (hm_Te_size N m v1' v2) := yb_Te_size_0 (N := N) (yg_Te_size (N := N) N).1 (yg_Te_size (N := N) N).2 R h_v1
theorem yb_Wl_endsWith_17 {N : Nat} {o : Option Nat} {c : Nat → Nat} {m : MS} {u : CS} (R : RP o c m u) : RF 0 o VE c u (fb_Wl_endsWith_17 N () u) (hb_Wl_endsWith_17 N () m) := by
  unfold fb_Wl_endsWith_17 hb_Wl_endsWith_17
  exact rf_ret R rfl
theorem yb_Wl_endsWith_0 {N : Nat} {o : Option Nat} {c : Nat → Nat} {m : MS} {u : CS} (R : RP o c m u) {v1 : Nat} {v1' : Nat} {v2 : Int64} {v4 : Nat} {v4' : Nat} (h_v1 : PVn c v1 v1') (h_v4 : PVn c v4 v4') : RF 0 o VE c u (fb_Wl_endsWith_0 N () u 47 (some v1) v2 (some v4)) (hb_Wl_endsWith_0 N () m v1' v2 v4') := by
  unfold fb_Wl_endsWith_0 hb_Wl_endsWith_0
  refine rf_so ?_
  refine rf_bo (gq_9 R h_v1) ?_
  refine rf_br ?_ ?_
  · exact (yb_Wl_endsWith_17 R)
  · refine rf_bo (gx_47_15 R) ?_
    refine rf_br ?_ ?_
    · refine rf_so ?_
      refine rf_w (wq_9 R h_v1) (fun w5' w5 R_w5 => ?_)
      refine rf_so ?_
      refine rf_w (lq_16 R_w5 h_v1) (fun w7' w7 R_w7 => ?_)
      refine rf_so ?_
      refine rf_w (RP_qH R_w7 h_v1 (PV_j h_v4)) (fun w9' w9 R_w9 => ?_)
      refine rf_bo (rx_47_14 R_w9) ?_
      refine rf_bo (gx_47_15 R_w9) ?_
      refine rf_so ?_
      refine rf_bo (gI_P0 R_w9 h_v1) ?_
      refine rf_so ?_
      refine rf_wk (sx_54 R_w9) (fun w15' w15 R_w15 => ?_)
      refine rf_bo (gx_47_15 R_w15) ?_
      refine rf_w (px_47_15 R_w15) (fun w17' w17 R_w17 => ?_)
      exact rf_ret R_w17 rfl
    · exact (yb_Wl_endsWith_17 R)
theorem ym_Wl_endsWith {N : Nat} {o : Option Nat} {c : Nat → Nat} {m : MS} {u : CS} (R : RP o c m u) {v1 : Nat} {v1' : Nat} {v2 : Int64} {v4 : Nat} {v4' : Nat} (h_v1 : PVn c v1 v1') (h_v4 : PVn c v4 v4') : RF 0 o VE c u (fm_Wl_endsWith N u 47 (some v1) v2 (some v4)) (hm_Wl_endsWith N m v1' v2 v4') := yb_Wl_endsWith_0 (N := N) R h_v1 h_v4
theorem yb_Wl_endsBy_0 {N : Nat} {o : Option Nat} {c : Nat → Nat} {m : MS} {u : CS} (R : RP o c m u) {v1 : Nat} {v1' : Nat} {v2 : Int32} (h_v1 : PVn c v1 v1') : RF 0 o VE c u (fb_Wl_endsBy_0 N () u 47 (some v1) v2) (hb_Wl_endsBy_0 N () m v1' v2) := by
  unfold fb_Wl_endsBy_0 hb_Wl_endsBy_0
  refine rf_bx0 (ym_Te_make R) (fun u1' u1 r1 R_u1 => ?_)
  refine rf_ck (ox_47 R_u1) ?_
  refine rf_bx0 (ym_Wl_endsWith R_u1 h_v1 h_v1) (fun u2' u2 r2 R_u2 => ?_)
  exact rf_ret R_u2 rfl
theorem ym_Wl_endsBy {N : Nat} {o : Option Nat} {c : Nat → Nat} {m : MS} {u : CS} (R : RP o c m u) {v1 : Nat} {v1' : Nat} {v2 : Int32} (h_v1 : PVn c v1 v1') : RF 0 o VE c u (fm_Wl_endsBy N u 47 (some v1) v2) (hm_Wl_endsBy N m v1' v2) := yb_Wl_endsBy_0 (N := N) R h_v1
theorem yb_Te_push_0 {N : Nat} {o : Option Nat} {c : Nat → Nat} {m : MS} {u : CS} (R : RP o c m u) {v1 : Int32} {v2 : Int64} : RF 0 o VE c u (fb_Te_push_0 N () u 43 v1 v2) (hb_Te_push_0 N () m v1 v2) := by
  unfold fb_Te_push_0 hb_Te_push_0
  refine rf_br ?_ ?_
  · refine rf_bo (rx_43_1 R) ?_
    refine rf_so ?_
    refine rf_wk (sx_45 R) (fun w3' w3 R_w3 => ?_)
    exact rf_ret R_w3 rfl
  · exact rf_ret R rfl
theorem ym_Te_push {N : Nat} {o : Option Nat} {c : Nat → Nat} {m : MS} {u : CS} (R : RP o c m u) {v1 : Int32} {v2 : Int64} : RF 0 o VE c u (fm_Te_push N u 43 v1 v2) (hm_Te_push N m v1 v2) := yb_Te_push_0 (N := N) R
theorem yb_Te_toWriteTuple_60 {N : Nat} {o : Option Nat} {c : Nat → Nat} {m : MS} {u : CS} {G : (CS → Nat → Option Nat → Int32 → Int32 → Int32 → Option (CS × Int32))} {G' : (MS → Nat → Int32 → Int32 → Int32 → Option (MS × Int32))} (hG : ∀ (c : Nat → Nat) (m : MS) (u : CS) (v1 : Nat) (v1' : Nat) (v2 : Int32) (v4 : Int32) (v5 : Int32), RP o c m u → CVn c v1 v1' → RF 0 o VE c u (G u 43 (some v1) v2 v4 v5) (G' m v1' v2 v4 v5)) (R : RP o c m u) {v1 : Nat} {v1' : Nat} {v2 : Int32} {v4 : Int32} {v5 : Int32} (h_v1 : CVn c v1 v1') : RF 0 o VE c u (fb_Te_toWriteTuple_60 N G u 43 (some v1) v2 v4 v5) (hb_Te_toWriteTuple_60 N G' m v1' v2 v4 v5) := by
  unfold fb_Te_toWriteTuple_60 hb_Te_toWriteTuple_60
  exact (hG _ _ _ _ _ _ _ _ R h_v1)
theorem yb_Te_toWriteTuple_20 {N : Nat} {o : Option Nat} {c : Nat → Nat} {m : MS} {u : CS} {G : (CS → Nat → Option Nat → Int32 → Int32 → Int32 → Option (CS × Int32))} {G' : (MS → Nat → Int32 → Int32 → Int32 → Option (MS × Int32))} (hG : ∀ (c : Nat → Nat) (m : MS) (u : CS) (v1 : Nat) (v1' : Nat) (v2 : Int32) (v4 : Int32) (v5 : Int32), RP o c m u → CVn c v1 v1' → RF 0 o VE c u (G u 43 (some v1) v2 v4 v5) (G' m v1' v2 v4 v5)) (R : RP o c m u) {v1 : Nat} {v1' : Nat} {v2 : Int32} {v4 : Int32} {v5 : Int32} (h_v1 : CVn c v1 v1') : RF 0 o VE c u (fb_Te_toWriteTuple_20 N G u 43 (some v1) v2 v4 v5) (hb_Te_toWriteTuple_20 N G' m v1' v2 v4 v5) := by
  unfold fb_Te_toWriteTuple_20 hb_Te_toWriteTuple_20
  refine rf_br ?_ ?_
  · exact rf_ret R rfl
  · refine rf_so ?_
    refine rf_ai (aq_C R h_v1) ?_
    refine rf_ck (ox_43 R) ?_
    refine rf_bx0 (ym_Te_push R) (fun u3' u3 r3 R_u3 => ?_)
    refine rf_br ?_ ?_
    · exact (yb_Te_toWriteTuple_60 hG R_u3 h_v1)
    · refine rf_bx0 (ym_Te_make R_u3) (fun u4' u4 r4 R_u4 => ?_)
      refine rf_ck (ox_43 R_u4) ?_
      refine rf_bx0 (ym_Te_push R_u4) (fun u5' u5 r5 R_u5 => ?_)
      exact (yb_Te_toWriteTuple_60 hG R_u5 h_v1)
theorem yb_Te_toWriteTuple_0 {N : Nat} {o : Option Nat} {c : Nat → Nat} {m : MS} {u : CS} {G : (CS → Nat → Option Nat → Int32 → Int32 → Int32 → Option (CS × Int32))} {G' : (MS → Nat → Int32 → Int32 → Int32 → Option (MS × Int32))} (hG : ∀ (c : Nat → Nat) (m : MS) (u : CS) (v1 : Nat) (v1' : Nat) (v2 : Int32) (v4 : Int32) (v5 : Int32), RP o c m u → CVn c v1 v1' → RF 0 o VE c u (G u 43 (some v1) v2 v4 v5) (G' m v1' v2 v4 v5)) (R : RP o c m u) {v1 : Nat} {v1' : Nat} {v2 : Int32} {v3 : Int32} (h_v1 : CVn c v1 v1') : RF 0 o VE c u (fb_Te_toWriteTuple_0 N G u 43 (some v1) v2 v3) (hb_Te_toWriteTuple_0 N G' m v1' v2 v3) := by
  unfold fb_Te_toWriteTuple_0 hb_Te_toWriteTuple_0
  refine rf_bx0 (ym_Te_make R) (fun u6' u6 r6 R_u6 => ?_)
  refine rf_ck (ox_43 R_u6) ?_
  refine rf_bx0 (ym_Te_push R_u6) (fun u7' u7 r7 R_u7 => ?_)
  refine rf_so ?_
  refine rf_ai (aq_C R_u7 h_v1) ?_
  exact (hG _ _ _ _ _ _ _ _ R_u7 h_v1)
theorem yg_Te_toWriteTuple {N : Nat} {o : Option Nat} : ∀ n, (∀ (c : Nat → Nat) (m : MS) (u : CS) (v1 : Nat) (v1' : Nat) (v2 : Int32) (v4 : Int32) (v5 : Int32), RP o c m u → CVn c v1 v1' → RF 0 o VE c u ((gg_Te_toWriteTuple N n) u 43 (some v1) v2 v4 v5) ((hg_Te_toWriteTuple N n) m v1' v2 v4 v5)) := by
  intro n
  induction n with
  | zero => exact fun c m u v1 v1' v2 v4 v5 R h_v1 => rf_none
  | succ n ih => exact fun c m u v1 v1' v2 v4 v5 R h_v1 => yb_Te_toWriteTuple_20 (N := N) ih R h_v1
theorem ym_Te_toWriteTuple {N : Nat} {o : Option Nat} {c : Nat → Nat} {m : MS} {u : CS} (R : RP o c m u) {v1 : Nat} {v1' : Nat} {v2 : Int32} {v3 : Int32} (h_v1 : CVn c v1 v1') : RF 0 o VE c u (fm_Te_toWriteTuple N u 43 (some v1) v2 v3) (hm_Te_toWriteTuple N m v1' v2 v3) := yb_Te_toWriteTuple_0 (N := N) (yg_Te_toWriteTuple (N := N) N) R h_v1
theorem yb_Te_toWritePair_0 {N : Nat} {o : Option Nat} {c : Nat → Nat} {m : MS} {u : CS} (R : RP o c m u) {v1 : Nat} {v1' : Nat} {v2 : Int32} {v3 : Int32} (h_v1 : CVn c v1 v1') : RF 0 o VE c u (fb_Te_toWritePair_0 N () u 43 (some v1) v2 v3) (hb_Te_toWritePair_0 N () m v1' v2 v3) := by
  unfold fb_Te_toWritePair_0 hb_Te_toWritePair_0
  refine rf_so ?_
  refine rf_ai (aq_C R h_v1) ?_
  refine rf_ck (ox_43 R) ?_
  refine rf_bx0 (ym_Te_push R) (fun u3' u3 r3 R_u3 => ?_)
  refine rf_bx0 (ym_Te_make R_u3) (fun u4' u4 r4 R_u4 => ?_)
  refine rf_ck (ox_43 R_u4) ?_
  refine rf_bx0 (ym_Te_push R_u4) (fun u5' u5 r5 R_u5 => ?_)
  refine rf_so ?_
  refine rf_ai (aq_C R_u5 h_v1) ?_
  refine rf_ck (ox_43 R_u5) ?_
  refine rf_bx0 (ym_Te_push R_u5) (fun u8' u8 r8 R_u8 => ?_)
  exact rf_ret R_u8 rfl
theorem ym_Te_toWritePair {N : Nat} {o : Option Nat} {c : Nat → Nat} {m : MS} {u : CS} (R : RP o c m u) {v1 : Nat} {v1' : Nat} {v2 : Int32} {v3 : Int32} (h_v1 : CVn c v1 v1') : RF 0 o VE c u (fm_Te_toWritePair N u 43 (some v1) v2 v3) (hm_Te_toWritePair N m v1' v2 v3) := yb_Te_toWritePair_0 (N := N) R h_v1
theorem yb_Wo_length_31 {N : Nat} {o : Option Nat} {c : Nat → Nat} {m : MS} {u : CS} (R : RP o c m u) {t0 : Int32} : RF 0 o VE c u (fb_Wo_length_31 N () u t0) (hb_Wo_length_31 N () m t0) := by
  unfold fb_Wo_length_31 hb_Wo_length_31
  exact rf_ret R rfl
theorem yb_Wo_length_12 {N : Nat} {o : Option Nat} {c : Nat → Nat} {m : MS} {u : CS} (R : RP o c m u) : RF 0 o VE c u (fb_Wo_length_12 N () u) (hb_Wo_length_12 N () m) := by
  unfold fb_Wo_length_12 hb_Wo_length_12
  exact (yb_Wo_length_31 R)
theorem yb_Wo_length_0 {N : Nat} {o : Option Nat} {c : Nat → Nat} {m : MS} {u : CS} (R : RP o c m u) {v0 : Nat} {v1 : Int32} (h_v0 : isWd v0) : RF 0 o VE c u (fb_Wo_length_0 N () u v0 v1) (hb_Wo_length_0 N () m v0 v1) := by
  unfold fb_Wo_length_0 hb_Wo_length_0
  refine rf_br ?_ ?_
  · exact (yb_Wo_length_12 R)
  · refine rf_bo (gi_W2 R h_v0) ?_
    refine rf_br ?_ ?_
    · refine rf_bo (gr_W1 R h_v0) ?_
      refine rf_so ?_
      refine rf_ai (ai_W R h_v0) ?_
      refine rf_bo (gr_W1 R h_v0) ?_
      refine rf_so ?_
      refine rf_ai (ai_W R h_v0) ?_
      exact (yb_Wo_length_31 R)
    · exact (yb_Wo_length_12 R)
theorem ym_Wo_length {N : Nat} {o : Option Nat} {c : Nat → Nat} {m : MS} {u : CS} (R : RP o c m u) {v0 : Nat} {v1 : Int32} (h_v0 : isWd v0) : RF 0 o VE c u (fm_Wo_length N u v0 v1) (hm_Wo_length N m v0 v1) := yb_Wo_length_0 (N := N) R h_v0
theorem yb_Ma_truth_9 {N : Nat} {o : Option Nat} {c : Nat → Nat} {m : MS} {u : CS} (R : RP o c m u) {t0 : Int32} : RF 0 o VE c u (fb_Ma_truth_9 N () u t0) (hb_Ma_truth_9 N () m t0) := by
  unfold fb_Ma_truth_9 hb_Ma_truth_9
  refine rf_bx0 (ym_Ma_atom R) (fun u1' u1 r1 R_u1 => ?_)
  exact rf_ret R_u1 rfl
theorem yb_Ma_truth_0 {N : Nat} {o : Option Nat} {c : Nat → Nat} {m : MS} {u : CS} (R : RP o c m u) {v0 : Int32} : RF 0 o VE c u (fb_Ma_truth_0 N () u v0) (hb_Ma_truth_0 N () m v0) := by
  unfold fb_Ma_truth_0 hb_Ma_truth_0
  refine rf_br ?_ ?_
  · exact (yb_Ma_truth_9 R)
  · exact (yb_Ma_truth_9 R)
theorem ym_Ma_truth {N : Nat} {o : Option Nat} {c : Nat → Nat} {m : MS} {u : CS} (R : RP o c m u) {v0 : Int32} : RF 0 o VE c u (fm_Ma_truth N u v0) (hm_Ma_truth N m v0) := yb_Ma_truth_0 (N := N) R
theorem yb_Te_listLength_54 {N : Nat} {o : Option Nat} {c : Nat → Nat} {m : MS} {u : CS} {G : (CS → Option Nat → Int64 → Int32 → Option (CS × Int32))} {G' : (MS → Nat → Int64 → Int32 → Option (MS × Int32))} (hG : ∀ (c : Nat → Nat) (m : MS) (u : CS) (v1 : Nat) (v1' : Nat) (v4 : Int64) (v6 : Int32), RP o c m u → CVn c v1 v1' → RF 0 o VE c u (G u (some v1) v4 v6) (G' m v1' v4 v6)) (R : RP o c m u) {t0 : Int32} : RF 0 o VE c u (fb_Te_listLength_54 N G u t0) (hb_Te_listLength_54 N G' m t0) := by
  unfold fb_Te_listLength_54 hb_Te_listLength_54
  exact rf_ret R rfl
theorem yb_Te_listLength_38 {N : Nat} {o : Option Nat} {c : Nat → Nat} {m : MS} {u : CS} {G : (CS → Option Nat → Int64 → Int32 → Option (CS × Int32))} {G' : (MS → Nat → Int64 → Int32 → Option (MS × Int32))} (hG : ∀ (c : Nat → Nat) (m : MS) (u : CS) (v1 : Nat) (v1' : Nat) (v4 : Int64) (v6 : Int32), RP o c m u → CVn c v1 v1' → RF 0 o VE c u (G u (some v1) v4 v6) (G' m v1' v4 v6)) (R : RP o c m u) {v4 : Int64} {v6 : Int32} : RF 0 o VE c u (fb_Te_listLength_38 N G u v4 v6) (hb_Te_listLength_38 N G' m v4 v6) := by
  unfold fb_Te_listLength_38 hb_Te_listLength_38
  refine rf_bx0 (ym_Te_tag R) (fun u1' u1 r1 R_u1 => ?_)
  refine rf_br ?_ ?_
  · exact (yb_Te_listLength_54 hG R_u1)
  · exact (yb_Te_listLength_54 hG R_u1)
theorem yb_Te_listLength_6 {N : Nat} {o : Option Nat} {c : Nat → Nat} {m : MS} {u : CS} {G : (CS → Option Nat → Int64 → Int32 → Option (CS × Int32))} {G' : (MS → Nat → Int64 → Int32 → Option (MS × Int32))} (hG : ∀ (c : Nat → Nat) (m : MS) (u : CS) (v1 : Nat) (v1' : Nat) (v4 : Int64) (v6 : Int32), RP o c m u → CVn c v1 v1' → RF 0 o VE c u (G u (some v1) v4 v6) (G' m v1' v4 v6)) (R : RP o c m u) {v1 : Nat} {v1' : Nat} {v4 : Int64} {v6 : Int32} (h_v1 : CVn c v1 v1') : RF 0 o VE c u (fb_Te_listLength_6 N G u (some v1) v4 v6) (hb_Te_listLength_6 N G' m v1' v4 v6) := by
  unfold fb_Te_listLength_6 hb_Te_listLength_6
  refine rf_br ?_ ?_
  · exact (yb_Te_listLength_38 hG R)
  · refine rf_bx0 (ym_Te_tag R) (fun u2' u2 r2 R_u2 => ?_)
    refine rf_br ?_ ?_
    · refine rf_so ?_
      refine rf_ai (aq_C R_u2 h_v1) ?_
      exact (hG _ _ _ _ _ _ _ R_u2 h_v1)
    · exact (yb_Te_listLength_38 hG R_u2)
theorem yb_Te_listLength_0 {N : Nat} {o : Option Nat} {c : Nat → Nat} {m : MS} {u : CS} {G : (CS → Option Nat → Int64 → Int32 → Option (CS × Int32))} {G' : (MS → Nat → Int64 → Int32 → Option (MS × Int32))} (hG : ∀ (c : Nat → Nat) (m : MS) (u : CS) (v1 : Nat) (v1' : Nat) (v4 : Int64) (v6 : Int32), RP o c m u → CVn c v1 v1' → RF 0 o VE c u (G u (some v1) v4 v6) (G' m v1' v4 v6)) (R : RP o c m u) {v1 : Nat} {v1' : Nat} {v2 : Int64} (h_v1 : CVn c v1 v1') : RF 0 o VE c u (fb_Te_listLength_0 N G u (some v1) v2) (hb_Te_listLength_0 N G' m v1' v2) := by
  unfold fb_Te_listLength_0 hb_Te_listLength_0
  exact (hG _ _ _ _ _ _ _ R h_v1)
theorem yg_Te_listLength {N : Nat} {o : Option Nat} : ∀ n, (∀ (c : Nat → Nat) (m : MS) (u : CS) (v1 : Nat) (v1' : Nat) (v4 : Int64) (v6 : Int32), RP o c m u → CVn c v1 v1' → RF 0 o VE c u ((gg_Te_listLength N n) u (some v1) v4 v6) ((hg_Te_listLength N n) m v1' v4 v6)) := by
  intro n
  induction n with
  | zero => exact fun c m u v1 v1' v4 v6 R h_v1 => rf_none
  | succ n ih => exact fun c m u v1 v1' v4 v6 R h_v1 => yb_Te_listLength_6 (N := N) ih R h_v1
theorem ym_Te_listLength {N : Nat} {o : Option Nat} {c : Nat → Nat} {m : MS} {u : CS} (R : RP o c m u) {v1 : Nat} {v1' : Nat} {v2 : Int64} (h_v1 : CVn c v1 v1') : RF 0 o VE c u (fm_Te_listLength N u 43 (some v1) v2) (hm_Te_listLength N m v1' v2) := yb_Te_listLength_0 (N := N) (yg_Te_listLength (N := N) N) R h_v1
