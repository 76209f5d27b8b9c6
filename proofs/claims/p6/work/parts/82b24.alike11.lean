set_option maxRecDepth 100000
theorem yb_H_go_81 {N : Nat} {c : Nat → Nat} {m : MS} {u : CS} (R : RP none c m u) {v2 : Int32} {v3 : Nat} {v3' : Nat} (h_v3 : PVn c v3 v3') : RF 2 none VE c u (fb_H_go_81 N () u 0 v2 (some v3)) (hb_H_go_81 N () m v2 v3') := by
  unfold fb_H_go_81 hb_H_go_81
  refine rf_bo (rx_0_7 R) ?_
  refine rf_so ?_
  refine rf_ck (ox_55 R) ?_
  refine rf_ck (all2 (okR_s R (by decide)) (okR_P R h_v3)) ?_
  refine rf_bx (rf_gw (ym_Ma_goOn R h_v3)) (by unfold zle; omega) (fun c_u2 u2' u2 r2 r2' R_u2 E_u2 v_u2 => ?_)
  cases v_u2
  refine rf_gw ?_
  exact rf_ret R_u2 rfl
theorem yb_H_go_71 {N : Nat} {c : Nat → Nat} {m : MS} {u : CS} (R : RP none c m u) : RF 2 none VE c u (fb_H_go_71 N () u) (hb_H_go_71 N () m) := by
  unfold fb_H_go_71 hb_H_go_71
  exact rf_ret R rfl
theorem yb_H_go_11 {N : Nat} {c : Nat → Nat} {m : MS} {u : CS} (R : RP none c m u) : RF 2 none VE c u (fb_H_go_11 N () u) (hb_H_go_11 N () m) := by
  unfold fb_H_go_11 hb_H_go_11
  exact rf_ret R rfl
theorem yb_H_go_0 {N : Nat} {c : Nat → Nat} {m : MS} {u : CS} (R : RP none c m u) {v1 : Int32} {v2 : Int32} : RF 2 none VE c u (fb_H_go_0 N () u 0 v1 v2) (hb_H_go_0 N () m v1 v2) := by
  unfold fb_H_go_0 hb_H_go_0
  refine rf_br ?_ ?_
  · exact (yb_H_go_11 R)
  · refine rf_br ?_ ?_
    · refine rf_bo (rx_0_6 R) ?_
      refine rf_so ?_
      refine rf_ck (ox_47 R) ?_
      refine rf_bxP (rf_gz (ym_Wl_find R) (by omega)) (fun u5' u5 r5 r5' R_u5 h_r5 => ?_)
      refine rf_gw ?_
      refine rf_br2 (PV_n h_r5) ?_ ?_
      · exact rf_ret R_u5 rfl
      · refine rf_boQ h_r5 (fun j7 j7' e1_j7 e2_j7 h_j7 => ?_)
        subst e1_j7
        refine rf_so ?_
        refine rf_bo (gq_9 R_u5 h_j7) ?_
        refine rf_br ?_ ?_
        · exact (yb_H_go_71 R_u5)
        · refine rf_so ?_
          refine rf_bo (gq_9 R_u5 h_j7) ?_
          refine rf_br ?_ ?_
          · refine rf_bo (rx_0_6 R_u5) ?_
            refine rf_so ?_
            refine rf_ck (ox_47 R_u5) ?_
            refine rf_bx0 (rf_gz (ym_Wl_isReady R_u5 h_j7) (by omega)) (fun u12' u12 r12 R_u12 => ?_)
            refine rf_gw ?_
            refine rf_br ?_ ?_
            · exact (yb_H_go_71 R_u12)
            · exact (yb_H_go_81 R_u12 h_j7)
          · exact (yb_H_go_81 R_u5 h_j7)
    · exact (yb_H_go_11 R)
theorem ym_H_go {N : Nat} {c : Nat → Nat} {m : MS} {u : CS} (R : RP none c m u) {v1 : Int32} {v2 : Int32} : RF 2 none VE c u (fm_H_go N u 0 v1 v2) (hm_H_go N m v1 v2) := yb_H_go_0 (N := N) R
theorem yb_H_clock_24 {N : Nat} {c : Nat → Nat} {m : MS} {u : CS} (R : RP none c m u) : RF 0 none VE c u (fb_H_clock_24 N () u) (hb_H_clock_24 N () m) := by
  unfold fb_H_clock_24 hb_H_clock_24
  exact rf_ret R rfl
theorem yb_H_clock_0 {N : Nat} {c : Nat → Nat} {m : MS} {u : CS} (R : RP none c m u) {v1 : Int32} : RF 0 none VE c u (fb_H_clock_0 N () u 0 v1) (hb_H_clock_0 N () m v1) := by
  unfold fb_H_clock_0 hb_H_clock_0
  refine rf_br ?_ ?_
  · exact (yb_H_clock_24 R)
  · refine rf_br ?_ ?_
    · exact (yb_H_clock_24 R)
    · refine rf_bo (rx_0_6 R) ?_
      refine rf_so ?_
      refine rf_bo (gx_47_4 R) ?_
      refine rf_br ?_ ?_
      · refine rf_bo (rx_0_6 R) ?_
        refine rf_so ?_
        refine rf_bo (gx_47_3 R) ?_
        refine rf_br ?_ ?_
        · exact rf_ret R rfl
        · refine rf_bo (rx_0_6 R) ?_
          refine rf_so ?_
          refine rf_bo (gx_47_4 R) ?_
          refine rf_w (px_47_4 R) (fun w10' w10 R_w10 => ?_)
          refine rf_bo (rx_0_6 R_w10) ?_
          refine rf_so ?_
          refine rf_bo (gx_47_4 R_w10) ?_
          exact rf_ret R_w10 rfl
      · exact (yb_H_clock_24 R)
theorem ym_H_clock {N : Nat} {c : Nat → Nat} {m : MS} {u : CS} (R : RP none c m u) {v1 : Int32} : RF 0 none VE c u (fm_H_clock N u 0 v1) (hm_H_clock N m v1) := yb_H_clock_0 (N := N) R
theorem yb_Wl_postPair_17 {N : Nat} {o : Option Nat} {c : Nat → Nat} {m : MS} {u : CS} (R : RP o c m u) : RF 3 o VE c u (fb_Wl_postPair_17 N () u) (hb_Wl_postPair_17 N () m) := by
  unfold fb_Wl_postPair_17 hb_Wl_postPair_17
  exact rf_ret R rfl
theorem yb_Wl_postPair_0 {N : Nat} {o : Option Nat} {c : Nat → Nat} {m : MS} {u : CS} (R : RP o c m u) {v1 : Nat} {v1' : Nat} {v2 : Int32} (h_v1 : PVn c v1 v1') : RF 3 o VE c u (fb_Wl_postPair_0 N () u 47 (some v1) v2) (hb_Wl_postPair_0 N () m v1' v2) := by
  unfold fb_Wl_postPair_0 hb_Wl_postPair_0
  refine rf_so ?_
  refine rf_bo (gq_9 R h_v1) ?_
  refine rf_br ?_ ?_
  · exact (yb_Wl_postPair_17 R)
  · refine rf_so ?_
    refine rf_bo (gq_7 R h_v1) ?_
    refine rf_br ?_ ?_
    · refine rf_so ?_
      refine rf_ck (io_P R h_v1) ?_
      refine rf_bx (ym_Pr_want R h_v1) (by unfold zle; omega) (fun c_u5 u5' u5 r5 r5' R_u5 E_u5 v_u5 => ?_)
      cases v_u5
      replace h_v1 := E_u5.P h_v1
      refine rf_br ?_ ?_
      · refine rf_ck (ox_47 R_u5) ?_
        refine rf_bx0 (ym_Wl_endsBy R_u5 h_v1) (fun u32' u32 r32 R_u32 => ?_)
        exact rf_ret R_u32 rfl
      · refine rf_so ?_
        refine rf_bo (gq_4 R_u5 h_v1) ?_
        refine rf_so ?_
        refine rf_bo (gR_P2 R_u5 h_v1) ?_
        refine rf_bx0 (ym_Te_make R_u5) (fun u11' u11 r11 R_u11 => ?_)
        refine rf_so ?_
        refine rf_wk (sq_2 R_u11 h_v1.1) (fun w13' w13 R_w13 => ?_)
        refine rf_so ?_
        refine rf_bo (gR_P2 R_w13 h_v1) ?_
        refine rf_bx0 (ym_Te_make R_w13) (fun u16' u16 r16 R_u16 => ?_)
        refine rf_so ?_
        refine rf_wk (sq_2 R_u16 h_v1.1) (fun w18' w18 R_w18 => ?_)
        refine rf_so ?_
        refine rf_bo (gR_P2 R_w18 h_v1) ?_
        refine rf_so ?_
        refine rf_bo (gI_P0 R_w18 h_v1) ?_
        refine rf_bx0 (ym_Te_make R_w18) (fun u23' u23 r23 R_u23 => ?_)
        refine rf_so ?_
        refine rf_wk (sq_2 R_u23 h_v1.1) (fun w25' w25 R_w25 => ?_)
        refine rf_so ?_
        refine rf_bo (gq_4 R_w25 h_v1) ?_
        refine rf_w (wq_4 R_w25 h_v1) (fun w28' w28 R_w28 => ?_)
        refine rf_bx0 (ym_Te_make R_w28) (fun u29' u29 r29 R_u29 => ?_)
        refine rf_so ?_
        refine rf_ck (io_P R_u29 h_v1) ?_
        refine rf_bx0 (ym_Pr_comes R_u29 h_v1) (fun u30' u30 r30 R_u30 => ?_)
        exact rf_ret R_u30 rfl
    · exact (yb_Wl_postPair_17 R)
theorem ym_Wl_postPair {N : Nat} {o : Option Nat} {c : Nat → Nat} {m : MS} {u : CS} (R : RP o c m u) {v1 : Nat} {v1' : Nat} {v2 : Int32} (h_v1 : PVn c v1 v1') : RF 3 o VE c u (fm_Wl_postPair N u 47 (some v1) v2) (hm_Wl_postPair N m v1' v2) := yb_Wl_postPair_0 (N := N) R h_v1
theorem yb_H_send_112 {N : Nat} {c : Nat → Nat} {m : MS} {u : CS} (R : RP none c m u) : RF 3 none VE c u (fb_H_send_112 N () u 0) (hb_H_send_112 N () m) := by
  unfold fb_H_send_112 hb_H_send_112
  refine rf_bo (rx_0_6 R) ?_
  refine rf_so ?_
  refine rf_ck (ox_47 R) ?_
  refine rf_bx (ym_Wl_settle R) (by unfold zle; omega) (fun c_u2 u2' u2 r2 r2' R_u2 E_u2 v_u2 => ?_)
  cases v_u2
  exact rf_ret R_u2 rfl
theorem yb_H_send_91 {N : Nat} {c : Nat → Nat} {m : MS} {u : CS} (R : RP none c m u) {v3 : Int32} {v4 : Option Nat} {v4' : Option Nat} {t0 : Int32} (h_v4 : PVo c v4 v4') : RF 3 none VE c u (fb_H_send_91 N () u 0 v3 v4 t0) (hb_H_send_91 N () m v3 v4' t0) := by
  unfold fb_H_send_91 hb_H_send_91
  refine rf_bo (rx_0_6 R) ?_
  refine rf_bx0 (ym_Te_make R) (fun u5' u5 r5 R_u5 => ?_)
  refine rf_so ?_
  refine rf_ck (ox_47 R_u5) ?_
  refine rf_opt h_v4 (fun v4_j v4_q e1_v4 e2_v4 h_v4j => ?_)
  subst e1_v4
  refine rf_bx (ym_Wl_post R_u5 h_v4j PV_0) (by unfold zle; omega) (fun c_u6 u6' u6 r6 r6' R_u6 E_u6 v_u6 => ?_)
  cases v_u6
  exact (yb_H_send_112 R_u6)
theorem yb_H_send_54 {N : Nat} {c : Nat → Nat} {m : MS} {u : CS} (R : RP none c m u) : RF 3 none VE c u (fb_H_send_54 N () u) (hb_H_send_54 N () m) := by
  unfold fb_H_send_54 hb_H_send_54
  exact rf_ret R rfl
theorem yb_H_send_45 {N : Nat} {c : Nat → Nat} {m : MS} {u : CS} (R : RP none c m u) {v2 : Int32} {v3 : Int32} {v4 : Option Nat} {v4' : Option Nat} (h_v4 : PVo c v4 v4') : RF 3 none VE c u (fb_H_send_45 N () u 0 v2 v3 v4) (hb_H_send_45 N () m v2 v3 v4') := by
  unfold fb_H_send_45 hb_H_send_45
  refine rf_br ?_ ?_
  · exact (yb_H_send_54 R)
  · refine rf_br ?_ ?_
    · refine rf_br ?_ ?_
      · refine rf_bo (rx_0_6 R) ?_
        refine rf_so ?_
        refine rf_ck (ox_47 R) ?_
        refine rf_opt h_v4 (fun v4_j v4_q e1_v4 e2_v4 h_v4j => ?_)
        subst e1_v4
        refine rf_bx (ym_Wl_postPair R h_v4j) (by unfold zle; omega) (fun c_u9 u9' u9 r9 r9' R_u9 E_u9 v_u9 => ?_)
        cases v_u9
        exact (yb_H_send_112 R_u9)
      · refine rf_br ?_ ?_
        · exact (yb_H_send_91 R h_v4)
        · exact (yb_H_send_91 R h_v4)
    · exact (yb_H_send_54 R)
theorem yb_H_send_35 {N : Nat} {c : Nat → Nat} {m : MS} {u : CS} (R : RP none c m u) : RF 3 none VE c u (fb_H_send_35 N () u) (hb_H_send_35 N () m) := by
  unfold fb_H_send_35 hb_H_send_35
  exact rf_ret R rfl
theorem yb_H_send_0 {N : Nat} {c : Nat → Nat} {m : MS} {u : CS} (R : RP none c m u) {v1 : Int32} {v2 : Int32} {v3 : Int32} : RF 3 none VE c u (fb_H_send_0 N () u 0 v1 v2 v3) (hb_H_send_0 N () m v1 v2 v3) := by
  unfold fb_H_send_0 hb_H_send_0
  refine rf_bo (rx_0_6 R) ?_
  refine rf_so ?_
  refine rf_ck (ox_47 R) ?_
  refine rf_bxP (ym_Wl_find R) (fun u12' u12 r12 r12' R_u12 h_r12 => ?_)
  refine rf_br2 (PV_n h_r12) ?_ ?_
  · exact (yb_H_send_35 R_u12)
  · refine rf_br ?_ ?_
    · refine rf_br ?_ ?_
      · exact (yb_H_send_35 R_u12)
      · refine rf_bo (rx_0_0 R_u12) ?_
        refine rf_so ?_
        refine rf_bo (gx_1_2 R_u12) ?_
        refine rf_br ?_ ?_
        · exact (yb_H_send_45 R_u12 h_r12)
        · exact (yb_H_send_35 R_u12)
    · exact (yb_H_send_45 R_u12 h_r12)
theorem ym_H_send {N : Nat} {c : Nat → Nat} {m : MS} {u : CS} (R : RP none c m u) {v1 : Int32} {v2 : Int32} {v3 : Int32} : RF 3 none VE c u (fm_H_send N u 0 v1 v2 v3) (hm_H_send N m v1 v2 v3) := yb_H_send_0 (N := N) R
theorem yb_Pr_wakes_26 {N : Nat} {o : Option Nat} {c : Nat → Nat} {m : MS} {u : CS} (R : RP o c m u) {t0 : Int32} : RF 0 o VE c u (fb_Pr_wakes_26 N () u t0) (hb_Pr_wakes_26 N () m t0) := by
  unfold fb_Pr_wakes_26 hb_Pr_wakes_26
  exact rf_ret R rfl
theorem yb_Pr_wakes_0 {N : Nat} {o : Option Nat} {c : Nat → Nat} {m : MS} {u : CS} (R : RP o c m u) {v0 : Nat} {v0' : Nat} (h_v0 : PVn c v0 v0') : RF 0 o VE c u (fb_Pr_wakes_0 N () u v0) (hb_Pr_wakes_0 N () m v0') := by
  unfold fb_Pr_wakes_0 hb_Pr_wakes_0
  refine rf_bo (gJ_P10 R h_v0) ?_
  refine rf_br ?_ ?_
  · exact (yb_Pr_wakes_26 R)
  · refine rf_bo (gJ_P10 R h_v0) ?_
    refine rf_lt ?_
    exact (yb_Pr_wakes_26 R)
theorem ym_Pr_wakes {N : Nat} {o : Option Nat} {c : Nat → Nat} {m : MS} {u : CS} (R : RP o c m u) {v0 : Nat} {v0' : Nat} (h_v0 : PVn c v0 v0') : RF 0 o VE c u (fm_Pr_wakes N u v0) (hm_Pr_wakes N m v0') := yb_Pr_wakes_0 (N := N) R h_v0
theorem yb_H_process_269 {N : Nat} {c : Nat → Nat} {m : MS} {u : CS} (R : RP none c m u) {t0 : Int32} : RF 0 none VE c u (fb_H_process_269 N () u t0) (hb_H_process_269 N () m t0) := by
  unfold fb_H_process_269 hb_H_process_269
  exact rf_ret R rfl
theorem yb_H_process_252 {N : Nat} {c : Nat → Nat} {m : MS} {u : CS} (R : RP none c m u) {t0 : Int32} : RF 0 none VE c u (fb_H_process_252 N () u t0) (hb_H_process_252 N () m t0) := by
  unfold fb_H_process_252 hb_H_process_252
  exact rf_ret R rfl
theorem yb_H_process_233 {N : Nat} {c : Nat → Nat} {m : MS} {u : CS} (R : RP none c m u) {t0 : Int32} : RF 0 none VE c u (fb_H_process_233 N () u t0) (hb_H_process_233 N () m t0) := by
  unfold fb_H_process_233 hb_H_process_233
  exact rf_ret R rfl
theorem yb_H_process_219 {N : Nat} {c : Nat → Nat} {m : MS} {u : CS} (R : RP none c m u) {t0 : Int32} : RF 0 none VE c u (fb_H_process_219 N () u t0) (hb_H_process_219 N () m t0) := by
  unfold fb_H_process_219 hb_H_process_219
  exact rf_ret R rfl
theorem yb_H_process_218 {N : Nat} {c : Nat → Nat} {m : MS} {u : CS} (R : RP none c m u) : RF 0 none VE c u (fb_H_process_218 N () u) (hb_H_process_218 N () m) := by
  unfold fb_H_process_218 hb_H_process_218
  exact (yb_H_process_219 R)
theorem yb_H_process_201 {N : Nat} {c : Nat → Nat} {m : MS} {u : CS} (R : RP none c m u) {t0 : Int32} : RF 0 none VE c u (fb_H_process_201 N () u t0) (hb_H_process_201 N () m t0) := by
  unfold fb_H_process_201 hb_H_process_201
  exact rf_ret R rfl
theorem yb_H_process_183 {N : Nat} {c : Nat → Nat} {m : MS} {u : CS} (R : RP none c m u) {t0 : Int32} : RF 0 none VE c u (fb_H_process_183 N () u t0) (hb_H_process_183 N () m t0) := by
  unfold fb_H_process_183 hb_H_process_183
  exact rf_ret R rfl
theorem yb_H_process_169 {N : Nat} {c : Nat → Nat} {m : MS} {u : CS} (R : RP none c m u) {t0 : Int32} : RF 0 none VE c u (fb_H_process_169 N () u t0) (hb_H_process_169 N () m t0) := by
  unfold fb_H_process_169 hb_H_process_169
  exact rf_ret R rfl
theorem yb_H_process_150 {N : Nat} {c : Nat → Nat} {m : MS} {u : CS} (R : RP none c m u) {t0 : Int32} : RF 0 none VE c u (fb_H_process_150 N () u t0) (hb_H_process_150 N () m t0) := by
  unfold fb_H_process_150 hb_H_process_150
  exact rf_ret R rfl
theorem yb_H_process_136 {N : Nat} {c : Nat → Nat} {m : MS} {u : CS} (R : RP none c m u) {t0 : Int32} : RF 0 none VE c u (fb_H_process_136 N () u t0) (hb_H_process_136 N () m t0) := by
  unfold fb_H_process_136 hb_H_process_136
  exact rf_ret R rfl
theorem yb_H_process_119 {N : Nat} {c : Nat → Nat} {m : MS} {u : CS} (R : RP none c m u) {t0 : Int32} : RF 0 none VE c u (fb_H_process_119 N () u t0) (hb_H_process_119 N () m t0) := by
  unfold fb_H_process_119 hb_H_process_119
  exact rf_ret R rfl
theorem yb_H_process_115 {N : Nat} {c : Nat → Nat} {m : MS} {u : CS} (R : RP none c m u) {v3 : Nat} {v3' : Nat} (h_v3 : PVn c v3 v3') : RF 0 none VE c u (fb_H_process_115 N () u (some v3)) (hb_H_process_115 N () m v3') := by
  unfold fb_H_process_115 hb_H_process_115
  refine rf_so ?_
  refine rf_bo (gq_9 R h_v3) ?_
  exact (yb_H_process_119 R)
theorem yb_H_process_28 {N : Nat} {c : Nat → Nat} {m : MS} {u : CS} (R : RP none c m u) {v1 : Int32} {v2 : Int32} {v3 : Nat} {v3' : Nat} {t0 : Int32} (h_v3 : PVn c v3 v3') : RF 0 none VE c u (fb_H_process_28 N () u 0 v1 v2 (some v3) t0) (hb_H_process_28 N () m v1 v2 v3' t0) := by
  unfold fb_H_process_28 hb_H_process_28
  refine rf_br ?_ ?_
  · refine rf_so ?_
    refine rf_bo (gq_9 R h_v3) ?_
    refine rf_br ?_ ?_
    · refine rf_bo (rx_0_6 R) ?_
      refine rf_so ?_
      refine rf_ck (ox_47 R) ?_
      refine rf_bx0 (ym_Wl_isReady R h_v3) (fun u6' u6 r6 R_u6 => ?_)
      refine rf_br ?_ ?_
      · exact (yb_H_process_115 R_u6 h_v3)
      · exact (yb_H_process_119 R_u6)
    · exact (yb_H_process_115 R h_v3)
  · refine rf_br ?_ ?_
    · refine rf_br ?_ ?_
      · refine rf_so ?_
        refine rf_bo (gR_P1 R h_v3) ?_
        refine rf_soF h_v3.1 (fun j10 h_j10 => ?_)
        refine rf_bo (gf_1 R h_j10) ?_
        exact (yb_H_process_136 R)
      · exact (yb_H_process_136 R)
    · refine rf_br ?_ ?_
      · refine rf_br ?_ ?_
        · refine rf_so ?_
          refine rf_bo (gq_4 R h_v3) ?_
          exact (yb_H_process_150 R)
        · exact (yb_H_process_150 R)
      · refine rf_br ?_ ?_
        · refine rf_so ?_
          refine rf_bo (gq_5 R h_v3) ?_
          exact rf_ret R rfl
        · refine rf_br ?_ ?_
          · refine rf_br ?_ ?_
            · refine rf_so ?_
              refine rf_bo (gq_7 R h_v3) ?_
              exact (yb_H_process_169 R)
            · exact (yb_H_process_169 R)
          · refine rf_br ?_ ?_
            · refine rf_br ?_ ?_
              · refine rf_so ?_
                refine rf_bo (gq_15 R h_v3) ?_
                exact (yb_H_process_183 R)
              · exact (yb_H_process_183 R)
            · refine rf_br ?_ ?_
              · refine rf_br ?_ ?_
                · refine rf_bo (rx_0_6 R) ?_
                  refine rf_so ?_
                  refine rf_ck (ox_47 R) ?_
                  refine rf_bx0 (ym_Wl_watchesOf R) (fun u21' u21 r21 R_u21 => ?_)
                  exact (yb_H_process_201 R_u21)
                · exact (yb_H_process_201 R)
              · refine rf_br ?_ ?_
                · refine rf_br ?_ ?_
                  · refine rf_so ?_
                    refine rf_bo (gq_11 R h_v3) ?_
                    refine rf_br ?_ ?_
                    · exact (yb_H_process_218 R)
                    · exact (yb_H_process_219 R)
                  · exact (yb_H_process_218 R)
                · refine rf_br ?_ ?_
                  · refine rf_br ?_ ?_
                    · refine rf_so ?_
                      refine rf_bo (gq_12 R h_v3) ?_
                      exact (yb_H_process_233 R)
                    · exact (yb_H_process_233 R)
                  · refine rf_br ?_ ?_
                    · refine rf_so ?_
                      refine rf_bo (gq_13 R h_v3) ?_
                      exact rf_ret R rfl
                    · refine rf_br ?_ ?_
                      · refine rf_br ?_ ?_
                        · refine rf_so ?_
                          refine rf_ck (io_P R h_v3) ?_
                          refine rf_bx0 (ym_Pr_wakes R h_v3) (fun u29' u29 r29 R_u29 => ?_)
                          exact (yb_H_process_252 R_u29)
                        · exact (yb_H_process_252 R)
                      · refine rf_br ?_ ?_
                        · refine rf_br ?_ ?_
                          · refine rf_so ?_
                            refine rf_bo (gR_P1 R h_v3) ?_
                            refine rf_soF h_v3.1 (fun j33 h_j33 => ?_)
                            refine rf_bo (gf_9 R h_j33) ?_
                            exact (yb_H_process_269 R)
                          · exact (yb_H_process_269 R)
                        · exact rf_ret R rfl
theorem yb_H_process_0 {N : Nat} {c : Nat → Nat} {m : MS} {u : CS} (R : RP none c m u) {v1 : Int32} {v2 : Int32} : RF 0 none VE c u (fb_H_process_0 N () u 0 v1 v2) (hb_H_process_0 N () m v1 v2) := by
  unfold fb_H_process_0 hb_H_process_0
  refine rf_bo (rx_0_6 R) ?_
  refine rf_so ?_
  refine rf_ck (ox_47 R) ?_
  refine rf_bxP (ym_Wl_find R) (fun u36' u36 r36 r36' R_u36 h_r36 => ?_)
  refine rf_br2 (PV_n h_r36) ?_ ?_
  · exact rf_ret R_u36 rfl
  · refine rf_boQ h_r36 (fun j38 j38' e1_j38 e2_j38 h_j38 => ?_)
    subst e1_j38
    refine rf_so ?_
    refine rf_bo (gq_9 R_u36 h_j38) ?_
    refine rf_br ?_ ?_
    · exact (yb_H_process_28 R_u36 h_j38)
    · exact (yb_H_process_28 R_u36 h_j38)
theorem ym_H_process {N : Nat} {c : Nat → Nat} {m : MS} {u : CS} (R : RP none c m u) {v1 : Int32} {v2 : Int32} : RF 0 none VE c u (fm_H_process N u 0 v1 v2) (hm_H_process N m v1 v2) := yb_H_process_0 (N := N) R
theorem yb_H_frame_40 {N : Nat} {c : Nat → Nat} {m : MS} {u : CS} (R : RP none c m u) : RF 0 none VE c u (fb_H_frame_40 N () u) (hb_H_frame_40 N () m) := by
  unfold fb_H_frame_40 hb_H_frame_40
  exact rf_ret R rfl
theorem yb_H_frame_0 {N : Nat} {c : Nat → Nat} {m : MS} {u : CS} (R : RP none c m u) {v1 : Int32} {v2 : Int32} {v3 : Int32} : RF 0 none VE c u (fb_H_frame_0 N () u 0 v1 v2 v3) (hb_H_frame_0 N () m v1 v2 v3) := by
  unfold fb_H_frame_0 hb_H_frame_0
  refine rf_bo (rx_0_6 R) ?_
  refine rf_so ?_
  refine rf_ck (ox_47 R) ?_
  refine rf_bxP (ym_Wl_find R) (fun u2' u2 r2 r2' R_u2 h_r2 => ?_)
  refine rf_br2 (PV_n h_r2) ?_ ?_
  · exact (yb_H_frame_40 R_u2)
  · refine rf_boQ h_r2 (fun j4 j4' e1_j4 e2_j4 h_j4 => ?_)
    subst e1_j4
    refine rf_so ?_
    refine rf_bo (gq_9 R_u2 h_j4) ?_
    refine rf_br ?_ ?_
    · exact (yb_H_frame_40 R_u2)
    · refine rf_br ?_ ?_
      · exact (yb_H_frame_40 R_u2)
      · refine rf_so ?_
        refine rf_bo (gR_P1 R_u2 h_j4) ?_
        refine rf_soF h_j4.1 (fun j8 h_j8 => ?_)
        refine rf_bo (gf_1 R_u2 h_j8) ?_
        refine rf_br ?_ ?_
        · refine rf_so ?_
          refine rf_bo (gR_P1 R_u2 h_j4) ?_
          refine rf_soF h_j4.1 (fun j12 h_j12 => ?_)
          refine rf_bo (gf_1 R_u2 h_j12) ?_
          refine rf_br ?_ ?_
          · refine rf_so ?_
            refine rf_bo (gR_P1 R_u2 h_j4) ?_
            refine rf_soF h_j4.1 (fun j17 h_j17 => ?_)
            refine rf_ck (io_F R_u2 h_j17) ?_
            refine rf_bx0 (ym_Fr_of R_u2 h_j17) (fun u16' u16 r16 R_u16 => ?_)
            exact rf_ret R_u16 rfl
          · refine rf_br ?_ ?_
            · refine rf_so ?_
              refine rf_bo (gR_P1 R_u2 h_j4) ?_
              refine rf_soF h_j4.1 (fun j21 h_j21 => ?_)
              refine rf_ck (io_F R_u2 h_j21) ?_
              refine rf_bx0 (ym_Fr_of R_u2 h_j21) (fun u20' u20 r20 R_u20 => ?_)
              exact rf_ret R_u20 rfl
            · refine rf_br ?_ ?_
              · refine rf_so ?_
                refine rf_bo (gR_P1 R_u2 h_j4) ?_
                refine rf_soF h_j4.1 (fun j25 h_j25 => ?_)
                refine rf_ck (io_F R_u2 h_j25) ?_
                refine rf_bx0 (ym_Fr_namesIn R_u2 h_j25) (fun u24' u24 r24 R_u24 => ?_)
                exact rf_ret R_u24 rfl
              · refine rf_br ?_ ?_
                · refine rf_so ?_
                  refine rf_bo (gR_P1 R_u2 h_j4) ?_
                  refine rf_soF h_j4.1 (fun j29 h_j29 => ?_)
                  refine rf_ck (io_F R_u2 h_j29) ?_
                  refine rf_bx0 (ym_Fr_waitsIn R_u2 h_j29) (fun u28' u28 r28 R_u28 => ?_)
                  exact rf_ret R_u28 rfl
                · exact rf_ret R_u2 rfl
        · exact (yb_H_frame_40 R_u2)
theorem ym_H_frame {N : Nat} {c : Nat → Nat} {m : MS} {u : CS} (R : RP none c m u) {v1 : Int32} {v2 : Int32} {v3 : Int32} : RF 0 none VE c u (fm_H_frame N u 0 v1 v2 v3) (hm_H_frame N m v1 v2 v3) := yb_H_frame_0 (N := N) R
theorem yb_H_link_33 {N : Nat} {c : Nat → Nat} {m : MS} {u : CS} (R : RP none c m u) : RF 0 none VE c u (fb_H_link_33 N () u) (hb_H_link_33 N () m) := by
  unfold fb_H_link_33 hb_H_link_33
  exact rf_ret R rfl
theorem yb_H_link_0 {N : Nat} {c : Nat → Nat} {m : MS} {u : CS} (R : RP none c m u) {v1 : Int32} {v2 : Int32} : RF 0 none VE c u (fb_H_link_0 N () u 0 v1 v2) (hb_H_link_0 N () m v1 v2) := by
  unfold fb_H_link_0 hb_H_link_0
  refine rf_bo (rx_0_6 R) ?_
  refine rf_so ?_
  refine rf_ck (ox_47 R) ?_
  refine rf_bxP (ym_Wl_find R) (fun u2' u2 r2 r2' R_u2 h_r2 => ?_)
  refine rf_br2 (PV_n h_r2) ?_ ?_
  · exact (yb_H_link_33 R_u2)
  · refine rf_boQ h_r2 (fun j4 j4' e1_j4 e2_j4 h_j4 => ?_)
    subst e1_j4
    refine rf_so ?_
    refine rf_bo (gq_9 R_u2 h_j4) ?_
    refine rf_br ?_ ?_
    · exact (yb_H_link_33 R_u2)
    · refine rf_br ?_ ?_
      · exact (yb_H_link_33 R_u2)
      · refine rf_so ?_
        refine rf_bo (gq_15 R_u2 h_j4) ?_
        refine rf_br ?_ ?_
        · refine rf_so ?_
          refine rf_bo (gR_P14 R_u2 h_j4) ?_
          refine rf_so ?_
          refine rf_ai (aq_14 R_u2 h_j4.1) ?_
          exact rf_ret R_u2 rfl
        · exact (yb_H_link_33 R_u2)
theorem ym_H_link {N : Nat} {c : Nat → Nat} {m : MS} {u : CS} (R : RP none c m u) {v1 : Int32} {v2 : Int32} : RF 0 none VE c u (fm_H_link N u 0 v1 v2) (hm_H_link N m v1 v2) := yb_H_link_0 (N := N) R
theorem yb_H_show_209 {N : Nat} {c : Nat → Nat} {m : MS} {u : CS} (R : RP none c m u) {v4 : Nat} {v4' : Nat} {t0 : Int64} (h_v4 : PVn c v4 v4') : RF 0 none VE c u (fb_H_show_209 N () u 0 (some v4) t0) (hb_H_show_209 N () m v4' t0) := by
  unfold fb_H_show_209 hb_H_show_209
  refine rf_bo (rx_0_5 R) ?_
  refine rf_so ?_
  refine rf_bo (gR_P2 R h_v4) ?_
  refine rf_bo (rx_0_8 R) ?_
  refine rf_so ?_
  refine rf_ck (ox_43 R) ?_
  refine rf_bx0 (ym_Te_text R ⟨_, h_v4.1, rfl, rfl⟩ (by unfold isOu; omega)) (fun u5' u5 r5 R_u5 => ?_)
  refine rf_w (px_0_9 R_u5) (fun w7' w7 R_w7 => ?_)
  refine rf_bo (gx_0_9 R_w7) ?_
  exact rf_ret R_w7 rfl
theorem yb_H_show_145 {N : Nat} {c : Nat → Nat} {m : MS} {u : CS} (R : RP none c m u) {v2 : Int32} {v3 : Int32} {v4 : Nat} {v4' : Nat} {v5 : Nat} {v5' : Nat} {v6 : Int32} {t0 : Int32} (h_v4 : PVn c v4 v4') (h_v5 : FVn c v5 v5') : RF 0 none VE c u (fb_H_show_145 N () u 0 v2 v3 (some v4) (some v5) v6 t0) (hb_H_show_145 N () m v2 v3 v4' v5' v6 t0) := by
  unfold fb_H_show_145 hb_H_show_145
  refine rf_br ?_ ?_
  · refine rf_br ?_ ?_
    · refine rf_so ?_
      refine rf_bo (gR_P6 R h_v4) ?_
      refine rf_so ?_
      refine rf_ai (aq_6 R h_v4.1) ?_
      exact (yb_H_show_209 R h_v4)
    · refine rf_br ?_ ?_
      · refine rf_so ?_
        refine rf_bo (gR_F3 R h_v5) ?_
        refine rf_so ?_
        refine rf_ck (io_F R h_v5) ?_
        refine rf_bx0 (ym_Fr_of R h_v5) (fun u17' u17 r17 R_u17 => ?_)
        refine rf_so ?_
        refine rf_ai (aq_33 R_u17 h_v5.1) ?_
        exact (yb_H_show_209 R_u17 h_v4)
      · refine rf_so ?_
        refine rf_bo (gR_F5 R h_v5) ?_
        refine rf_so ?_
        refine rf_ck (io_F R h_v5) ?_
        refine rf_bx0 (ym_Fr_of R h_v5) (fun u11' u11 r11 R_u11 => ?_)
        refine rf_so ?_
        refine rf_ai (aq_35 R_u11 h_v5.1) ?_
        exact (yb_H_show_209 R_u11 h_v4)
  · exact rf_ret R rfl
theorem yb_H_show_93 {N : Nat} {c : Nat → Nat} {m : MS} {u : CS} (R : RP none c m u) : RF 0 none VE c u (fb_H_show_93 N () u) (hb_H_show_93 N () m) := by
  unfold fb_H_show_93 hb_H_show_93
  exact rf_ret R rfl
theorem yb_H_show_39 {N : Nat} {c : Nat → Nat} {m : MS} {u : CS} (R : RP none c m u) : RF 0 none VE c u (fb_H_show_39 N () u) (hb_H_show_39 N () m) := by
  unfold fb_H_show_39 hb_H_show_39
  exact rf_ret R rfl
theorem yb_H_show_19 {N : Nat} {c : Nat → Nat} {m : MS} {u : CS} (R : RP none c m u) : RF 0 none VE c u (fb_H_show_19 N () u) (hb_H_show_19 N () m) := by
  unfold fb_H_show_19 hb_H_show_19
  exact rf_ret R rfl
theorem yb_H_show_0 {N : Nat} {c : Nat → Nat} {m : MS} {u : CS} (R : RP none c m u) {v1 : Int32} {v2 : Int32} {v3 : Int32} : RF 0 none VE c u (fb_H_show_0 N () u 0 v1 v2 v3) (hb_H_show_0 N () m v1 v2 v3) := by
  unfold fb_H_show_0 hb_H_show_0
  refine rf_bo (rx_0_6 R) ?_
  refine rf_so ?_
  refine rf_ck (ox_47 R) ?_
  refine rf_bxP (ym_Wl_find R) (fun u26' u26 r26 r26' R_u26 h_r26 => ?_)
  refine rf_br2 (PV_n h_r26) ?_ ?_
  · exact (yb_H_show_19 R_u26)
  · refine rf_br ?_ ?_
    · refine rf_br ?_ ?_
      · refine rf_boQ h_r26 (fun j40 j40' e1_j40 e2_j40 h_j40 => ?_)
        subst e1_j40
        refine rf_so ?_
        refine rf_bo (gq_9 R_u26 h_j40) ?_
        refine rf_br ?_ ?_
        · refine rf_br ?_ ?_
          · refine rf_bo (rx_0_5 R_u26) ?_
            refine rf_so ?_
            refine rf_home R_u26 h_j40 (fun r44 h_r44 => ?_)
            refine rf_boQ h_r44 (fun j45 j45' e1_j45 e2_j45 h_j45 => ?_)
            subst e1_j45
            refine rf_so ?_
            refine rf_bo (gR_P2 R_u26 h_j45) ?_
            refine rf_so ?_
            refine rf_bo (gJ_P16 R_u26 h_j40) ?_
            refine rf_bo (rx_0_8 R_u26) ?_
            refine rf_so ?_
            refine rf_ck (ox_43 R_u26) ?_
            refine rf_bx0 (ym_Te_text R_u26 ⟨_, h_j45.1, rfl, rfl⟩ (by unfold isOu; omega)) (fun u50' u50 r50 R_u50 => ?_)
            refine rf_w (px_0_9 R_u50) (fun w52' w52 R_w52 => ?_)
            refine rf_bo (gx_0_9 R_w52) ?_
            exact rf_ret R_w52 rfl
          · exact (yb_H_show_39 R_u26)
        · exact (yb_H_show_39 R_u26)
      · refine rf_br ?_ ?_
        · exact (yb_H_show_93 R_u26)
        · refine rf_br ?_ ?_
          · exact (yb_H_show_93 R_u26)
          · refine rf_boQ h_r26 (fun j28 j28' e1_j28 e2_j28 h_j28 => ?_)
            subst e1_j28
            refine rf_so ?_
            refine rf_bo (gq_9 R_u26 h_j28) ?_
            refine rf_br ?_ ?_
            · exact (yb_H_show_93 R_u26)
            · refine rf_so ?_
              refine rf_bo (gR_P1 R_u26 h_j28) ?_
              refine rf_soF h_j28.1 (fun j32 h_j32 => ?_)
              refine rf_bo (gf_1 R_u26 h_j32) ?_
              refine rf_br ?_ ?_
              · refine rf_so ?_
                refine rf_bo (gq_7 R_u26 h_j28) ?_
                exact (yb_H_show_145 R_u26 h_j28 ⟨h_j28.1, rfl⟩)
              · refine rf_br ?_ ?_
                · refine rf_soF h_j28.1 (fun j37 h_j37 => ?_)
                  refine rf_ck (io_F R_u26 h_j37) ?_
                  refine rf_bx0 (ym_Fr_namesIn R_u26 h_j37) (fun u36' u36 r36 R_u36 => ?_)
                  exact (yb_H_show_145 R_u36 h_j28 ⟨h_j28.1, rfl⟩)
                · refine rf_soF h_j28.1 (fun j35 h_j35 => ?_)
                  refine rf_ck (io_F R_u26 h_j35) ?_
                  refine rf_bx0 (ym_Fr_waitsIn R_u26 h_j35) (fun u34' u34 r34 R_u34 => ?_)
                  exact (yb_H_show_145 R_u34 h_j28 ⟨h_j28.1, rfl⟩)
    · exact (yb_H_show_19 R_u26)
theorem ym_H_show {N : Nat} {c : Nat → Nat} {m : MS} {u : CS} (R : RP none c m u) {v1 : Int32} {v2 : Int32} {v3 : Int32} : RF 0 none VE c u (fm_H_show N u 0 v1 v2 v3) (hm_H_show N m v1 v2 v3) := yb_H_show_0 (N := N) R
