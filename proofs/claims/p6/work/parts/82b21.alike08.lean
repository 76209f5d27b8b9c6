set_option maxRecDepth 100000
theorem yb_Wl_post_193 {N : Nat} {o : Option Nat} {c : Nat → Nat} {m : MS} {u : CS} (R : RP o c m u) {v1 : Nat} {v1' : Nat} {v2 : Int32} {v3 : Int32} {v11 : Int32} {v12 : Int64} (h_v1 : PVn c v1 v1') : RF 3 o VE c u (fb_Wl_post_193 N () u (some v1) v2 v3 v11 v12) (hb_Wl_post_193 N () m v1' v2 v3 v11 v12) := by
  unfold fb_Wl_post_193 hb_Wl_post_193
  refine rf_so ?_
  refine rf_bo (gR_P2 R h_v1) ?_
  refine rf_bx0 (ym_Te_make R) (fun u3' u3 r3 R_u3 => ?_)
  refine rf_so ?_
  refine rf_wk (sq_2 R_u3 h_v1.1) (fun w5' w5 R_w5 => ?_)
  refine rf_so ?_
  refine rf_bo (gR_P2 R_w5 h_v1) ?_
  refine rf_so ?_
  refine rf_wk (sq_2 R_w5 h_v1.1) (fun w9' w9 R_w9 => ?_)
  refine rf_bx0 (ym_Te_make R_w9) (fun u10' u10 r10 R_u10 => ?_)
  refine rf_so ?_
  refine rf_ck (io_P R_u10 h_v1) ?_
  refine rf_bx0 (ym_Pr_comes R_u10 h_v1) (fun u11' u11 r11 R_u11 => ?_)
  exact rf_ret R_u11 rfl
theorem yb_Wl_post_169 {N : Nat} {o : Option Nat} {c : Nat → Nat} {m : MS} {u : CS} (R : RP o c m u) {v1 : Nat} {v1' : Nat} {v2 : Int32} {v3 : Int32} {v4 : Int32} {v11 : Int32} {v12 : Int64} {t0 : Nat} {t0' : Nat} {t1 : Int32} {t2 : Int32} {t3 : Int32} (h_v1 : PVn c v1 v1') (h_t0 : CVn c t0 t0') : RF 3 o VE c u (fb_Wl_post_169 N () u (some v1) v2 v3 v4 v11 v12 (some t0) t1 t2 t3) (hb_Wl_post_169 N () m v1' v2 v3 v4 v11 v12 t0' t1 t2 t3) := by
  unfold fb_Wl_post_169 hb_Wl_post_169
  refine rf_bx0 (ym_Te_make R) (fun u13' u13 r13 R_u13 => ?_)
  refine rf_so ?_
  refine rf_wk (sq_C R_u13 h_t0) (fun w15' w15 R_w15 => ?_)
  refine rf_br ?_ ?_
  · refine rf_so ?_
    refine rf_bo (gR_P2 R_w15 h_v1) ?_
    refine rf_bx0 (ym_Te_make R_w15) (fun u18' u18 r18 R_u18 => ?_)
    refine rf_so ?_
    refine rf_wk (sq_2 R_u18 h_v1.1) (fun w20' w20 R_w20 => ?_)
    exact (yb_Wl_post_193 R_w20 h_v1)
  · exact (yb_Wl_post_193 R_w15 h_v1)
theorem yb_Wl_post_120 {N : Nat} {o : Option Nat} {c : Nat → Nat} {m : MS} {u : CS} (R : RP o c m u) {v1 : Nat} {v1' : Nat} {v2 : Int32} {v3 : Int32} {v4 : Int32} {v11 : Int32} {t0 : Int64} (h_v1 : PVn c v1 v1') : RF 3 o VE c u (fb_Wl_post_120 N () u (some v1) v2 v3 v4 v11 t0) (hb_Wl_post_120 N () m v1' v2 v3 v4 v11 t0) := by
  unfold fb_Wl_post_120 hb_Wl_post_120
  refine rf_br ?_ ?_
  · refine rf_so ?_
    refine rf_ck (io_P R h_v1) ?_
    refine rf_bx0 (ym_Pr_comes R h_v1) (fun u28' u28 r28 R_u28 => ?_)
    exact rf_ret R_u28 rfl
  · refine rf_so ?_
    refine rf_bo (gR_P2 R h_v1) ?_
    refine rf_bx0 (ym_Te_make R) (fun u23' u23 r23 R_u23 => ?_)
    refine rf_so ?_
    refine rf_wk (sq_2 R_u23 h_v1.1) (fun w25' w25 R_w25 => ?_)
    refine rf_so ?_
    refine rf_bo (gR_P2 R_w25 h_v1) ?_
    refine rf_br ?_ ?_
    · exact (yb_Wl_post_169 R_w25 h_v1 ⟨_, h_v1.1, rfl, rfl⟩)
    · exact (yb_Wl_post_169 R_w25 h_v1 ⟨_, h_v1.1, rfl, rfl⟩)
theorem yb_Wl_post_81 {N : Nat} {o : Option Nat} {c : Nat → Nat} {m : MS} {u : CS} (R : RP o c m u) {v1 : Nat} {v1' : Nat} {v2 : Int32} {v3 : Int32} {v4 : Int32} {v7 : Option Nat} {v7' : Option Nat} {t0 : Int64} (h_v1 : PVn c v1 v1') (h_v7 : PVo c v7 v7') : RF 3 o VE c u (fb_Wl_post_81 N () u (some v1) v2 v3 v4 v7 t0) (hb_Wl_post_81 N () m v1' v2 v3 v4 v7' t0) := by
  unfold fb_Wl_post_81 hb_Wl_post_81
  refine rf_so ?_
  refine rf_bo (gq_4 R h_v1) ?_
  refine rf_so ?_
  refine rf_bo (gq_4 R h_v1) ?_
  refine rf_w (wq_4 R h_v1) (fun w34' w34 R_w34 => ?_)
  refine rf_br2 (PV_n h_v7) ?_ ?_
  · exact (yb_Wl_post_120 R_w34 h_v1)
  · refine rf_boQ h_v7 (fun j35 j35' e1_j35 e2_j35 h_j35 => ?_)
    subst e1_j35
    refine rf_so ?_
    refine rf_bo (gR_P2 R_w34 h_j35) ?_
    refine rf_so ?_
    refine rf_ck (io_P R_w34 h_v1) ?_
    refine rf_bx0 (ym_Pr_copyIn R_w34 h_v1 ⟨_, h_j35.1, rfl, rfl⟩) (fun u37' u37 r37 R_u37 => ?_)
    exact (yb_Wl_post_120 R_u37 h_v1)
theorem yb_Wl_post_41 {N : Nat} {o : Option Nat} {c : Nat → Nat} {m : MS} {u : CS} (R : RP o c m u) {v1 : Nat} {v1' : Nat} {v2 : Int32} {v3 : Int32} {v4 : Int32} {v5 : Int64} {v7 : Option Nat} {v7' : Option Nat} {t0 : Int32} (h_v1 : PVn c v1 v1') (h_v7 : PVo c v7 v7') : RF 3 o VE c u (fb_Wl_post_41 N () u 47 (some v1) v2 v3 v4 v5 v7 t0) (hb_Wl_post_41 N () m v1' v2 v3 v4 v5 v7' t0) := by
  unfold fb_Wl_post_41 hb_Wl_post_41
  refine rf_so ?_
  refine rf_ck (io_P R h_v1) ?_
  refine rf_bx (ym_Pr_want R h_v1) (by unfold zle; omega) (fun c_u39 u39' u39 r39 r39' R_u39 E_u39 v_u39 => ?_)
  cases v_u39
  replace h_v1 := E_u39.P h_v1
  replace h_v7 := E_u39.Po h_v7
  refine rf_br ?_ ?_
  · refine rf_ck (ox_47 R_u39) ?_
    refine rf_bx0 (ym_Wl_endsBy R_u39 h_v1) (fun u45' u45 r45 R_u45 => ?_)
    exact rf_ret R_u45 rfl
  · refine rf_ck (okR_Po R_u39 h_v7) ?_
    refine rf_ck (okR_P R_u39 h_v1) ?_
    refine rf_br2 (PV_e R_u39 h_v7 (PV_j h_v1)) ?_ ?_
    · refine rf_so ?_
      refine rf_bo (gR_P1 R_u39 h_v1) ?_
      refine rf_soF h_v1.1 (fun j44 h_j44 => ?_)
      refine rf_ck (io_F R_u39 h_j44) ?_
      refine rf_bx0 (ym_Fr_below R_u39 h_j44) (fun u43' u43 r43 R_u43 => ?_)
      exact (yb_Wl_post_81 R_u43 h_v1 h_v7)
    · exact (yb_Wl_post_81 R_u39 h_v1 h_v7)
theorem yb_Wl_post_17 {N : Nat} {o : Option Nat} {c : Nat → Nat} {m : MS} {u : CS} (R : RP o c m u) : RF 3 o VE c u (fb_Wl_post_17 N () u) (hb_Wl_post_17 N () m) := by
  unfold fb_Wl_post_17 hb_Wl_post_17
  exact rf_ret R rfl
theorem yb_Wl_post_0 {N : Nat} {o : Option Nat} {c : Nat → Nat} {m : MS} {u : CS} (R : RP o c m u) {v1 : Nat} {v1' : Nat} {v2 : Int32} {v3 : Int32} {v4 : Int32} {v5 : Int64} {v7 : Option Nat} {v7' : Option Nat} (h_v1 : PVn c v1 v1') (h_v7 : PVo c v7 v7') : RF 3 o VE c u (fb_Wl_post_0 N () u 47 (some v1) v2 v3 v4 v5 v7) (hb_Wl_post_0 N () m v1' v2 v3 v4 v5 v7') := by
  unfold fb_Wl_post_0 hb_Wl_post_0
  refine rf_so ?_
  refine rf_bo (gq_9 R h_v1) ?_
  refine rf_br ?_ ?_
  · exact (yb_Wl_post_17 R)
  · refine rf_so ?_
    refine rf_bo (gq_7 R h_v1) ?_
    refine rf_br ?_ ?_
    · refine rf_br2 (PV_n h_v7) ?_ ?_
      · exact (yb_Wl_post_41 R h_v1 h_v7)
      · refine rf_bo (rx_47_0 R) ?_
        refine rf_boQ h_v7 (fun j51 j51' e1_j51 e2_j51 h_j51 => ?_)
        subst e1_j51
        refine rf_so ?_
        refine rf_bo (gR_P2 R h_j51) ?_
        refine rf_so ?_
        refine rf_ck (ox_43 R) ?_
        refine rf_bx0 (ym_Te_size R ⟨_, h_j51.1, rfl, rfl⟩) (fun u53' u53 r53 R_u53 => ?_)
        exact (yb_Wl_post_41 R_u53 h_v1 (PV_j h_j51))
    · exact (yb_Wl_post_17 R)
theorem ym_Wl_post {N : Nat} {o : Option Nat} {c : Nat → Nat} {m : MS} {u : CS} (R : RP o c m u) {v1 : Nat} {v1' : Nat} {v2 : Int32} {v3 : Int32} {v4 : Int32} {v5 : Int64} {v7 : Option Nat} {v7' : Option Nat} (h_v1 : PVn c v1 v1') (h_v7 : PVo c v7 v7') : RF 3 o VE c u (fm_Wl_post N u 47 (some v1) v2 v3 v4 v5 v7) (hm_Wl_post N m v1' v2 v3 v4 v5 v7') := yb_Wl_post_0 (N := N) R h_v1 h_v7
theorem yb_Wl_signal_121 {N : Nat} {o : Option Nat} {c : Nat → Nat} {m : MS} {u : CS} (R : RP o c m u) : RF 3 o VE c u (fb_Wl_signal_121 N () u) (hb_Wl_signal_121 N () m) := by
  unfold fb_Wl_signal_121 hb_Wl_signal_121
  exact rf_ret R rfl
theorem yb_Wl_signal_70 {N : Nat} {o : Option Nat} {c : Nat → Nat} {m : MS} {u : CS} (R : RP o c m u) {v2 : Nat} {v2' : Nat} {v3 : Int64} (h_v2 : PVn c v2 v2') : RF 3 o VE c u (fb_Wl_signal_70 N () u 47 (some v2) v3) (hb_Wl_signal_70 N () m v2' v3) := by
  unfold fb_Wl_signal_70 hb_Wl_signal_70
  refine rf_ck (ox_47 R) ?_
  refine rf_bx0 (ym_Wl_endsWith R h_v2 h_v2) (fun u1' u1 r1 R_u1 => ?_)
  exact (yb_Wl_signal_121 R_u1)
theorem yb_Wl_signal_59 {N : Nat} {o : Option Nat} {c : Nat → Nat} {m : MS} {u : CS} (R : RP o c m u) {v2 : Nat} {v2' : Nat} {v3 : Int64} {v5 : Option Nat} {v5' : Option Nat} (h_v2 : PVn c v2 v2') (h_v5 : PVo c v5 v5') : RF 3 o VE c u (fb_Wl_signal_59 N () u 47 (some v2) v3 v5) (hb_Wl_signal_59 N () m v2' v3 v5') := by
  unfold fb_Wl_signal_59 hb_Wl_signal_59
  refine rf_br2 (PV_n h_v5) ?_ ?_
  · exact (yb_Wl_signal_70 R h_v2)
  · refine rf_ck (okR_Po R h_v5) ?_
    refine rf_ck (okR_P R h_v2) ?_
    refine rf_br2 (PV_e R h_v5 (PV_j h_v2)) ?_ ?_
    · exact (yb_Wl_signal_70 R h_v2)
    · refine rf_boQ h_v5 (fun j2 j2' e1_j2 e2_j2 h_j2 => ?_)
      subst e1_j2
      refine rf_so ?_
      refine rf_bo (gq_9 R h_j2) ?_
      refine rf_br ?_ ?_
      · refine rf_ck (ox_47 R) ?_
        refine rf_bx0 (ym_Wl_endsWith R h_v2 h_j2) (fun u11' u11 r11 R_u11 => ?_)
        exact (yb_Wl_signal_121 R_u11)
      · refine rf_so ?_
        refine rf_w (wq_4 R h_v2) (fun w5' w5 R_w5 => ?_)
        refine rf_so ?_
        refine rf_bo (gR_P2 R_w5 h_j2) ?_
        refine rf_so ?_
        refine rf_ck (io_P R_w5 h_v2) ?_
        refine rf_bx0 (ym_Pr_copyIn R_w5 h_v2 ⟨_, h_j2.1, rfl, rfl⟩) (fun u8' u8 r8 R_u8 => ?_)
        refine rf_ck (ox_47 R_u8) ?_
        refine rf_bx0 (ym_Wl_endsWith R_u8 h_v2 h_v2) (fun u10' u10 r10 R_u10 => ?_)
        exact (yb_Wl_signal_121 R_u10)
theorem yb_Wl_signal_43 {N : Nat} {o : Option Nat} {c : Nat → Nat} {m : MS} {u : CS} (R : RP o c m u) {v1 : Int32} {v2 : Nat} {v2' : Nat} {v3 : Int64} {v5 : Option Nat} {v5' : Option Nat} {t0 : Int32} (h_v2 : PVn c v2 v2') (h_v5 : PVo c v5 v5') : RF 3 o VE c u (fb_Wl_signal_43 N () u 47 v1 (some v2) v3 v5 t0) (hb_Wl_signal_43 N () m v1 v2' v3 v5' t0) := by
  unfold fb_Wl_signal_43 hb_Wl_signal_43
  refine rf_br ?_ ?_
  · exact (yb_Wl_signal_59 R h_v2 h_v5)
  · refine rf_so ?_
    refine rf_bo (gI_P0 R h_v2) ?_
    refine rf_br ?_ ?_
    · exact (yb_Wl_signal_59 R h_v2 h_v5)
    · exact rf_ret R rfl
theorem yb_Wl_signal_0 {N : Nat} {o : Option Nat} {c : Nat → Nat} {m : MS} {u : CS} (R : RP o c m u) {v1 : Int32} {v2 : Nat} {v2' : Nat} {v3 : Int64} {v5 : Option Nat} {v5' : Option Nat} (h_v2 : PVn c v2 v2') (h_v5 : PVo c v5 v5') : RF 3 o VE c u (fb_Wl_signal_0 N () u 47 v1 (some v2) v3 v5) (hb_Wl_signal_0 N () m v1 v2' v3 v5') := by
  unfold fb_Wl_signal_0 hb_Wl_signal_0
  refine rf_so ?_
  refine rf_bo (gq_9 R h_v2) ?_
  refine rf_br ?_ ?_
  · exact rf_ret R rfl
  · refine rf_so ?_
    refine rf_bo (gq_11 R h_v2) ?_
    refine rf_br ?_ ?_
    · refine rf_bx0 (ym_Te_make R) (fun u18' u18 r18 R_u18 => ?_)
      refine rf_br ?_ ?_
      · exact (yb_Wl_signal_43 R_u18 h_v2 h_v5)
      · exact (yb_Wl_signal_43 R_u18 h_v2 h_v5)
    · refine rf_ck (ox_47 R) ?_
      refine rf_bx (ym_Wl_post R h_v2 h_v5) (by unfold zle; omega) (fun c_u19 u19' u19 r19 r19' R_u19 E_u19 v_u19 => ?_)
      cases v_u19
      exact rf_ret R_u19 rfl
theorem ym_Wl_signal {N : Nat} {o : Option Nat} {c : Nat → Nat} {m : MS} {u : CS} (R : RP o c m u) {v1 : Int32} {v2 : Nat} {v2' : Nat} {v3 : Int64} {v5 : Option Nat} {v5' : Option Nat} (h_v2 : PVn c v2 v2') (h_v5 : PVo c v5 v5') : RF 3 o VE c u (fm_Wl_signal N u 47 v1 (some v2) v3 v5) (hm_Wl_signal N m v1 v2' v3 v5') := yb_Wl_signal_0 (N := N) R h_v2 h_v5
theorem yb_Pr_removeLink_44 {N : Nat} {o : Option Nat} {c : Nat → Nat} {m : MS} {u : CS} (R : RP o c m u) : RF 0 o VE c u (fb_Pr_removeLink_44 N () u) (hb_Pr_removeLink_44 N () m) := by
  unfold fb_Pr_removeLink_44 hb_Pr_removeLink_44
  exact rf_ret R rfl
theorem yb_Pr_removeLink_0 {N : Nat} {o : Option Nat} {c : Nat → Nat} {m : MS} {u : CS} (R : RP o c m u) {v0 : Nat} {v0' : Nat} {v1 : Int32} (h_v0 : PVn c v0 v0') : RF 0 o VE c u (fb_Pr_removeLink_0 N () u v0 v1) (hb_Pr_removeLink_0 N () m v0' v1) := by
  unfold fb_Pr_removeLink_0 hb_Pr_removeLink_0
  refine rf_ck (io_P R h_v0) ?_
  refine rf_bx0 (ym_Pr_seekLink R h_v0) (fun u1' u1 r1 R_u1 => ?_)
  refine rf_br ?_ ?_
  · exact (yb_Pr_removeLink_44 R_u1)
  · refine rf_bo (gR_P14 R_u1 h_v0) ?_
    refine rf_bo (gR_P14 R_u1 h_v0) ?_
    refine rf_bo (gq_15 R_u1 h_v0) ?_
    refine rf_so ?_
    refine rf_so ?_
    refine rf_wk (cq_14 R_u1 h_v0.1) (fun w7' w7 R_w7 => ?_)
    refine rf_bo (gq_15 R_w7 h_v0) ?_
    refine rf_w (wq_15 R_w7 h_v0) (fun w9' w9 R_w9 => ?_)
    exact (yb_Pr_removeLink_44 R_w9)
theorem ym_Pr_removeLink {N : Nat} {o : Option Nat} {c : Nat → Nat} {m : MS} {u : CS} (R : RP o c m u) {v0 : Nat} {v0' : Nat} {v1 : Int32} (h_v0 : PVn c v0 v0') : RF 0 o VE c u (fm_Pr_removeLink N u v0 v1) (hm_Pr_removeLink N m v0' v1) := yb_Pr_removeLink_0 (N := N) R h_v0
theorem yb_Ma_watch_81 {N : Nat} {p : Nat} {c : Nat → Nat} {m : MS} {u : CS} (R : RP (some p) c m u) {v2 : Int32} : RF 3 (some p) VE c u (fb_Ma_watch_81 N () u v2) (hb_Ma_watch_81 N () m p v2) := by
  unfold fb_Ma_watch_81 hb_Ma_watch_81
  refine rf_bx0 (ym_Te_make R) (fun u1' u1 r1 R_u1 => ?_)
  exact rf_ret R_u1 rfl
theorem yb_Ma_watch_0 {N : Nat} {p : Nat} {c : Nat → Nat} {m : MS} {u : CS} (R : RP (some p) c m u) {v1 : Nat} {v1' : Nat} (h_v1 : PVn c v1 v1') : RF 3 (some p) VE c u (fb_Ma_watch_0 N () u 55 (some v1)) (hb_Ma_watch_0 N () m p v1') := by
  unfold fb_Ma_watch_0 hb_Ma_watch_0
  refine rf_bo (rx_55_1 R) ?_
  refine rf_so ?_
  refine rf_bo (gx_47_5 R) ?_
  refine rf_bo (rx_55_1 R) ?_
  refine rf_so ?_
  refine rf_bo (gx_47_5 R) ?_
  refine rf_w (px_47_5 R) (fun w8' w8 R_w8 => ?_)
  refine rf_so ?_
  refine rf_bo (gq_9 R_w8 h_v1) ?_
  refine rf_br ?_ ?_
  · refine rf_bo (rx_55_1 R_w8) ?_
    refine rf_bo (gR_M3 R_w8) ?_
    refine rf_so ?_
    refine rf_bo (gI_P0 R_w8 h_v1) ?_
    refine rf_bx0 (ym_Ma_atom R_w8) (fun u24' u24 r24 R_u24 => ?_)
    refine rf_so ?_
    refine rf_ck (ox_47 R_u24) ?_
    refine rf_bx (ym_Wl_post R_u24 ⟨R_u24.md, rfl⟩ PV_0) (by unfold zle; omega) (fun c_u25 u25' u25 r25 r25' R_u25 E_u25 v_u25 => ?_)
    cases v_u25
    exact (yb_Ma_watch_81 R_u25)
  · refine rf_bo (gR_M3 R_w8) ?_
    refine rf_ck (okR_P R_w8 h_v1) ?_
    refine rf_ck (okR_r R_w8 R_w8.md isR0) ?_
    refine rf_br2 (PV_e R_w8 (PV_j h_v1) (PV_s R_w8.md)) ?_ ?_
    · exact (yb_Ma_watch_81 R_w8)
    · refine rf_bo (rx_55_1 R_w8) ?_
      refine rf_bo (gR_M3 R_w8) ?_
      refine rf_soP R_w8.md (fun j14 h_j14 => ?_)
      refine rf_bo (gI_P0 R_w8 h_j14) ?_
      refine rf_so ?_
      refine rf_bo (gI_P0 R_w8 h_v1) ?_
      refine rf_so ?_
      refine rf_ck (ox_47 R_w8) ?_
      refine rf_bx0 (ym_Wl_addWatch R_w8) (fun u18' u18 r18 R_u18 => ?_)
      exact (yb_Ma_watch_81 R_u18)
theorem ym_Ma_watch {N : Nat} {p : Nat} {c : Nat → Nat} {m : MS} {u : CS} (R : RP (some p) c m u) {v1 : Nat} {v1' : Nat} (h_v1 : PVn c v1 v1') : RF 3 (some p) VE c u (fm_Ma_watch N u 55 (some v1)) (hm_Ma_watch N m p v1') := yb_Ma_watch_0 (N := N) R h_v1
theorem yb_Ma_toward_335 {N : Nat} {p : Nat} {c : Nat → Nat} {m : MS} {u : CS} (R : RP (some p) c m u) {v2 : Int32} {v5 : Int64} : RF 2 (some p) VE c u (fb_Ma_toward_335 N () u 55 v2 v5) (hb_Ma_toward_335 N () m p v2 v5) := by
  unfold fb_Ma_toward_335 hb_Ma_toward_335
  refine rf_ck (ox_55 R) ?_
  refine rf_ck (all1 (okR_s R (by decide))) ?_
  refine rf_bx (rf_gw (ym_Ma_answer R)) (by unfold zle; omega) (fun c_u1 u1' u1 r1 r1' R_u1 E_u1 v_u1 => ?_)
  cases v_u1
  refine rf_gw ?_
  refine rf_bo (gx_55_5 R_u1) ?_
  refine rf_w (px_55_5 R_u1) (fun w3' w3 R_w3 => ?_)
  exact rf_ret R_w3 rfl
theorem yb_Ma_toward_330 {N : Nat} {p : Nat} {c : Nat → Nat} {m : MS} {u : CS} (R : RP (some p) c m u) {v2 : Int32} {t0 : Int32} : RF 2 (some p) VE c u (fb_Ma_toward_330 N () u 55 v2 t0) (hb_Ma_toward_330 N () m p v2 t0) := by
  unfold fb_Ma_toward_330 hb_Ma_toward_330
  refine rf_bx0 (rf_gz (ym_Ma_truth R) (by omega)) (fun u4' u4 r4 R_u4 => ?_)
  refine rf_gw ?_
  exact (yb_Ma_toward_335 R_u4)
theorem yb_Ma_toward_95 {N : Nat} {p : Nat} {c : Nat → Nat} {m : MS} {u : CS} (R : RP (some p) c m u) {v1 : Int32} {v2 : Int32} {v3 : Option Nat} {v3' : Option Nat} (h_v3 : PVo c v3 v3') : RF 2 (some p) VE c u (fb_Ma_toward_95 N () u 55 v1 v2 v3) (hb_Ma_toward_95 N () m p v1 v2 v3') := by
  unfold fb_Ma_toward_95 hb_Ma_toward_95
  refine rf_bx0 (rf_gz (ym_Ma_atom R) (by omega)) (fun u5' u5 r5 R_u5 => ?_)
  refine rf_gw ?_
  refine rf_br ?_ ?_
  · refine rf_boQ h_v3 (fun j6 j6' e1_j6 e2_j6 h_j6 => ?_)
    subst e1_j6
    refine rf_so ?_
    refine rf_bo (gq_9 R_u5 h_j6) ?_
    refine rf_br ?_ ?_
    · refine rf_bo (rx_55_1 R_u5) ?_
      refine rf_so ?_
      refine rf_bo (gI_P0 R_u5 h_j6) ?_
      refine rf_bo (gR_M3 R_u5) ?_
      refine rf_bx0 (rf_gz (ym_Ma_atom R_u5) (by omega)) (fun u28' u28 r28 R_u28 => ?_)
      refine rf_gw ?_
      refine rf_so ?_
      refine rf_ck (ox_47 R_u28) ?_
      refine rf_bx (rf_gz (ym_Wl_signal R_u28 ⟨R_u28.md, rfl⟩ PV_0) (by omega)) (by unfold zle; omega) (fun c_u29 u29' u29 r29 r29' R_u29 E_u29 v_u29 => ?_)
      cases v_u29
      refine rf_gw ?_
      exact (yb_Ma_toward_335 R_u29)
    · refine rf_bo (gR_M3 R_u5) ?_
      refine rf_ck (okR_P R_u5 h_j6) ?_
      refine rf_ck (okR_r R_u5 R_u5.md isR0) ?_
      refine rf_br2 (PV_e R_u5 (PV_j h_j6) (PV_s R_u5.md)) ?_ ?_
      · exact (yb_Ma_toward_335 R_u5)
      · refine rf_bo (gR_M3 R_u5) ?_
        refine rf_so ?_
        refine rf_bo (gI_P0 R_u5 h_j6) ?_
        refine rf_soP R_u5.md (fun j13 h_j13 => ?_)
        refine rf_ck (io_P R_u5 h_j13) ?_
        refine rf_bx0 (rf_gz (ym_Pr_seekLink R_u5 h_j13) (by omega)) (fun u12' u12 r12 R_u12 => ?_)
        refine rf_gw ?_
        refine rf_br ?_ ?_
        · refine rf_bo (gR_M3 R_u12) ?_
          refine rf_so ?_
          refine rf_bo (gI_P0 R_u12 h_j6) ?_
          refine rf_soP R_u12.md (fun j18 h_j18 => ?_)
          refine rf_ck (io_P R_u12 h_j18) ?_
          refine rf_bx0 (rf_gz (ym_Pr_addLink R_u12 h_j18) (by omega)) (fun u17' u17 r17 R_u17 => ?_)
          refine rf_gw ?_
          refine rf_bo (gR_M3 R_u17) ?_
          refine rf_soP R_u17.md (fun j20 h_j20 => ?_)
          refine rf_bo (gI_P0 R_u17 h_j20) ?_
          refine rf_so ?_
          refine rf_ck (io_P R_u17 h_j6) ?_
          refine rf_bx0 (rf_gz (ym_Pr_addLink R_u17 h_j6) (by omega)) (fun u22' u22 r22 R_u22 => ?_)
          refine rf_gw ?_
          exact (yb_Ma_toward_335 R_u22)
        · exact (yb_Ma_toward_335 R_u12)
  · refine rf_br ?_ ?_
    · refine rf_bo (gR_M3 R_u5) ?_
      refine rf_boQ h_v3 (fun j32 j32' e1_j32 e2_j32 h_j32 => ?_)
      subst e1_j32
      refine rf_so ?_
      refine rf_bo (gI_P0 R_u5 h_j32) ?_
      refine rf_soP R_u5.md (fun j35 h_j35 => ?_)
      refine rf_ck (io_P R_u5 h_j35) ?_
      refine rf_bx0 (rf_gz (ym_Pr_removeLink R_u5 h_j35) (by omega)) (fun u34' u34 r34 R_u34 => ?_)
      refine rf_gw ?_
      refine rf_bo (gR_M3 R_u34) ?_
      refine rf_soP R_u34.md (fun j37 h_j37 => ?_)
      refine rf_bo (gI_P0 R_u34 h_j37) ?_
      refine rf_so ?_
      refine rf_ck (io_P R_u34 h_j32) ?_
      refine rf_bx0 (rf_gz (ym_Pr_removeLink R_u34 h_j32) (by omega)) (fun u39' u39 r39 R_u39 => ?_)
      refine rf_gw ?_
      exact (yb_Ma_toward_335 R_u39)
    · refine rf_br ?_ ?_
      · refine rf_ck (ox_55 R_u5) ?_
        refine rf_opt h_v3 (fun v3_j v3_q e1_v3 e2_v3 h_v3j => ?_)
        subst e1_v3
        refine rf_bx (rf_gz (ym_Ma_watch R_u5 h_v3j) (by omega)) (by unfold zle; omega) (fun c_u41 u41' u41 r41 r41' R_u41 E_u41 v_u41 => ?_)
        cases v_u41
        refine rf_gw ?_
        exact (yb_Ma_toward_335 R_u41)
      · refine rf_br ?_ ?_
        · refine rf_bo (gR_M4 R_u5) ?_
          refine rf_soF R_u5.md (fun j44 h_j44 => ?_)
          refine rf_ck (io_F R_u5 h_j44) ?_
          refine rf_bx0 (rf_gz (ym_Fr_below R_u5 h_j44) (by omega)) (fun u43' u43 r43 R_u43 => ?_)
          refine rf_gw ?_
          refine rf_bx0 (rf_gz (ym_Ma_atom R_u43) (by omega)) (fun u45' u45 r45 R_u45 => ?_)
          refine rf_gw ?_
          refine rf_br ?_ ?_
          · refine rf_bo (rx_55_1 R_u45) ?_
            refine rf_so ?_
            refine rf_ck (ox_47 R_u45) ?_
            refine rf_opt h_v3 (fun v3_j v3_q e1_v3 e2_v3 h_v3j => ?_)
            subst e1_v3
            refine rf_bx0 (rf_gz (ym_Wl_endsBy R_u45 h_v3j) (by omega)) (fun u57' u57 r57 R_u57 => ?_)
            refine rf_gw ?_
            exact (yb_Ma_toward_335 R_u57)
          · refine rf_bo (rx_55_1 R_u45) ?_
            refine rf_bo (gR_M3 R_u45) ?_
            refine rf_soP R_u45.md (fun j48 h_j48 => ?_)
            refine rf_bo (gI_P0 R_u45 h_j48) ?_
            refine rf_bo (gR_M4 R_u45) ?_
            refine rf_soF R_u45.md (fun j52 h_j52 => ?_)
            refine rf_ck (io_F R_u45 h_j52) ?_
            refine rf_bx0 (rf_gz (ym_Fr_below R_u45 h_j52) (by omega)) (fun u51' u51 r51 R_u51 => ?_)
            refine rf_gw ?_
            refine rf_bo (gR_M3 R_u51) ?_
            refine rf_so ?_
            refine rf_ck (ox_47 R_u51) ?_
            refine rf_opt h_v3 (fun v3_j v3_q e1_v3 e2_v3 h_v3j => ?_)
            subst e1_v3
            refine rf_bx (rf_gz (ym_Wl_signal R_u51 h_v3j (PV_s R_u51.md)) (by omega)) (by unfold zle; omega) (fun c_u54 u54' u54 r54 r54' R_u54 E_u54 v_u54 => ?_)
            cases v_u54
            refine rf_gw ?_
            exact (yb_Ma_toward_335 R_u54)
        · refine rf_boQ h_v3 (fun j59 j59' e1_j59 e2_j59 h_j59 => ?_)
          subst e1_j59
          refine rf_so ?_
          refine rf_bo (gq_9 R_u5 h_j59) ?_
          refine rf_br ?_ ?_
          · exact (yb_Ma_toward_330 R_u5)
          · exact (yb_Ma_toward_330 R_u5)
theorem yb_Ma_toward_88 {N : Nat} {p : Nat} {c : Nat → Nat} {m : MS} {u : CS} (R : RP (some p) c m u) : RF 2 (some p) VE c u (fb_Ma_toward_88 N () u 55) (hb_Ma_toward_88 N () m p) := by
  unfold fb_Ma_toward_88 hb_Ma_toward_88
  refine rf_ck (ox_55 R) ?_
  refine rf_bx0 (rf_gz (ym_Ma_wrong R) (by omega)) (fun u61' u61 r61 R_u61 => ?_)
  refine rf_gw ?_
  exact rf_ret R_u61 rfl
theorem yb_Ma_toward_59 {N : Nat} {p : Nat} {c : Nat → Nat} {m : MS} {u : CS} (R : RP (some p) c m u) {v1 : Int32} {v2 : Int32} {v3 : Option Nat} {v3' : Option Nat} {t0 : Int32} (h_v3 : PVo c v3 v3') : RF 2 (some p) VE c u (fb_Ma_toward_59 N () u 55 v1 v2 v3 t0) (hb_Ma_toward_59 N () m p v1 v2 v3' t0) := by
  unfold fb_Ma_toward_59 hb_Ma_toward_59
  refine rf_br2 (PV_n h_v3) ?_ ?_
  · exact (yb_Ma_toward_88 R)
  · refine rf_br ?_ ?_
    · refine rf_br ?_ ?_
      · refine rf_bo (rx_55_1 R) ?_
        refine rf_so ?_
        refine rf_bo (gx_47_10 R) ?_
        refine rf_br ?_ ?_
        · exact (yb_Ma_toward_95 R h_v3)
        · exact (yb_Ma_toward_88 R)
      · exact (yb_Ma_toward_95 R h_v3)
    · exact (yb_Ma_toward_88 R)
theorem yb_Ma_toward_58 {N : Nat} {p : Nat} {c : Nat → Nat} {m : MS} {u : CS} (R : RP (some p) c m u) {v1 : Int32} {v2 : Int32} {v3 : Option Nat} {v3' : Option Nat} (h_v3 : PVo c v3 v3') : RF 2 (some p) VE c u (fb_Ma_toward_58 N () u 55 v1 v2 v3) (hb_Ma_toward_58 N () m p v1 v2 v3') := by
  unfold fb_Ma_toward_58 hb_Ma_toward_58
  exact (yb_Ma_toward_59 R h_v3)
theorem yb_Ma_toward_11 {N : Nat} {p : Nat} {c : Nat → Nat} {m : MS} {u : CS} (R : RP (some p) c m u) {v1 : Int32} {t0 : Int32} : RF 2 (some p) VE c u (fb_Ma_toward_11 N () u 55 v1 t0) (hb_Ma_toward_11 N () m p v1 t0) := by
  unfold fb_Ma_toward_11 hb_Ma_toward_11
  refine rf_ck (ox_55 R) ?_
  refine rf_bxP (rf_gz (ym_Ma_processAt R) (by omega)) (fun u65' u65 r65 r65' R_u65 h_r65 => ?_)
  refine rf_gw ?_
  refine rf_br ?_ ?_
  · refine rf_bo (rx_55_2 R_u65) ?_
    refine rf_bo (gR_M3 R_u65) ?_
    refine rf_soP R_u65.md (fun j68 h_j68 => ?_)
    refine rf_bo (gR_P2 R_u65 h_j68) ?_
    refine rf_bo (gR_M4 R_u65) ?_
    refine rf_soF R_u65.md (fun j72 h_j72 => ?_)
    refine rf_ck (io_F R_u65 h_j72) ?_
    refine rf_bx0 (rf_gz (ym_Fr_below R_u65 h_j72) (by omega)) (fun u71' u71 r71 R_u71 => ?_)
    refine rf_gw ?_
    refine rf_so ?_
    refine rf_ck (ox_43 R_u71) ?_
    refine rf_bx0 (rf_gz (ym_Te_size R_u71 ⟨_, h_j68.1, rfl, rfl⟩) (by omega)) (fun u73' u73 r73 R_u73 => ?_)
    refine rf_gw ?_
    refine rf_br ?_ ?_
    · exact (yb_Ma_toward_58 R_u73 h_r65)
    · exact (yb_Ma_toward_59 R_u73 h_r65)
  · exact (yb_Ma_toward_58 R_u65 h_r65)
theorem yb_Ma_toward_0 {N : Nat} {p : Nat} {c : Nat → Nat} {m : MS} {u : CS} (R : RP (some p) c m u) {v1 : Int32} : RF 2 (some p) VE c u (fb_Ma_toward_0 N () u 55 v1) (hb_Ma_toward_0 N () m p v1) := by
  unfold fb_Ma_toward_0 hb_Ma_toward_0
  refine rf_br ?_ ?_
  · exact (yb_Ma_toward_11 R)
  · exact (yb_Ma_toward_11 R)
theorem ym_Ma_toward {N : Nat} {p : Nat} {c : Nat → Nat} {m : MS} {u : CS} (R : RP (some p) c m u) {v1 : Int32} : RF 2 (some p) VE c u (fm_Ma_toward N u 55 v1) (hm_Ma_toward N m p v1) := yb_Ma_toward_0 (N := N) R
theorem yb_Ma_room_0 {N : Nat} {p : Nat} {c : Nat → Nat} {m : MS} {u : CS} (R : RP (some p) c m u) {v1 : Int32} : RF 3 (some p) VE c u (fb_Ma_room_0 N () u 55 v1) (hb_Ma_room_0 N () m p v1) := by
  unfold fb_Ma_room_0 hb_Ma_room_0
  refine rf_bo (gR_M3 R) ?_
  refine rf_soP R.md (fun j3 h_j3 => ?_)
  refine rf_ck (io_P R h_j3) ?_
  refine rf_bx (ym_Pr_want R h_j3) (by unfold zle; omega) (fun c_u2 u2' u2 r2 r2' R_u2 E_u2 v_u2 => ?_)
  cases v_u2
  refine rf_br ?_ ?_
  · refine rf_bo (rx_55_1 R_u2) ?_
    refine rf_bo (gR_M3 R_u2) ?_
    refine rf_so ?_
    refine rf_ck (ox_47 R_u2) ?_
    refine rf_bx0 (ym_Wl_endsBy R_u2 ⟨R_u2.md, rfl⟩) (fun u6' u6 r6 R_u6 => ?_)
    refine rf_ckk ?_
    exact rf_ret R_u6 rfl
  · refine rf_ckk ?_
    exact rf_ret R_u2 rfl
theorem ym_Ma_room {N : Nat} {p : Nat} {c : Nat → Nat} {m : MS} {u : CS} (R : RP (some p) c m u) {v1 : Int32} : RF 3 (some p) VE c u (fm_Ma_room N u 55 v1) (hm_Ma_room N m p v1) := yb_Ma_room_0 (N := N) R
theorem yb_Ma_string_126 {N : Nat} {p : Nat} {c : Nat → Nat} {m : MS} {u : CS} {G : (CS → Nat → Int32 → Int32 → Int32 → Option (CS × Unit))} {G' : (MS → Nat → Int32 → Int32 → Int32 → Option (MS × Unit))} (hG : ∀ (c : Nat → Nat) (m : MS) (u : CS) (v1 : Int32) (v2 : Int32) (v3 : Int32), RP (some p) c m u → RF 2 (some p) VE c u (G u 55 v1 v2 v3) (G' m p v1 v2 v3)) (R : RP (some p) c m u) {v1 : Int32} {t0 : Nat} {t0' : Nat} {t1 : Int64} (h_t0 : FVn c t0 t0') : RF 2 (some p) VE c u (fb_Ma_string_126 N G u 55 v1 (some t0) t1) (hb_Ma_string_126 N G' m p v1 t0' t1) := by
  unfold fb_Ma_string_126 hb_Ma_string_126
  refine rf_so ?_
  refine rf_ck (io_F R h_t0) ?_
  refine rf_ck (all1 (okR_s R (by decide))) ?_
  refine rf_bx (rf_gw (ym_Fr_push R h_t0)) (by unfold zle; omega) (fun c_u1 u1' u1 r1 r1' R_u1 E_u1 v_u1 => ?_)
  cases v_u1
  refine rf_gw ?_
  refine rf_bo (gx_55_5 R_u1) ?_
  refine rf_w (px_55_5 R_u1) (fun w4' w4 R_w4 => ?_)
  exact rf_ret R_w4 rfl
theorem yb_Ma_string_21 {N : Nat} {p : Nat} {c : Nat → Nat} {m : MS} {u : CS} {G : (CS → Nat → Int32 → Int32 → Int32 → Option (CS × Unit))} {G' : (MS → Nat → Int32 → Int32 → Int32 → Option (MS × Unit))} (hG : ∀ (c : Nat → Nat) (m : MS) (u : CS) (v1 : Int32) (v2 : Int32) (v3 : Int32), RP (some p) c m u → RF 2 (some p) VE c u (G u 55 v1 v2 v3) (G' m p v1 v2 v3)) (R : RP (some p) c m u) {v1 : Int32} {v2 : Int32} {v3 : Int32} : RF 2 (some p) VE c u (fb_Ma_string_21 N G u 55 v1 v2 v3) (hb_Ma_string_21 N G' m p v1 v2 v3) := by
  unfold fb_Ma_string_21 hb_Ma_string_21
  refine rf_br ?_ ?_
  · refine rf_bx0 (rf_gz (ym_Te_make R) (by omega)) (fun u5' u5 r5 R_u5 => ?_)
    refine rf_gw ?_
    refine rf_ck (ox_55 R_u5) ?_
    refine rf_bx0 (rf_gz (ym_Ma_endList R_u5) (by omega)) (fun u6' u6 r6 R_u6 => ?_)
    refine rf_gw ?_
    refine rf_bo (gR_M4 R_u6) ?_
    refine rf_br ?_ ?_
    · refine rf_bx0 (rf_gz (ym_Te_make R_u6) (by omega)) (fun u9' u9 r9 R_u9 => ?_)
      refine rf_gw ?_
      exact (yb_Ma_string_126 hG R_u9 ⟨R_u9.md, rfl⟩)
    · refine rf_bx0 (rf_gz (ym_Te_make R_u6) (by omega)) (fun u8' u8 r8 R_u8 => ?_)
      refine rf_gw ?_
      exact (yb_Ma_string_126 hG R_u8 ⟨R_u8.md, rfl⟩)
  · refine rf_bo (gR_M3 R) ?_
    refine rf_soP R.md (fun j11 h_j11 => ?_)
    refine rf_bo (gR_P2 R h_j11) ?_
    refine rf_bo (rx_55_0 R) ?_
    refine rf_bo (gx_55_5 R) ?_
    refine rf_so ?_
    refine rf_ck (ox_22 R) ?_
    refine rf_bx0 (rf_gz (ym_Co_at R) (by omega)) (fun u15' u15 r15 R_u15 => ?_)
    refine rf_gw ?_
    refine rf_bx0 (rf_gz (ym_Te_make R_u15) (by omega)) (fun u17' u17 r17 R_u17 => ?_)
    refine rf_gw ?_
    refine rf_so ?_
    refine rf_wk (sq_2 R_u17 h_j11.1) (fun w19' w19 R_w19 => ?_)
    refine rf_bo (gR_M3 R_w19) ?_
    refine rf_soP R_w19.md (fun j21 h_j21 => ?_)
    refine rf_bo (gR_P2 R_w19 h_j21) ?_
    refine rf_bx0 (rf_gz (ym_Te_make R_w19) (by omega)) (fun u23' u23 r23 R_u23 => ?_)
    refine rf_gw ?_
    refine rf_so ?_
    refine rf_wk (sq_2 R_u23 h_j21.1) (fun w25' w25 R_w25 => ?_)
    exact (hG _ _ _ _ _ _ R_w25)
theorem yb_Ma_string_0 {N : Nat} {p : Nat} {c : Nat → Nat} {m : MS} {u : CS} {G : (CS → Nat → Int32 → Int32 → Int32 → Option (CS × Unit))} {G' : (MS → Nat → Int32 → Int32 → Int32 → Option (MS × Unit))} (hG : ∀ (c : Nat → Nat) (m : MS) (u : CS) (v1 : Int32) (v2 : Int32) (v3 : Int32), RP (some p) c m u → RF 2 (some p) VE c u (G u 55 v1 v2 v3) (G' m p v1 v2 v3)) (R : RP (some p) c m u) {v1 : Int32} : RF 2 (some p) VE c u (fb_Ma_string_0 N G u 55 v1) (hb_Ma_string_0 N G' m p v1) := by
  unfold fb_Ma_string_0 hb_Ma_string_0
  refine rf_ck (ox_55 R) ?_
  refine rf_bx (rf_gz (ym_Ma_room R) (by omega)) (by unfold zle; omega) (fun c_u26 u26' u26 r26 r26' R_u26 E_u26 v_u26 => ?_)
  cases v_u26
  refine rf_gw ?_
  refine rf_br ?_ ?_
  · exact rf_ret R_u26 rfl
  · refine rf_bo (gR_M3 R_u26) ?_
    refine rf_soP R_u26.md (fun j28 h_j28 => ?_)
    refine rf_bo (gq_4 R_u26 h_j28) ?_
    exact (hG _ _ _ _ _ _ R_u26)
theorem yg_Ma_string {N : Nat} {p : Nat} : ∀ n, (∀ (c : Nat → Nat) (m : MS) (u : CS) (v1 : Int32) (v2 : Int32) (v3 : Int32), RP (some p) c m u → RF 2 (some p) VE c u ((gg_Ma_string N n) u 55 v1 v2 v3) ((hg_Ma_string N n) m p v1 v2 v3)) := by
  intro n
  induction n with
  | zero => exact fun c m u v1 v2 v3 R => rf_none
  | succ n ih => exact fun c m u v1 v2 v3 R => yb_Ma_string_21 (N := N) ih R
theorem ym_Ma_string {N : Nat} {p : Nat} {c : Nat → Nat} {m : MS} {u : CS} (R : RP (some p) c m u) {v1 : Int32} : RF 2 (some p) VE c u (fm_Ma_string N u 55 v1) (hm_Ma_string N m p v1) := yb_Ma_string_0 (N := N) (yg_Ma_string (N := N) N) R
theorem yb_Ma_tuple_57 {N : Nat} {p : Nat} {c : Nat → Nat} {m : MS} {u : CS} {G : (CS → Nat → Int32 → Int32 → Int32 → Option (CS × Unit))} {G' : (MS → Nat → Int32 → Int32 → Int32 → Option (MS × Unit))} (hG : ∀ (c : Nat → Nat) (m : MS) (u : CS) (v1 : Int32) (v2 : Int32) (v3 : Int32), RP (some p) c m u → RF 2 (some p) VE c u (G u 55 v1 v2 v3) (G' m p v1 v2 v3)) (R : RP (some p) c m u) {v1 : Int32} {v2 : Int32} {v3 : Int32} : RF 2 (some p) VE c u (fb_Ma_tuple_57 N G u 55 v1 v2 v3) (hb_Ma_tuple_57 N G' m p v1 v2 v3) := by
  unfold fb_Ma_tuple_57 hb_Ma_tuple_57
  refine rf_br ?_ ?_
  · refine rf_bo (gR_M3 R) ?_
    refine rf_soP R.md (fun j2 h_j2 => ?_)
    refine rf_bo (gq_4 R h_j2) ?_
    refine rf_w (wq_4 R h_j2) (fun w4' w4 R_w4 => ?_)
    refine rf_bx0 (rf_gz (ym_Te_make R_w4) (by omega)) (fun u5' u5 r5 R_u5 => ?_)
    refine rf_gw ?_
    refine rf_ck (ox_55 R_u5) ?_
    refine rf_ck (all1 (okR_s R_u5 (by decide))) ?_
    refine rf_bx (rf_gw (ym_Ma_answer R_u5)) (by unfold zle; omega) (fun c_u6 u6' u6 r6 r6' R_u6 E_u6 v_u6 => ?_)
    cases v_u6
    refine rf_gw ?_
    refine rf_bo (gx_55_5 R_u6) ?_
    refine rf_w (px_55_5 R_u6) (fun w8' w8 R_w8 => ?_)
    exact rf_ret R_w8 rfl
  · refine rf_bo (gR_M3 R) ?_
    refine rf_soP R.md (fun j10 h_j10 => ?_)
    refine rf_bo (gR_P2 R h_j10) ?_
    refine rf_bo (gR_M4 R) ?_
    refine rf_soF R.md (fun j14 h_j14 => ?_)
    refine rf_ck (io_F R h_j14) ?_
    refine rf_bx0 (rf_gz (ym_Fr_below R h_j14) (by omega)) (fun u13' u13 r13 R_u13 => ?_)
    refine rf_gw ?_
    refine rf_so ?_
    refine rf_wk (sq_2 R_u13 h_j10.1) (fun w16' w16 R_w16 => ?_)
    exact (hG _ _ _ _ _ _ R_w16)
theorem yb_Ma_tuple_0 {N : Nat} {p : Nat} {c : Nat → Nat} {m : MS} {u : CS} {G : (CS → Nat → Int32 → Int32 → Int32 → Option (CS × Unit))} {G' : (MS → Nat → Int32 → Int32 → Int32 → Option (MS × Unit))} (hG : ∀ (c : Nat → Nat) (m : MS) (u : CS) (v1 : Int32) (v2 : Int32) (v3 : Int32), RP (some p) c m u → RF 2 (some p) VE c u (G u 55 v1 v2 v3) (G' m p v1 v2 v3)) (R : RP (some p) c m u) {v1 : Int32} : RF 2 (some p) VE c u (fb_Ma_tuple_0 N G u 55 v1) (hb_Ma_tuple_0 N G' m p v1) := by
  unfold fb_Ma_tuple_0 hb_Ma_tuple_0
  refine rf_ck (ox_55 R) ?_
  refine rf_bx0 (rf_gz (ym_Ma_sizes R) (by omega)) (fun u17' u17 r17 R_u17 => ?_)
  refine rf_gw ?_
  refine rf_br ?_ ?_
  · refine rf_ck (ox_55 R_u17) ?_
    refine rf_bx (rf_gz (ym_Ma_room R_u17) (by omega)) (by unfold zle; omega) (fun c_u18 u18' u18 r18 r18' R_u18 E_u18 v_u18 => ?_)
    cases v_u18
    refine rf_gw ?_
    refine rf_br ?_ ?_
    · exact rf_ret R_u18 rfl
    · refine rf_bo (gR_M3 R_u18) ?_
      refine rf_soP R_u18.md (fun j20 h_j20 => ?_)
      refine rf_bo (gq_4 R_u18 h_j20) ?_
      refine rf_bo (gR_M3 R_u18) ?_
      refine rf_soP R_u18.md (fun j23 h_j23 => ?_)
      refine rf_bo (gR_P2 R_u18 h_j23) ?_
      refine rf_bx0 (rf_gz (ym_Te_make R_u18) (by omega)) (fun u25' u25 r25 R_u25 => ?_)
      refine rf_gw ?_
      refine rf_so ?_
      refine rf_wk (sq_2 R_u25 h_j23.1) (fun w27' w27 R_w27 => ?_)
      exact (hG _ _ _ _ _ _ R_w27)
  · refine rf_ck (ox_55 R_u17) ?_
    refine rf_bx0 (rf_gz (ym_Ma_wrong R_u17) (by omega)) (fun u28' u28 r28 R_u28 => ?_)
    refine rf_gw ?_
    exact rf_ret R_u28 rfl
theorem yg_Ma_tuple {N : Nat} {p : Nat} : ∀ n, (∀ (c : Nat → Nat) (m : MS) (u : CS) (v1 : Int32) (v2 : Int32) (v3 : Int32), RP (some p) c m u → RF 2 (some p) VE c u ((gg_Ma_tuple N n) u 55 v1 v2 v3) ((hg_Ma_tuple N n) m p v1 v2 v3)) := by
  intro n
  induction n with
  | zero => exact fun c m u v1 v2 v3 R => rf_none
  | succ n ih => exact fun c m u v1 v2 v3 R => yb_Ma_tuple_57 (N := N) ih R
theorem ym_Ma_tuple {N : Nat} {p : Nat} {c : Nat → Nat} {m : MS} {u : CS} (R : RP (some p) c m u) {v1 : Int32} : RF 2 (some p) VE c u (fm_Ma_tuple N u 55 v1) (hm_Ma_tuple N m p v1) := yb_Ma_tuple_0 (N := N) (yg_Ma_tuple (N := N) N) R
theorem yb_Ma_list_44 {N : Nat} {p : Nat} {c : Nat → Nat} {m : MS} {u : CS} {G : (CS → Nat → Int32 → Int32 → Int32 → Option (CS × Unit))} {G' : (MS → Nat → Int32 → Int32 → Int32 → Option (MS × Unit))} (hG : ∀ (c : Nat → Nat) (m : MS) (u : CS) (v1 : Int32) (v2 : Int32) (v3 : Int32), RP (some p) c m u → RF 2 (some p) VE c u (G u 55 v1 v2 v3) (G' m p v1 v2 v3)) (R : RP (some p) c m u) {v1 : Int32} {v2 : Int32} {v3 : Int32} : RF 2 (some p) VE c u (fb_Ma_list_44 N G u 55 v1 v2 v3) (hb_Ma_list_44 N G' m p v1 v2 v3) := by
  unfold fb_Ma_list_44 hb_Ma_list_44
  refine rf_br ?_ ?_
  · refine rf_bo (gR_M4 R) ?_
    refine rf_soF R.md (fun j3 h_j3 => ?_)
    refine rf_ck (io_F R h_j3) ?_
    refine rf_bx0 (rf_gz (ym_Fr_below R h_j3) (by omega)) (fun u2' u2 r2 R_u2 => ?_)
    refine rf_gw ?_
    refine rf_ck (ox_55 R_u2) ?_
    refine rf_bx0 (rf_gz (ym_Ma_endList R_u2) (by omega)) (fun u4' u4 r4 R_u4 => ?_)
    refine rf_gw ?_
    refine rf_bx0 (rf_gz (ym_Te_make R_u4) (by omega)) (fun u5' u5 r5 R_u5 => ?_)
    refine rf_gw ?_
    refine rf_ck (ox_55 R_u5) ?_
    refine rf_ck (all1 (okR_s R_u5 (by decide))) ?_
    refine rf_bx (rf_gw (ym_Ma_answer R_u5)) (by unfold zle; omega) (fun c_u6 u6' u6 r6 r6' R_u6 E_u6 v_u6 => ?_)
    cases v_u6
    refine rf_gw ?_
    refine rf_bo (gx_55_5 R_u6) ?_
    refine rf_w (px_55_5 R_u6) (fun w8' w8 R_w8 => ?_)
    exact rf_ret R_w8 rfl
  · refine rf_bo (gR_M3 R) ?_
    refine rf_soP R.md (fun j10 h_j10 => ?_)
    refine rf_bo (gR_P2 R h_j10) ?_
    refine rf_bo (gR_M4 R) ?_
    refine rf_soF R.md (fun j14 h_j14 => ?_)
    refine rf_ck (io_F R h_j14) ?_
    refine rf_bx0 (rf_gz (ym_Fr_below R h_j14) (by omega)) (fun u13' u13 r13 R_u13 => ?_)
    refine rf_gw ?_
    refine rf_so ?_
    refine rf_wk (sq_2 R_u13 h_j10.1) (fun w16' w16 R_w16 => ?_)
    refine rf_bo (gR_M3 R_w16) ?_
    refine rf_soP R_w16.md (fun j18 h_j18 => ?_)
    refine rf_bo (gR_P2 R_w16 h_j18) ?_
    refine rf_bx0 (rf_gz (ym_Te_make R_w16) (by omega)) (fun u20' u20 r20 R_u20 => ?_)
    refine rf_gw ?_
    refine rf_so ?_
    refine rf_wk (sq_2 R_u20 h_j18.1) (fun w22' w22 R_w22 => ?_)
    exact (hG _ _ _ _ _ _ R_w22)
theorem yb_Ma_list_0 {N : Nat} {p : Nat} {c : Nat → Nat} {m : MS} {u : CS} {G : (CS → Nat → Int32 → Int32 → Int32 → Option (CS × Unit))} {G' : (MS → Nat → Int32 → Int32 → Int32 → Option (MS × Unit))} (hG : ∀ (c : Nat → Nat) (m : MS) (u : CS) (v1 : Int32) (v2 : Int32) (v3 : Int32), RP (some p) c m u → RF 2 (some p) VE c u (G u 55 v1 v2 v3) (G' m p v1 v2 v3)) (R : RP (some p) c m u) {v1 : Int32} : RF 2 (some p) VE c u (fb_Ma_list_0 N G u 55 v1) (hb_Ma_list_0 N G' m p v1) := by
  unfold fb_Ma_list_0 hb_Ma_list_0
  refine rf_ck (ox_55 R) ?_
  refine rf_bx0 (rf_gz (ym_Ma_sizes R) (by omega)) (fun u23' u23 r23 R_u23 => ?_)
  refine rf_gw ?_
  refine rf_br ?_ ?_
  · refine rf_ck (ox_55 R_u23) ?_
    refine rf_bx (rf_gz (ym_Ma_room R_u23) (by omega)) (by unfold zle; omega) (fun c_u24 u24' u24 r24 r24' R_u24 E_u24 v_u24 => ?_)
    cases v_u24
    refine rf_gw ?_
    refine rf_br ?_ ?_
    · exact rf_ret R_u24 rfl
    · refine rf_bo (gR_M3 R_u24) ?_
      refine rf_soP R_u24.md (fun j26 h_j26 => ?_)
      refine rf_bo (gq_4 R_u24 h_j26) ?_
      exact (hG _ _ _ _ _ _ R_u24)
  · refine rf_ck (ox_55 R_u23) ?_
    refine rf_bx0 (rf_gz (ym_Ma_wrong R_u23) (by omega)) (fun u28' u28 r28 R_u28 => ?_)
    refine rf_gw ?_
    exact rf_ret R_u28 rfl
theorem yg_Ma_list {N : Nat} {p : Nat} : ∀ n, (∀ (c : Nat → Nat) (m : MS) (u : CS) (v1 : Int32) (v2 : Int32) (v3 : Int32), RP (some p) c m u → RF 2 (some p) VE c u ((gg_Ma_list N n) u 55 v1 v2 v3) ((hg_Ma_list N n) m p v1 v2 v3)) := by
  intro n
  induction n with
  | zero => exact fun c m u v1 v2 v3 R => rf_none
  | succ n ih => exact fun c m u v1 v2 v3 R => yb_Ma_list_44 (N := N) ih R
theorem ym_Ma_list {N : Nat} {p : Nat} {c : Nat → Nat} {m : MS} {u : CS} (R : RP (some p) c m u) {v1 : Int32} : RF 2 (some p) VE c u (fm_Ma_list N u 55 v1) (hm_Ma_list N m p v1) := yb_Ma_list_0 (N := N) (yg_Ma_list (N := N) N) R
theorem yb_Ma_fun_144 {N : Nat} {p : Nat} {c : Nat → Nat} {m : MS} {u : CS} {G : (CS → Nat → Int32 → Int32 → Int32 → Int32 → Option (CS × Unit)) × (CS → Nat → Int32 → Int32 → Int32 → Option (CS × Unit))} {G' : (MS → Nat → Int32 → Int32 → Int32 → Int32 → Option (MS × Unit)) × (MS → Nat → Int32 → Int32 → Int32 → Option (MS × Unit))} (hG1 : ∀ (c : Nat → Nat) (m : MS) (u : CS) (v1 : Int32) (v2 : Int32) (v3 : Int32) (v4 : Int32), RP (some p) c m u → RF 2 (some p) VE c u (G.1 u 55 v1 v2 v3 v4) (G'.1 m p v1 v2 v3 v4)) (hG2 : ∀ (c : Nat → Nat) (m : MS) (u : CS) (v2 : Int32) (v4 : Int32) (v5 : Int32), RP (some p) c m u → RF 2 (some p) VE c u (G.2 u 55 v2 v4 v5) (G'.2 m p v2 v4 v5)) (R : RP (some p) c m u) {v2 : Int32} {v4 : Int32} {v5 : Int32} : RF 2 (some p) VE c u (fb_Ma_fun_144 N G u 55 v2 v4 v5) (hb_Ma_fun_144 N G' m p v2 v4 v5) := by
  unfold fb_Ma_fun_144 hb_Ma_fun_144
  refine rf_br ?_ ?_
  · refine rf_bo (gR_M3 R) ?_
    refine rf_soP R.md (fun j2 h_j2 => ?_)
    refine rf_bo (gq_4 R h_j2) ?_
    refine rf_w (wq_4 R h_j2) (fun w4' w4 R_w4 => ?_)
    refine rf_bo (gR_M4 R_w4) ?_
    refine rf_bx0 (rf_gz (ym_Te_make R_w4) (by omega)) (fun u6' u6 r6 R_u6 => ?_)
    refine rf_gw ?_
    refine rf_soF R_u6.md (fun j8 h_j8 => ?_)
    refine rf_ck (io_F R_u6 h_j8) ?_
    refine rf_ck (all1 (okR_s R_u6 (by decide))) ?_
    refine rf_bx (rf_gw (ym_Fr_push R_u6 h_j8)) (by unfold zle; omega) (fun c_u7 u7' u7 r7 r7' R_u7 E_u7 v_u7 => ?_)
    cases v_u7
    refine rf_gw ?_
    refine rf_bo (gx_55_5 R_u7) ?_
    refine rf_w (px_55_5 R_u7) (fun w10' w10 R_w10 => ?_)
    exact rf_ret R_w10 rfl
  · refine rf_bo (gR_M3 R) ?_
    refine rf_soP R.md (fun j12 h_j12 => ?_)
    refine rf_bo (gR_P2 R h_j12) ?_
    refine rf_bo (gR_M4 R) ?_
    refine rf_bo (rx_55_0 R) ?_
    refine rf_bo (gx_55_5 R) ?_
    refine rf_so ?_
    refine rf_ck (ox_22 R) ?_
    refine rf_bx0 (rf_gz (ym_Co_at R) (by omega)) (fun u17' u17 r17 R_u17 => ?_)
    refine rf_gw ?_
    refine rf_soF R_u17.md (fun j20 h_j20 => ?_)
    refine rf_ck (io_F R_u17 h_j20) ?_
    refine rf_bx0 (rf_gz (ym_Fr_termOf R_u17 h_j20) (by omega)) (fun u19' u19 r19 R_u19 => ?_)
    refine rf_gw ?_
    refine rf_so ?_
    refine rf_wk (sq_2 R_u19 h_j12.1) (fun w22' w22 R_w22 => ?_)
    exact (hG2 _ _ _ _ _ _ R_w22)
theorem yb_Ma_fun_21 {N : Nat} {p : Nat} {c : Nat → Nat} {m : MS} {u : CS} {G : (CS → Nat → Int32 → Int32 → Int32 → Int32 → Option (CS × Unit)) × (CS → Nat → Int32 → Int32 → Int32 → Option (CS × Unit))} {G' : (MS → Nat → Int32 → Int32 → Int32 → Int32 → Option (MS × Unit)) × (MS → Nat → Int32 → Int32 → Int32 → Option (MS × Unit))} (hG1 : ∀ (c : Nat → Nat) (m : MS) (u : CS) (v1 : Int32) (v2 : Int32) (v3 : Int32) (v4 : Int32), RP (some p) c m u → RF 2 (some p) VE c u (G.1 u 55 v1 v2 v3 v4) (G'.1 m p v1 v2 v3 v4)) (hG2 : ∀ (c : Nat → Nat) (m : MS) (u : CS) (v2 : Int32) (v4 : Int32) (v5 : Int32), RP (some p) c m u → RF 2 (some p) VE c u (G.2 u 55 v2 v4 v5) (G'.2 m p v2 v4 v5)) (R : RP (some p) c m u) {v1 : Int32} {v2 : Int32} {v3 : Int32} {v4 : Int32} : RF 2 (some p) VE c u (fb_Ma_fun_21 N G u 55 v1 v2 v3 v4) (hb_Ma_fun_21 N G' m p v1 v2 v3 v4) := by
  unfold fb_Ma_fun_21 hb_Ma_fun_21
  refine rf_br ?_ ?_
  · refine rf_br ?_ ?_
    · refine rf_ck (ox_55 R) ?_
      refine rf_bx (rf_gz (ym_Ma_room R) (by omega)) (by unfold zle; omega) (fun c_u23 u23' u23 r23 r23' R_u23 E_u23 v_u23 => ?_)
      cases v_u23
      refine rf_gw ?_
      refine rf_br ?_ ?_
      · exact rf_ret R_u23 rfl
      · refine rf_bo (gR_M3 R_u23) ?_
        refine rf_soP R_u23.md (fun j25 h_j25 => ?_)
        refine rf_bo (gq_4 R_u23 h_j25) ?_
        refine rf_bo (gR_M3 R_u23) ?_
        refine rf_soP R_u23.md (fun j28 h_j28 => ?_)
        refine rf_bo (gR_P2 R_u23 h_j28) ?_
        refine rf_bx0 (rf_gz (ym_Te_make R_u23) (by omega)) (fun u30' u30 r30 R_u30 => ?_)
        refine rf_gw ?_
        refine rf_so ?_
        refine rf_wk (sq_2 R_u30 h_j28.1) (fun w32' w32 R_w32 => ?_)
        refine rf_bo (gR_M3 R_w32) ?_
        refine rf_soP R_w32.md (fun j34 h_j34 => ?_)
        refine rf_bo (gR_P2 R_w32 h_j34) ?_
        refine rf_bx0 (rf_gz (ym_Te_make R_w32) (by omega)) (fun u36' u36 r36 R_u36 => ?_)
        refine rf_gw ?_
        refine rf_so ?_
        refine rf_wk (sq_2 R_u36 h_j34.1) (fun w38' w38 R_w38 => ?_)
        exact (hG2 _ _ _ _ _ _ R_w38)
    · refine rf_ck (ox_55 R) ?_
      refine rf_bx0 (rf_gz (ym_Ma_wrong R) (by omega)) (fun u39' u39 r39 R_u39 => ?_)
      refine rf_gw ?_
      exact rf_ret R_u39 rfl
  · refine rf_bo (rx_55_2 R) ?_
    refine rf_bo (gR_M3 R) ?_
    refine rf_soP R.md (fun j42 h_j42 => ?_)
    refine rf_bo (gR_P2 R h_j42) ?_
    refine rf_bo (gR_M4 R) ?_
    refine rf_bo (rx_55_0 R) ?_
    refine rf_bo (gx_55_5 R) ?_
    refine rf_so ?_
    refine rf_ck (ox_22 R) ?_
    refine rf_bx0 (rf_gz (ym_Co_at R) (by omega)) (fun u47' u47 r47 R_u47 => ?_)
    refine rf_gw ?_
    refine rf_soF R_u47.md (fun j50 h_j50 => ?_)
    refine rf_ck (io_F R_u47 h_j50) ?_
    refine rf_bx0 (rf_gz (ym_Fr_termOf R_u47 h_j50) (by omega)) (fun u49' u49 r49 R_u49 => ?_)
    refine rf_gw ?_
    refine rf_so ?_
    refine rf_ck (ox_43 R_u49) ?_
    refine rf_bx0 (rf_gz (ym_Te_size R_u49 ⟨_, h_j42.1, rfl, rfl⟩) (by omega)) (fun u51' u51 r51 R_u51 => ?_)
    refine rf_gw ?_
    exact (hG1 _ _ _ _ _ _ _ R_u51)
theorem yb_Ma_fun_0 {N : Nat} {p : Nat} {c : Nat → Nat} {m : MS} {u : CS} {G : (CS → Nat → Int32 → Int32 → Int32 → Int32 → Option (CS × Unit)) × (CS → Nat → Int32 → Int32 → Int32 → Option (CS × Unit))} {G' : (MS → Nat → Int32 → Int32 → Int32 → Int32 → Option (MS × Unit)) × (MS → Nat → Int32 → Int32 → Int32 → Option (MS × Unit))} (hG1 : ∀ (c : Nat → Nat) (m : MS) (u : CS) (v1 : Int32) (v2 : Int32) (v3 : Int32) (v4 : Int32), RP (some p) c m u → RF 2 (some p) VE c u (G.1 u 55 v1 v2 v3 v4) (G'.1 m p v1 v2 v3 v4)) (hG2 : ∀ (c : Nat → Nat) (m : MS) (u : CS) (v2 : Int32) (v4 : Int32) (v5 : Int32), RP (some p) c m u → RF 2 (some p) VE c u (G.2 u 55 v2 v4 v5) (G'.2 m p v2 v4 v5)) (R : RP (some p) c m u) {v1 : Int32} : RF 2 (some p) VE c u (fb_Ma_fun_0 N G u 55 v1) (hb_Ma_fun_0 N G' m p v1) := by
  unfold fb_Ma_fun_0 hb_Ma_fun_0
  refine rf_bo (rx_55_0 R) ?_
  refine rf_bo (gx_55_5 R) ?_
  refine rf_so ?_
  refine rf_ck (ox_22 R) ?_
  refine rf_bx0 (rf_gz (ym_Co_at R) (by omega)) (fun u55' u55 r55 R_u55 => ?_)
  refine rf_gw ?_
  exact (hG1 _ _ _ _ _ _ _ R_u55)
theorem yg_Ma_fun {N : Nat} {p : Nat} : ∀ n, (∀ (c : Nat → Nat) (m : MS) (u : CS) (v1 : Int32) (v2 : Int32) (v3 : Int32) (v4 : Int32), RP (some p) c m u → RF 2 (some p) VE c u ((gg_Ma_fun N n).1 u 55 v1 v2 v3 v4) ((hg_Ma_fun N n).1 m p v1 v2 v3 v4)) ∧ (∀ (c : Nat → Nat) (m : MS) (u : CS) (v2 : Int32) (v4 : Int32) (v5 : Int32), RP (some p) c m u → RF 2 (some p) VE c u ((gg_Ma_fun N n).2 u 55 v2 v4 v5) ((hg_Ma_fun N n).2 m p v2 v4 v5)) := by
  intro n
  induction n with
  | zero => exact ⟨fun c m u v1 v2 v3 v4 R => rf_none, fun c m u v2 v4 v5 R => rf_none⟩
  | succ n ih => exact ⟨fun c m u v1 v2 v3 v4 R => yb_Ma_fun_21 (N := N) ih.1 ih.2 R, fun c m u v2 v4 v5 R => yb_Ma_fun_144 (N := N) ih.1 ih.2 R⟩
theorem ym_Ma_fun {N : Nat} {p : Nat} {c : Nat → Nat} {m : MS} {u : CS} (R : RP (some p) c m u) {v1 : Int32} : RF 2 (some p) VE c u (fm_Ma_fun N u 55 v1) (hm_Ma_fun N m p v1) := yb_Ma_fun_0 (N := N) (yg_Ma_fun (N := N) N).1 (yg_Ma_fun (N := N) N).2 R
theorem yb_Ma_funOf_0 {N : Nat} {p : Nat} {c : Nat → Nat} {m : MS} {u : CS} (R : RP (some p) c m u) {v1 : Int32} : RF 2 (some p) VE c u (fb_Ma_funOf_0 N () u 55 v1) (hb_Ma_funOf_0 N () m p v1) := by
  unfold fb_Ma_funOf_0 hb_Ma_funOf_0
  refine rf_ck (ox_55 R) ?_
  refine rf_bx (rf_gz (ym_Ma_room R) (by omega)) (by unfold zle; omega) (fun c_u1 u1' u1 r1 r1' R_u1 E_u1 v_u1 => ?_)
  cases v_u1
  refine rf_gw ?_
  refine rf_br ?_ ?_
  · exact rf_ret R_u1 rfl
  · refine rf_bo (gR_M3 R_u1) ?_
    refine rf_soP R_u1.md (fun j3 h_j3 => ?_)
    refine rf_bo (gq_4 R_u1 h_j3) ?_
    refine rf_bo (gR_M3 R_u1) ?_
    refine rf_soP R_u1.md (fun j6 h_j6 => ?_)
    refine rf_bo (gR_P2 R_u1 h_j6) ?_
    refine rf_bx0 (rf_gz (ym_Te_make R_u1) (by omega)) (fun u8' u8 r8 R_u8 => ?_)
    refine rf_gw ?_
    refine rf_so ?_
    refine rf_wk (sq_2 R_u8 h_j6.1) (fun w10' w10 R_w10 => ?_)
    refine rf_bo (gR_M3 R_w10) ?_
    refine rf_soP R_w10.md (fun j12 h_j12 => ?_)
    refine rf_bo (gR_P2 R_w10 h_j12) ?_
    refine rf_bx0 (rf_gz (ym_Te_make R_w10) (by omega)) (fun u14' u14 r14 R_u14 => ?_)
    refine rf_gw ?_
    refine rf_so ?_
    refine rf_wk (sq_2 R_u14 h_j12.1) (fun w16' w16 R_w16 => ?_)
    refine rf_bo (gR_M3 R_w16) ?_
    refine rf_soP R_w16.md (fun j18 h_j18 => ?_)
    refine rf_bo (gq_4 R_w16 h_j18) ?_
    refine rf_w (wq_4 R_w16 h_j18) (fun w20' w20 R_w20 => ?_)
    refine rf_bo (gR_M4 R_w20) ?_
    refine rf_bx0 (rf_gz (ym_Te_make R_w20) (by omega)) (fun u22' u22 r22 R_u22 => ?_)
    refine rf_gw ?_
    refine rf_soF R_u22.md (fun j24 h_j24 => ?_)
    refine rf_ck (io_F R_u22 h_j24) ?_
    refine rf_ck (all1 (okR_s R_u22 (by decide))) ?_
    refine rf_bx (rf_gw (ym_Fr_push R_u22 h_j24)) (by unfold zle; omega) (fun c_u23 u23' u23 r23 r23' R_u23 E_u23 v_u23 => ?_)
    cases v_u23
    refine rf_gw ?_
    refine rf_bo (gx_55_5 R_u23) ?_
    refine rf_w (px_55_5 R_u23) (fun w26' w26 R_w26 => ?_)
    exact rf_ret R_w26 rfl
theorem ym_Ma_funOf {N : Nat} {p : Nat} {c : Nat → Nat} {m : MS} {u : CS} (R : RP (some p) c m u) {v1 : Int32} : RF 2 (some p) VE c u (fm_Ma_funOf N u 55 v1) (hm_Ma_funOf N m p v1) := yb_Ma_funOf_0 (N := N) R
theorem yb_Ma_making_166 {N : Nat} {p : Nat} {c : Nat → Nat} {m : MS} {u : CS} (R : RP (some p) c m u) : RF 2 (some p) VE c u (fb_Ma_making_166 N () u) (hb_Ma_making_166 N () m p) := by
  unfold fb_Ma_making_166 hb_Ma_making_166
  exact rf_ret R rfl
theorem yb_Ma_making_0 {N : Nat} {p : Nat} {c : Nat → Nat} {m : MS} {u : CS} (R : RP (some p) c m u) {v1 : Int32} : RF 2 (some p) VE c u (fb_Ma_making_0 N () u 55 v1) (hb_Ma_making_0 N () m p v1) := by
  unfold fb_Ma_making_0 hb_Ma_making_0
  refine rf_bo (rx_55_0 R) ?_
  refine rf_bo (gx_55_5 R) ?_
  refine rf_so ?_
  refine rf_ck (ox_22 R) ?_
  refine rf_bx0 (rf_gz (ym_Co_at R) (by omega)) (fun u3' u3 r3 R_u3 => ?_)
  refine rf_gw ?_
  refine rf_br ?_ ?_
  · refine rf_bo (gR_M4 R_u3) ?_
    refine rf_bo (rx_55_0 R_u3) ?_
    refine rf_bo (gx_55_5 R_u3) ?_
    refine rf_so ?_
    refine rf_ck (ox_22 R_u3) ?_
    refine rf_bx0 (rf_gz (ym_Co_at R_u3) (by omega)) (fun u8' u8 r8 R_u8 => ?_)
    refine rf_gw ?_
    refine rf_bx0 (rf_gz (ym_Te_make R_u8) (by omega)) (fun u10' u10 r10 R_u10 => ?_)
    refine rf_gw ?_
    refine rf_soF R_u10.md (fun j12 h_j12 => ?_)
    refine rf_ck (io_F R_u10 h_j12) ?_
    refine rf_ck (all1 (okR_s R_u10 (by decide))) ?_
    refine rf_bx (rf_gw (ym_Fr_push R_u10 h_j12)) (by unfold zle; omega) (fun c_u11 u11' u11 r11 r11' R_u11 E_u11 v_u11 => ?_)
    cases v_u11
    refine rf_gw ?_
    refine rf_bo (gx_55_5 R_u11) ?_
    refine rf_w (px_55_5 R_u11) (fun w14' w14 R_w14 => ?_)
    exact (yb_Ma_making_166 R_w14)
  · refine rf_br ?_ ?_
    · refine rf_ck (ox_55 R_u3) ?_
      refine rf_ck (all1 (okR_s R_u3 (by decide))) ?_
      refine rf_bx (rf_gw (ym_Ma_string R_u3)) (by unfold zle; omega) (fun c_u15 u15' u15 r15 r15' R_u15 E_u15 v_u15 => ?_)
      cases v_u15
      refine rf_gw ?_
      exact (yb_Ma_making_166 R_u15)
    · refine rf_br ?_ ?_
      · refine rf_bo (gR_M4 R_u3) ?_
        refine rf_bo (gR_M4 R_u3) ?_
        refine rf_soF R_u3.md (fun j19 h_j19 => ?_)
        refine rf_ck (io_F R_u3 h_j19) ?_
        refine rf_bx0 (rf_gz (ym_Fr_termOf R_u3 h_j19) (by omega)) (fun u18' u18 r18 R_u18 => ?_)
        refine rf_gw ?_
        refine rf_soF R_u18.md (fun j21 h_j21 => ?_)
        refine rf_ck (io_F R_u18 h_j21) ?_
        refine rf_ck (all1 (okR_s R_u18 (by decide))) ?_
        refine rf_bx (rf_gw (ym_Fr_push R_u18 h_j21)) (by unfold zle; omega) (fun c_u20 u20' u20 r20 r20' R_u20 E_u20 v_u20 => ?_)
        cases v_u20
        refine rf_gw ?_
        refine rf_bo (gx_55_5 R_u20) ?_
        refine rf_w (px_55_5 R_u20) (fun w23' w23 R_w23 => ?_)
        exact (yb_Ma_making_166 R_w23)
      · refine rf_br ?_ ?_
        · refine rf_ck (ox_55 R_u3) ?_
          refine rf_ck (all1 (okR_s R_u3 (by decide))) ?_
          refine rf_bx (rf_gw (ym_Ma_tuple R_u3)) (by unfold zle; omega) (fun c_u24 u24' u24 r24 r24' R_u24 E_u24 v_u24 => ?_)
          cases v_u24
          refine rf_gw ?_
          exact (yb_Ma_making_166 R_u24)
        · refine rf_br ?_ ?_
          · refine rf_ck (ox_55 R_u3) ?_
            refine rf_ck (all1 (okR_s R_u3 (by decide))) ?_
            refine rf_bx (rf_gw (ym_Ma_list R_u3)) (by unfold zle; omega) (fun c_u25 u25' u25 r25 r25' R_u25 E_u25 v_u25 => ?_)
            cases v_u25
            refine rf_gw ?_
            exact (yb_Ma_making_166 R_u25)
          · refine rf_br ?_ ?_
            · refine rf_ck (ox_55 R_u3) ?_
              refine rf_ck (all1 (okR_s R_u3 (by decide))) ?_
              refine rf_bx (rf_gw (ym_Ma_fun R_u3)) (by unfold zle; omega) (fun c_u26 u26' u26 r26 r26' R_u26 E_u26 v_u26 => ?_)
              cases v_u26
              refine rf_gw ?_
              exact (yb_Ma_making_166 R_u26)
            · refine rf_br ?_ ?_
              · refine rf_ck (ox_55 R_u3) ?_
                refine rf_ck (all1 (okR_s R_u3 (by decide))) ?_
                refine rf_bx (rf_gw (ym_Ma_funOf R_u3)) (by unfold zle; omega) (fun c_u27 u27' u27 r27 r27' R_u27 E_u27 v_u27 => ?_)
                cases v_u27
                refine rf_gw ?_
                exact (yb_Ma_making_166 R_u27)
              · refine rf_w (px_55_8 R_u3) (fun w28' w28 R_w28 => ?_)
                exact (yb_Ma_making_166 R_w28)
theorem ym_Ma_making {N : Nat} {p : Nat} {c : Nat → Nat} {m : MS} {u : CS} (R : RP (some p) c m u) {v1 : Int32} : RF 2 (some p) VE c u (fm_Ma_making N u 55 v1) (hm_Ma_making N m p v1) := yb_Ma_making_0 (N := N) R
theorem yb_Te_orderAlone_107 {N : Nat} {o : Option Nat} {c : Nat → Nat} {m : MS} {u : CS} (R : RP o c m u) {t0 : Int32} : RF 0 o VE c u (fb_Te_orderAlone_107 N () u t0) (hb_Te_orderAlone_107 N () m t0) := by
  unfold fb_Te_orderAlone_107 hb_Te_orderAlone_107
  exact rf_ret R rfl
theorem yb_Te_orderAlone_75 {N : Nat} {o : Option Nat} {c : Nat → Nat} {m : MS} {u : CS} (R : RP o c m u) {v1 : Nat} {v1' : Nat} {v7 : Int32} {v8 : Int32} (h_v1 : CVn c v1 v1') : RF 0 o VE c u (fb_Te_orderAlone_75 N () u (some v1) v7 v8) (hb_Te_orderAlone_75 N () m v1' v7 v8) := by
  unfold fb_Te_orderAlone_75 hb_Te_orderAlone_75
  refine rf_so ?_
  refine rf_ai (aq_C R h_v1) ?_
  refine rf_so ?_
  refine rf_ai (aq_C R h_v1) ?_
  refine rf_bx0 (ym_JI_compare R) (fun u5' u5 r5 R_u5 => ?_)
  exact rf_ret R_u5 rfl
theorem yb_Te_orderAlone_62 {N : Nat} {o : Option Nat} {c : Nat → Nat} {m : MS} {u : CS} (R : RP o c m u) {t0 : Int32} : RF 0 o VE c u (fb_Te_orderAlone_62 N () u t0) (hb_Te_orderAlone_62 N () m t0) := by
  unfold fb_Te_orderAlone_62 hb_Te_orderAlone_62
  exact rf_ret R rfl
theorem yb_Te_orderAlone_0 {N : Nat} {o : Option Nat} {c : Nat → Nat} {m : MS} {u : CS} (R : RP o c m u) {v1 : Nat} {v1' : Nat} {v2 : Int64} {v4 : Int64} (h_v1 : CVn c v1 v1') : RF 0 o VE c u (fb_Te_orderAlone_0 N () u 43 (some v1) v2 v4) (hb_Te_orderAlone_0 N () m v1' v2 v4) := by
  unfold fb_Te_orderAlone_0 hb_Te_orderAlone_0
  refine rf_bx0 (ym_Te_tag R) (fun u6' u6 r6 R_u6 => ?_)
  refine rf_bx0 (ym_Te_tag R_u6) (fun u7' u7 r7 R_u7 => ?_)
  refine rf_br ?_ ?_
  · refine rf_br ?_ ?_
    · refine rf_br ?_ ?_
      · exact (yb_Te_orderAlone_62 R_u7)
      · refine rf_bo (rx_43_3 R_u7) ?_
        refine rf_so ?_
        refine rf_ck (ox_1 R_u7) ?_
        refine rf_bx0 (ym_Wo_order R_u7 (by unfold isWd; omega)) (fun u10' u10 r10 R_u10 => ?_)
        exact (yb_Te_orderAlone_62 R_u10)
    · refine rf_br ?_ ?_
      · exact (yb_Te_orderAlone_75 R_u7 h_v1)
      · refine rf_br ?_ ?_
        · exact (yb_Te_orderAlone_75 R_u7 h_v1)
        · refine rf_br ?_ ?_
          · exact (yb_Te_orderAlone_107 R_u7)
          · refine rf_bx0 (ym_JI_compare R_u7) (fun u8' u8 r8 R_u8 => ?_)
            exact (yb_Te_orderAlone_107 R_u8)
  · refine rf_bx0 (ym_Te_tag R_u7) (fun u12' u12 r12 R_u12 => ?_)
    exact rf_ret R_u12 rfl
theorem ym_Te_orderAlone {N : Nat} {o : Option Nat} {c : Nat → Nat} {m : MS} {u : CS} (R : RP o c m u) {v1 : Nat} {v1' : Nat} {v2 : Int64} {v4 : Int64} (h_v1 : CVn c v1 v1') : RF 0 o VE c u (fm_Te_orderAlone N u 43 (some v1) v2 v4) (hm_Te_orderAlone N m v1' v2 v4) := yb_Te_orderAlone_0 (N := N) R h_v1
theorem yb_Te_order_179 {N : Nat} {o : Option Nat} {c : Nat → Nat} {m : MS} {u : CS} {G : (CS → Nat → Option Nat → Int32 → Int32 → Option (CS × Int32)) × (CS → Nat → Option Nat → Int32 → Int32 → Int32 → Int32 → Int32 → Int32 → Option (CS × Int32))} {G' : (MS → Nat → Int32 → Int32 → Option (MS × Int32)) × (MS → Nat → Int32 → Int32 → Int32 → Int32 → Int32 → Int32 → Option (MS × Int32))} (hG1 : ∀ (c : Nat → Nat) (m : MS) (u : CS) (v1 : Nat) (v1' : Nat) (v6 : Int32) (v7 : Int32), RP o c m u → CVn c v1 v1' → RF 0 o VE c u (G.1 u 43 (some v1) v6 v7) (G'.1 m v1' v6 v7)) (hG2 : ∀ (c : Nat → Nat) (m : MS) (u : CS) (v1 : Nat) (v1' : Nat) (v6 : Int32) (v7 : Int32) (v9 : Int32) (v10 : Int32) (v12 : Int32) (v13 : Int32), RP o c m u → CVn c v1 v1' → RF 0 o VE c u (G.2 u 43 (some v1) v6 v7 v9 v10 v12 v13) (G'.2 m v1' v6 v7 v9 v10 v12 v13)) (R : RP o c m u) : RF 0 o VE c u (fb_Te_order_179 N G u) (hb_Te_order_179 N G' m) := by
  unfold fb_Te_order_179 hb_Te_order_179
  exact rf_ret R rfl
theorem yb_Te_order_173 {N : Nat} {o : Option Nat} {c : Nat → Nat} {m : MS} {u : CS} {G : (CS → Nat → Option Nat → Int32 → Int32 → Option (CS × Int32)) × (CS → Nat → Option Nat → Int32 → Int32 → Int32 → Int32 → Int32 → Int32 → Option (CS × Int32))} {G' : (MS → Nat → Int32 → Int32 → Option (MS × Int32)) × (MS → Nat → Int32 → Int32 → Int32 → Int32 → Int32 → Int32 → Option (MS × Int32))} (hG1 : ∀ (c : Nat → Nat) (m : MS) (u : CS) (v1 : Nat) (v1' : Nat) (v6 : Int32) (v7 : Int32), RP o c m u → CVn c v1 v1' → RF 0 o VE c u (G.1 u 43 (some v1) v6 v7) (G'.1 m v1' v6 v7)) (hG2 : ∀ (c : Nat → Nat) (m : MS) (u : CS) (v1 : Nat) (v1' : Nat) (v6 : Int32) (v7 : Int32) (v9 : Int32) (v10 : Int32) (v12 : Int32) (v13 : Int32), RP o c m u → CVn c v1 v1' → RF 0 o VE c u (G.2 u 43 (some v1) v6 v7 v9 v10 v12 v13) (G'.2 m v1' v6 v7 v9 v10 v12 v13)) (R : RP o c m u) {v1 : Nat} {v1' : Nat} {v6 : Int32} {v7 : Int32} (h_v1 : CVn c v1 v1') : RF 0 o VE c u (fb_Te_order_173 N G u 43 (some v1) v6 v7) (hb_Te_order_173 N G' m v1' v6 v7) := by
  unfold fb_Te_order_173 hb_Te_order_173
  exact (hG1 _ _ _ _ _ _ _ R h_v1)
theorem yb_Te_order_121 {N : Nat} {o : Option Nat} {c : Nat → Nat} {m : MS} {u : CS} {G : (CS → Nat → Option Nat → Int32 → Int32 → Option (CS × Int32)) × (CS → Nat → Option Nat → Int32 → Int32 → Int32 → Int32 → Int32 → Int32 → Option (CS × Int32))} {G' : (MS → Nat → Int32 → Int32 → Option (MS × Int32)) × (MS → Nat → Int32 → Int32 → Int32 → Int32 → Int32 → Int32 → Option (MS × Int32))} (hG1 : ∀ (c : Nat → Nat) (m : MS) (u : CS) (v1 : Nat) (v1' : Nat) (v6 : Int32) (v7 : Int32), RP o c m u → CVn c v1 v1' → RF 0 o VE c u (G.1 u 43 (some v1) v6 v7) (G'.1 m v1' v6 v7)) (hG2 : ∀ (c : Nat → Nat) (m : MS) (u : CS) (v1 : Nat) (v1' : Nat) (v6 : Int32) (v7 : Int32) (v9 : Int32) (v10 : Int32) (v12 : Int32) (v13 : Int32), RP o c m u → CVn c v1 v1' → RF 0 o VE c u (G.2 u 43 (some v1) v6 v7 v9 v10 v12 v13) (G'.2 m v1' v6 v7 v9 v10 v12 v13)) (R : RP o c m u) {v1 : Nat} {v1' : Nat} {v6 : Int32} {v7 : Int32} {v9 : Int32} {v10 : Int32} {v12 : Int32} {v13 : Int32} (h_v1 : CVn c v1 v1') : RF 0 o VE c u (fb_Te_order_121 N G u 43 (some v1) v6 v7 v9 v10 v12 v13) (hb_Te_order_121 N G' m v1' v6 v7 v9 v10 v12 v13) := by
  unfold fb_Te_order_121 hb_Te_order_121
  refine rf_br ?_ ?_
  · exact (yb_Te_order_173 hG1 hG2 R h_v1)
  · refine rf_br ?_ ?_
    · exact (yb_Te_order_173 hG1 hG2 R h_v1)
    · refine rf_bo (rx_43_1 R) ?_
      refine rf_so ?_
      refine rf_ai (aq_C R h_v1) ?_
      refine rf_so ?_
      refine rf_wk (sx_45 R) (fun w5' w5 R_w5 => ?_)
      refine rf_bo (rx_43_2 R_w5) ?_
      refine rf_so ?_
      refine rf_ai (aq_C R_w5 h_v1) ?_
      refine rf_so ?_
      refine rf_wk (sx_46 R_w5) (fun w10' w10 R_w10 => ?_)
      exact (hG2 _ _ _ _ _ _ _ _ _ _ _ R_w10 h_v1)
theorem yb_Te_order_21 {N : Nat} {o : Option Nat} {c : Nat → Nat} {m : MS} {u : CS} {G : (CS → Nat → Option Nat → Int32 → Int32 → Option (CS × Int32)) × (CS → Nat → Option Nat → Int32 → Int32 → Int32 → Int32 → Int32 → Int32 → Option (CS × Int32))} {G' : (MS → Nat → Int32 → Int32 → Option (MS × Int32)) × (MS → Nat → Int32 → Int32 → Int32 → Int32 → Int32 → Int32 → Option (MS × Int32))} (hG1 : ∀ (c : Nat → Nat) (m : MS) (u : CS) (v1 : Nat) (v1' : Nat) (v6 : Int32) (v7 : Int32), RP o c m u → CVn c v1 v1' → RF 0 o VE c u (G.1 u 43 (some v1) v6 v7) (G'.1 m v1' v6 v7)) (hG2 : ∀ (c : Nat → Nat) (m : MS) (u : CS) (v1 : Nat) (v1' : Nat) (v6 : Int32) (v7 : Int32) (v9 : Int32) (v10 : Int32) (v12 : Int32) (v13 : Int32), RP o c m u → CVn c v1 v1' → RF 0 o VE c u (G.2 u 43 (some v1) v6 v7 v9 v10 v12 v13) (G'.2 m v1' v6 v7 v9 v10 v12 v13)) (R : RP o c m u) {v1 : Nat} {v1' : Nat} {v6 : Int32} {v7 : Int32} (h_v1 : CVn c v1 v1') : RF 0 o VE c u (fb_Te_order_21 N G u 43 (some v1) v6 v7) (hb_Te_order_21 N G' m v1' v6 v7) := by
  unfold fb_Te_order_21 hb_Te_order_21
  refine rf_br ?_ ?_
  · exact (yb_Te_order_179 hG1 hG2 R)
  · refine rf_br ?_ ?_
    · exact (yb_Te_order_179 hG1 hG2 R)
    · refine rf_bo (rx_43_1 R) ?_
      refine rf_so ?_
      refine rf_ai (ax_45 R) ?_
      refine rf_bo (rx_43_2 R) ?_
      refine rf_so ?_
      refine rf_ai (ax_46 R) ?_
      refine rf_ck (ox_43 R) ?_
      refine rf_bx0 (ym_Te_orderAlone R h_v1) (fun u17' u17 r17 R_u17 => ?_)
      refine rf_br ?_ ?_
      · refine rf_bo (rx_43_1 R_u17) ?_
        refine rf_so ?_
        refine rf_ai (ax_45 R_u17) ?_
        refine rf_bo (rx_43_2 R_u17) ?_
        refine rf_so ?_
        refine rf_ai (ax_46 R_u17) ?_
        refine rf_bo (rx_43_1 R_u17) ?_
        refine rf_so ?_
        refine rf_ai (ax_45 R_u17) ?_
        refine rf_bx0 (ym_Te_cellsAt R_u17 h_v1) (fun u27' u27 r27 R_u27 => ?_)
        refine rf_bo (rx_43_1 R_u27) ?_
        refine rf_so ?_
        refine rf_ai (ax_45 R_u27) ?_
        refine rf_bx0 (ym_Te_partsOf R_u27) (fun u31' u31 r31 R_u31 => ?_)
        exact (hG2 _ _ _ _ _ _ _ _ _ _ _ R_u31 h_v1)
      · exact rf_ret R_u17 rfl
theorem yb_Te_order_0 {N : Nat} {o : Option Nat} {c : Nat → Nat} {m : MS} {u : CS} {G : (CS → Nat → Option Nat → Int32 → Int32 → Option (CS × Int32)) × (CS → Nat → Option Nat → Int32 → Int32 → Int32 → Int32 → Int32 → Int32 → Option (CS × Int32))} {G' : (MS → Nat → Int32 → Int32 → Option (MS × Int32)) × (MS → Nat → Int32 → Int32 → Int32 → Int32 → Int32 → Int32 → Option (MS × Int32))} (hG1 : ∀ (c : Nat → Nat) (m : MS) (u : CS) (v1 : Nat) (v1' : Nat) (v6 : Int32) (v7 : Int32), RP o c m u → CVn c v1 v1' → RF 0 o VE c u (G.1 u 43 (some v1) v6 v7) (G'.1 m v1' v6 v7)) (hG2 : ∀ (c : Nat → Nat) (m : MS) (u : CS) (v1 : Nat) (v1' : Nat) (v6 : Int32) (v7 : Int32) (v9 : Int32) (v10 : Int32) (v12 : Int32) (v13 : Int32), RP o c m u → CVn c v1 v1' → RF 0 o VE c u (G.2 u 43 (some v1) v6 v7 v9 v10 v12 v13) (G'.2 m v1' v6 v7 v9 v10 v12 v13)) (R : RP o c m u) {v1 : Nat} {v1' : Nat} {v2 : Int64} {v4 : Int64} (h_v1 : CVn c v1 v1') : RF 0 o VE c u (fb_Te_order_0 N G u 43 (some v1) v2 v4) (hb_Te_order_0 N G' m v1' v2 v4) := by
  unfold fb_Te_order_0 hb_Te_order_0
  refine rf_bo (rx_43_1 R) ?_
  refine rf_so ?_
  refine rf_wk (sx_45 R) (fun w34' w34 R_w34 => ?_)
  refine rf_bo (rx_43_2 R_w34) ?_
  refine rf_so ?_
  refine rf_wk (sx_46 R_w34) (fun w37' w37 R_w37 => ?_)
  exact (hG1 _ _ _ _ _ _ _ R_w37 h_v1)
theorem yg_Te_order {N : Nat} {o : Option Nat} : ∀ n, (∀ (c : Nat → Nat) (m : MS) (u : CS) (v1 : Nat) (v1' : Nat) (v6 : Int32) (v7 : Int32), RP o c m u → CVn c v1 v1' → RF 0 o VE c u ((gg_Te_order N n).1 u 43 (some v1) v6 v7) ((hg_Te_order N n).1 m v1' v6 v7)) ∧ (∀ (c : Nat → Nat) (m : MS) (u : CS) (v1 : Nat) (v1' : Nat) (v6 : Int32) (v7 : Int32) (v9 : Int32) (v10 : Int32) (v12 : Int32) (v13 : Int32), RP o c m u → CVn c v1 v1' → RF 0 o VE c u ((gg_Te_order N n).2 u 43 (some v1) v6 v7 v9 v10 v12 v13) ((hg_Te_order N n).2 m v1' v6 v7 v9 v10 v12 v13)) := by
  intro n
  induction n with
  | zero => exact ⟨fun c m u v1 v1' v6 v7 R h_v1 => rf_none, fun c m u v1 v1' v6 v7 v9 v10 v12 v13 R h_v1 => rf_none⟩
  | succ n ih => exact ⟨fun c m u v1 v1' v6 v7 R h_v1 => yb_Te_order_21 (N := N) ih.1 ih.2 R h_v1, fun c m u v1 v1' v6 v7 v9 v10 v12 v13 R h_v1 => yb_Te_order_121 (N := N) ih.1 ih.2 R h_v1⟩
theorem ym_Te_order {N : Nat} {o : Option Nat} {c : Nat → Nat} {m : MS} {u : CS} (R : RP o c m u) {v1 : Nat} {v1' : Nat} {v2 : Int64} {v4 : Int64} (h_v1 : CVn c v1 v1') : RF 0 o VE c u (fm_Te_order N u 43 (some v1) v2 v4) (hm_Te_order N m v1' v2 v4) := yb_Te_order_0 (N := N) (yg_Te_order (N := N) N).1 (yg_Te_order (N := N) N).2 R h_v1
