set_option maxRecDepth 100000
theorem yb_Ma_number_0 {N : Nat} {p : Nat} {c : Nat → Nat} {m : MS} {u : CS} (R : RP (some p) c m u) {v1 : Int32} {v2 : Int64} {v4 : Int32} : RF 1 (some p) VE c u (fb_Ma_number_0 N () u 55 v1 v2 v4) (hb_Ma_number_0 N () m p v1 v2 v4) := by
  unfold fb_Ma_number_0 hb_Ma_number_0
  refine rf_br ?_ ?_
  · refine rf_bx0 (rf_gz (ym_Te_make R) (by omega)) (fun u1' u1 r1 R_u1 => ?_)
    refine rf_gw ?_
    refine rf_ck (ox_55 R_u1) ?_
    refine rf_ck (all1 (okR_s R_u1 (by decide))) ?_
    refine rf_bx (rf_gw (ym_Ma_answer R_u1)) (by unfold zle; omega) (fun c_u2 u2' u2 r2 r2' R_u2 E_u2 v_u2 => ?_)
    cases v_u2
    refine rf_gw ?_
    refine rf_bo (gx_55_5 R_u2) ?_
    refine rf_w (px_55_5 R_u2) (fun w4' w4 R_w4 => ?_)
    exact rf_ret R_w4 rfl
  · refine rf_ck (ox_55 R) ?_
    refine rf_bx0 (rf_gz (ym_Ma_wrong R) (by omega)) (fun u5' u5 r5 R_u5 => ?_)
    refine rf_gw ?_
    exact rf_ret R_u5 rfl
theorem ym_Ma_number {N : Nat} {p : Nat} {c : Nat → Nat} {m : MS} {u : CS} (R : RP (some p) c m u) {v1 : Int32} {v2 : Int64} {v4 : Int32} : RF 1 (some p) VE c u (fm_Ma_number N u 55 v1 v2 v4) (hm_Ma_number N m p v1 v2 v4) := yb_Ma_number_0 (N := N) R
theorem yb_Ma_arithmetic_208 {N : Nat} {p : Nat} {c : Nat → Nat} {m : MS} {u : CS} (R : RP (some p) c m u) {v8 : Int64} : RF 1 (some p) VE c u (fb_Ma_arithmetic_208 N () u 55 v8) (hb_Ma_arithmetic_208 N () m p v8) := by
  unfold fb_Ma_arithmetic_208 hb_Ma_arithmetic_208
  refine rf_ck (ox_55 R) ?_
  refine rf_ck (all1 (okR_s R (by decide))) ?_
  refine rf_bx (rf_gw (ym_Ma_number R)) (by unfold zle; omega) (fun c_u1 u1' u1 r1 r1' R_u1 E_u1 v_u1 => ?_)
  cases v_u1
  refine rf_gw ?_
  exact rf_ret R_u1 rfl
theorem yb_Ma_arithmetic_206 {N : Nat} {p : Nat} {c : Nat → Nat} {m : MS} {u : CS} (R : RP (some p) c m u) {t0 : Int64} : RF 1 (some p) VE c u (fb_Ma_arithmetic_206 N () u 55 t0) (hb_Ma_arithmetic_206 N () m p t0) := by
  unfold fb_Ma_arithmetic_206 hb_Ma_arithmetic_206
  exact (yb_Ma_arithmetic_208 R)
theorem yb_Ma_arithmetic_186 {N : Nat} {p : Nat} {c : Nat → Nat} {m : MS} {u : CS} (R : RP (some p) c m u) {t0 : Int64} : RF 1 (some p) VE c u (fb_Ma_arithmetic_186 N () u 55 t0) (hb_Ma_arithmetic_186 N () m p t0) := by
  unfold fb_Ma_arithmetic_186 hb_Ma_arithmetic_186
  exact (yb_Ma_arithmetic_208 R)
theorem yb_Ma_arithmetic_99 {N : Nat} {p : Nat} {c : Nat → Nat} {m : MS} {u : CS} (R : RP (some p) c m u) {v1 : Int32} {v3 : Int64} {v5 : Int64} : RF 1 (some p) VE c u (fb_Ma_arithmetic_99 N () u 55 v1 v3 v5) (hb_Ma_arithmetic_99 N () m p v1 v3 v5) := by
  unfold fb_Ma_arithmetic_99 hb_Ma_arithmetic_99
  refine rf_br ?_ ?_
  · refine rf_br ?_ ?_
    · exact (yb_Ma_arithmetic_186 R)
    · refine rf_ckk ?_
      exact (yb_Ma_arithmetic_186 R)
  · refine rf_br ?_ ?_
    · exact (yb_Ma_arithmetic_208 R)
    · refine rf_br ?_ ?_
      · exact (yb_Ma_arithmetic_208 R)
      · refine rf_br ?_ ?_
        · exact (yb_Ma_arithmetic_208 R)
        · refine rf_br ?_ ?_
          · exact (yb_Ma_arithmetic_206 R)
          · refine rf_ckk ?_
            exact (yb_Ma_arithmetic_206 R)
theorem yb_Ma_arithmetic_92 {N : Nat} {p : Nat} {c : Nat → Nat} {m : MS} {u : CS} (R : RP (some p) c m u) : RF 1 (some p) VE c u (fb_Ma_arithmetic_92 N () u 55) (hb_Ma_arithmetic_92 N () m p) := by
  unfold fb_Ma_arithmetic_92 hb_Ma_arithmetic_92
  refine rf_ck (ox_55 R) ?_
  refine rf_bx0 (rf_gz (ym_Ma_wrong R) (by omega)) (fun u2' u2 r2 R_u2 => ?_)
  refine rf_gw ?_
  exact rf_ret R_u2 rfl
theorem yb_Ma_arithmetic_74 {N : Nat} {p : Nat} {c : Nat → Nat} {m : MS} {u : CS} (R : RP (some p) c m u) {v1 : Int32} {v2 : Int32} {v3 : Int64} {v5 : Int64} {t0 : Int32} : RF 1 (some p) VE c u (fb_Ma_arithmetic_74 N () u 55 v1 v2 v3 v5 t0) (hb_Ma_arithmetic_74 N () m p v1 v2 v3 v5 t0) := by
  unfold fb_Ma_arithmetic_74 hb_Ma_arithmetic_74
  refine rf_br ?_ ?_
  · exact (yb_Ma_arithmetic_92 R)
  · refine rf_br ?_ ?_
    · exact (yb_Ma_arithmetic_99 R)
    · refine rf_br ?_ ?_
      · exact (yb_Ma_arithmetic_92 R)
      · exact (yb_Ma_arithmetic_99 R)
theorem yb_Ma_arithmetic_69 {N : Nat} {p : Nat} {c : Nat → Nat} {m : MS} {u : CS} (R : RP (some p) c m u) {v1 : Int32} {v2 : Int32} {v3 : Int64} {v5 : Int64} : RF 1 (some p) VE c u (fb_Ma_arithmetic_69 N () u 55 v1 v2 v3 v5) (hb_Ma_arithmetic_69 N () m p v1 v2 v3 v5) := by
  unfold fb_Ma_arithmetic_69 hb_Ma_arithmetic_69
  exact (yb_Ma_arithmetic_74 R)
theorem yb_Ma_arithmetic_33 {N : Nat} {p : Nat} {c : Nat → Nat} {m : MS} {u : CS} (R : RP (some p) c m u) {v1 : Int32} {t0 : Int32} : RF 1 (some p) VE c u (fb_Ma_arithmetic_33 N () u 55 v1 t0) (hb_Ma_arithmetic_33 N () m p v1 t0) := by
  unfold fb_Ma_arithmetic_33 hb_Ma_arithmetic_33
  refine rf_bo (gR_M4 R) ?_
  refine rf_soF R.md (fun j5 h_j5 => ?_)
  refine rf_ck (io_F R h_j5) ?_
  refine rf_bx0 (rf_gz (ym_Fr_below R h_j5) (by omega)) (fun u4' u4 r4 R_u4 => ?_)
  refine rf_gw ?_
  refine rf_bo (gR_M4 R_u4) ?_
  refine rf_soF R_u4.md (fun j8 h_j8 => ?_)
  refine rf_ck (io_F R_u4 h_j8) ?_
  refine rf_bx0 (rf_gz (ym_Fr_below R_u4 h_j8) (by omega)) (fun u7' u7 r7 R_u7 => ?_)
  refine rf_gw ?_
  refine rf_br ?_ ?_
  · exact (yb_Ma_arithmetic_69 R_u7)
  · refine rf_br ?_ ?_
    · exact (yb_Ma_arithmetic_69 R_u7)
    · exact (yb_Ma_arithmetic_74 R_u7)
theorem yb_Ma_arithmetic_32 {N : Nat} {p : Nat} {c : Nat → Nat} {m : MS} {u : CS} (R : RP (some p) c m u) {v1 : Int32} : RF 1 (some p) VE c u (fb_Ma_arithmetic_32 N () u 55 v1) (hb_Ma_arithmetic_32 N () m p v1) := by
  unfold fb_Ma_arithmetic_32 hb_Ma_arithmetic_32
  exact (yb_Ma_arithmetic_33 R)
theorem yb_Ma_arithmetic_0 {N : Nat} {p : Nat} {c : Nat → Nat} {m : MS} {u : CS} (R : RP (some p) c m u) {v1 : Int32} : RF 1 (some p) VE c u (fb_Ma_arithmetic_0 N () u 55 v1) (hb_Ma_arithmetic_0 N () m p v1) := by
  unfold fb_Ma_arithmetic_0 hb_Ma_arithmetic_0
  refine rf_bo (gR_M4 R) ?_
  refine rf_soF R.md (fun j11 h_j11 => ?_)
  refine rf_ck (io_F R h_j11) ?_
  refine rf_bx0 (rf_gz (ym_Fr_below R h_j11) (by omega)) (fun u10' u10 r10 R_u10 => ?_)
  refine rf_gw ?_
  refine rf_bx0 (rf_gz (ym_Te_tag R_u10) (by omega)) (fun u12' u12 r12 R_u12 => ?_)
  refine rf_gw ?_
  refine rf_br ?_ ?_
  · refine rf_bo (gR_M4 R_u12) ?_
    refine rf_soF R_u12.md (fun j15 h_j15 => ?_)
    refine rf_ck (io_F R_u12 h_j15) ?_
    refine rf_bx0 (rf_gz (ym_Fr_below R_u12 h_j15) (by omega)) (fun u14' u14 r14 R_u14 => ?_)
    refine rf_gw ?_
    refine rf_bx0 (rf_gz (ym_Te_tag R_u14) (by omega)) (fun u16' u16 r16 R_u16 => ?_)
    refine rf_gw ?_
    refine rf_br ?_ ?_
    · exact (yb_Ma_arithmetic_33 R_u16)
    · exact (yb_Ma_arithmetic_32 R_u16)
  · exact (yb_Ma_arithmetic_32 R_u12)
theorem ym_Ma_arithmetic {N : Nat} {p : Nat} {c : Nat → Nat} {m : MS} {u : CS} (R : RP (some p) c m u) {v1 : Int32} : RF 1 (some p) VE c u (fm_Ma_arithmetic N u 55 v1) (hm_Ma_arithmetic N m p v1) := yb_Ma_arithmetic_0 (N := N) R
theorem yb_Ma_negate_0 {N : Nat} {p : Nat} {c : Nat → Nat} {m : MS} {u : CS} (R : RP (some p) c m u) : RF 1 (some p) VE c u (fb_Ma_negate_0 N () u 55) (hb_Ma_negate_0 N () m p) := by
  unfold fb_Ma_negate_0 hb_Ma_negate_0
  refine rf_bo (gR_M4 R) ?_
  refine rf_soF R.md (fun j3 h_j3 => ?_)
  refine rf_ck (io_F R h_j3) ?_
  refine rf_bx0 (rf_gz (ym_Fr_below R h_j3) (by omega)) (fun u2' u2 r2 R_u2 => ?_)
  refine rf_gw ?_
  refine rf_bx0 (rf_gz (ym_Te_tag R_u2) (by omega)) (fun u4' u4 r4 R_u4 => ?_)
  refine rf_gw ?_
  refine rf_br ?_ ?_
  · refine rf_bo (gR_M4 R_u4) ?_
    refine rf_soF R_u4.md (fun j7 h_j7 => ?_)
    refine rf_ck (io_F R_u4 h_j7) ?_
    refine rf_bx0 (rf_gz (ym_Fr_below R_u4 h_j7) (by omega)) (fun u6' u6 r6 R_u6 => ?_)
    refine rf_gw ?_
    refine rf_ck (ox_55 R_u6) ?_
    refine rf_ck (all1 (okR_s R_u6 (by decide))) ?_
    refine rf_bx (rf_gw (ym_Ma_number R_u6)) (by unfold zle; omega) (fun c_u8 u8' u8 r8 r8' R_u8 E_u8 v_u8 => ?_)
    cases v_u8
    refine rf_gw ?_
    exact rf_ret R_u8 rfl
  · refine rf_ck (ox_55 R_u4) ?_
    refine rf_bx0 (rf_gz (ym_Ma_wrong R_u4) (by omega)) (fun u9' u9 r9 R_u9 => ?_)
    refine rf_gw ?_
    exact rf_ret R_u9 rfl
theorem ym_Ma_negate {N : Nat} {p : Nat} {c : Nat → Nat} {m : MS} {u : CS} (R : RP (some p) c m u) : RF 1 (some p) VE c u (fm_Ma_negate N u 55) (hm_Ma_negate N m p) := yb_Ma_negate_0 (N := N) R
theorem yb_Ma_not_50 {N : Nat} {p : Nat} {c : Nat → Nat} {m : MS} {u : CS} (R : RP (some p) c m u) {t1 : Int32} {t2 : Int32} : RF 1 (some p) VE c u (fb_Ma_not_50 N () u 55 55 t1 t2) (hb_Ma_not_50 N () m p t1 t2) := by
  unfold fb_Ma_not_50 hb_Ma_not_50
  refine rf_bx0 (rf_gz (ym_Ma_truth R) (by omega)) (fun u1' u1 r1 R_u1 => ?_)
  refine rf_gw ?_
  refine rf_ck (ox_55 R_u1) ?_
  refine rf_ck (all1 (okR_s R_u1 (by decide))) ?_
  refine rf_bx (rf_gw (ym_Ma_answer R_u1)) (by unfold zle; omega) (fun c_u2 u2' u2 r2 r2' R_u2 E_u2 v_u2 => ?_)
  cases v_u2
  refine rf_gw ?_
  refine rf_bo (gx_55_5 R_u2) ?_
  refine rf_w (px_55_5 R_u2) (fun w4' w4 R_w4 => ?_)
  exact rf_ret R_w4 rfl
theorem yb_Ma_not_34 {N : Nat} {p : Nat} {c : Nat → Nat} {m : MS} {u : CS} (R : RP (some p) c m u) {v1 : Int64} : RF 1 (some p) VE c u (fb_Ma_not_34 N () u 55 v1) (hb_Ma_not_34 N () m p v1) := by
  unfold fb_Ma_not_34 hb_Ma_not_34
  refine rf_bx0 (rf_gz (ym_Ma_atom R) (by omega)) (fun u5' u5 r5 R_u5 => ?_)
  refine rf_gw ?_
  refine rf_br ?_ ?_
  · exact (yb_Ma_not_50 R_u5)
  · exact (yb_Ma_not_50 R_u5)
theorem yb_Ma_not_0 {N : Nat} {p : Nat} {c : Nat → Nat} {m : MS} {u : CS} (R : RP (some p) c m u) : RF 1 (some p) VE c u (fb_Ma_not_0 N () u 55) (hb_Ma_not_0 N () m p) := by
  unfold fb_Ma_not_0 hb_Ma_not_0
  refine rf_bo (gR_M4 R) ?_
  refine rf_soF R.md (fun j8 h_j8 => ?_)
  refine rf_ck (io_F R h_j8) ?_
  refine rf_bx0 (rf_gz (ym_Fr_below R h_j8) (by omega)) (fun u7' u7 r7 R_u7 => ?_)
  refine rf_gw ?_
  refine rf_bx0 (rf_gz (ym_Ma_atom R_u7) (by omega)) (fun u9' u9 r9 R_u9 => ?_)
  refine rf_gw ?_
  refine rf_br ?_ ?_
  · exact (yb_Ma_not_34 R_u9)
  · refine rf_bx0 (rf_gz (ym_Ma_atom R_u9) (by omega)) (fun u10' u10 r10 R_u10 => ?_)
    refine rf_gw ?_
    refine rf_br ?_ ?_
    · exact (yb_Ma_not_34 R_u10)
    · refine rf_ck (ox_55 R_u10) ?_
      refine rf_bx0 (rf_gz (ym_Ma_wrong R_u10) (by omega)) (fun u11' u11 r11 R_u11 => ?_)
      refine rf_gw ?_
      exact rf_ret R_u11 rfl
theorem ym_Ma_not {N : Nat} {p : Nat} {c : Nat → Nat} {m : MS} {u : CS} (R : RP (some p) c m u) : RF 1 (some p) VE c u (fm_Ma_not N u 55) (hm_Ma_not N m p) := yb_Ma_not_0 (N := N) R
theorem yb_Ma_hinge_71 {N : Nat} {p : Nat} {c : Nat → Nat} {m : MS} {u : CS} (R : RP (some p) c m u) : RF 0 (some p) VE c u (fb_Ma_hinge_71 N () u) (hb_Ma_hinge_71 N () m p) := by
  unfold fb_Ma_hinge_71 hb_Ma_hinge_71
  exact rf_ret R rfl
theorem yb_Ma_hinge_36 {N : Nat} {p : Nat} {c : Nat → Nat} {m : MS} {u : CS} (R : RP (some p) c m u) {v1 : Int32} {v2 : Int32} {v3 : Int64} : RF 0 (some p) VE c u (fb_Ma_hinge_36 N () u 55 v1 v2 v3) (hb_Ma_hinge_36 N () m p v1 v2 v3) := by
  unfold fb_Ma_hinge_36 hb_Ma_hinge_36
  refine rf_bx0 (ym_Ma_truth R) (fun u1' u1 r1 R_u1 => ?_)
  refine rf_br ?_ ?_
  · refine rf_bo (gR_M4 R_u1) ?_
    refine rf_soF R_u1.md (fun j5 h_j5 => ?_)
    refine rf_ck (io_F R_u1 h_j5) ?_
    refine rf_bx0 (ym_Fr_drop R_u1 h_j5) (fun u4' u4 r4 R_u4 => ?_)
    refine rf_bo (gx_55_5 R_u4) ?_
    refine rf_w (px_55_5 R_u4) (fun w7' w7 R_w7 => ?_)
    exact (yb_Ma_hinge_71 R_w7)
  · refine rf_w (px_55_5 R_u1) (fun w2' w2 R_w2 => ?_)
    exact (yb_Ma_hinge_71 R_w2)
theorem yb_Ma_hinge_0 {N : Nat} {p : Nat} {c : Nat → Nat} {m : MS} {u : CS} (R : RP (some p) c m u) {v1 : Int32} {v2 : Int32} : RF 0 (some p) VE c u (fb_Ma_hinge_0 N () u 55 v1 v2) (hb_Ma_hinge_0 N () m p v1 v2) := by
  unfold fb_Ma_hinge_0 hb_Ma_hinge_0
  refine rf_bo (gR_M4 R) ?_
  refine rf_soF R.md (fun j10 h_j10 => ?_)
  refine rf_ck (io_F R h_j10) ?_
  refine rf_bx0 (ym_Fr_below R h_j10) (fun u9' u9 r9 R_u9 => ?_)
  refine rf_bx0 (ym_Ma_atom R_u9) (fun u11' u11 r11 R_u11 => ?_)
  refine rf_br ?_ ?_
  · exact (yb_Ma_hinge_36 R_u11)
  · refine rf_bx0 (ym_Ma_atom R_u11) (fun u12' u12 r12 R_u12 => ?_)
    refine rf_br ?_ ?_
    · exact (yb_Ma_hinge_36 R_u12)
    · refine rf_ck (ox_55 R_u12) ?_
      refine rf_bx0 (ym_Ma_wrong R_u12) (fun u13' u13 r13 R_u13 => ?_)
      exact (yb_Ma_hinge_71 R_u13)
theorem ym_Ma_hinge {N : Nat} {p : Nat} {c : Nat → Nat} {m : MS} {u : CS} (R : RP (some p) c m u) {v1 : Int32} {v2 : Int32} : RF 0 (some p) VE c u (fm_Ma_hinge N u 55 v1 v2) (hm_Ma_hinge N m p v1 v2) := yb_Ma_hinge_0 (N := N) R
theorem yb_Fr_forget_0 {N : Nat} {o : Option Nat} {c : Nat → Nat} {m : MS} {u : CS} (R : RP o c m u) {v0 : Nat} {v0' : Nat} {v1 : Int32} (h_v0 : FVn c v0 v0') : RF 0 o VE c u (fb_Fr_forget_0 N () u v0 v1) (hb_Fr_forget_0 N () m v0' v1) := by
  unfold fb_Fr_forget_0 hb_Fr_forget_0
  refine rf_bo (gf_4 R h_v0) ?_
  refine rf_lt ?_
  refine rf_w (wf_4 R h_v0) (fun w3' w3 R_w3 => ?_)
  exact rf_ret R_w3 rfl
theorem ym_Fr_forget {N : Nat} {o : Option Nat} {c : Nat → Nat} {m : MS} {u : CS} (R : RP o c m u) {v0 : Nat} {v0' : Nat} {v1 : Int32} (h_v0 : FVn c v0 v0') : RF 0 o VE c u (fm_Fr_forget N u v0 v1) (hm_Fr_forget N m v0' v1) := yb_Fr_forget_0 (N := N) R h_v0
theorem yb_Ma_sendTo_34 {N : Nat} {p : Nat} {c : Nat → Nat} {m : MS} {u : CS} (R : RP (some p) c m u) {t0 : Option Nat} {t0' : Option Nat} (h_t0 : PVo c t0 t0') : RF 2 (some p) VE c u (fb_Ma_sendTo_34 N () u 55 t0) (hb_Ma_sendTo_34 N () m p t0') := by
  unfold fb_Ma_sendTo_34 hb_Ma_sendTo_34
  refine rf_br2 (PV_n h_t0) ?_ ?_
  · refine rf_ck (ox_55 R) ?_
    refine rf_bx0 (rf_gz (ym_Ma_wrong R) (by omega)) (fun u17' u17 r17 R_u17 => ?_)
    refine rf_gw ?_
    exact rf_ret R_u17 rfl
  · refine rf_bo (rx_55_1 R) ?_
    refine rf_bo (gR_M3 R) ?_
    refine rf_soP R.md (fun j3 h_j3 => ?_)
    refine rf_bo (gI_P0 R h_j3) ?_
    refine rf_bo (gR_M4 R) ?_
    refine rf_soF R.md (fun j7 h_j7 => ?_)
    refine rf_ck (io_F R h_j7) ?_
    refine rf_bx0 (rf_gz (ym_Fr_below R h_j7) (by omega)) (fun u6' u6 r6 R_u6 => ?_)
    refine rf_gw ?_
    refine rf_bo (gR_M3 R_u6) ?_
    refine rf_so ?_
    refine rf_ck (ox_47 R_u6) ?_
    refine rf_opt h_t0 (fun t0_j t0_q e1_t0 e2_t0 h_t0j => ?_)
    subst e1_t0
    refine rf_bx (rf_gz (ym_Wl_post R_u6 h_t0j (PV_s R_u6.md)) (by omega)) (by unfold zle; omega) (fun c_u9 u9' u9 r9 r9' R_u9 E_u9 v_u9 => ?_)
    cases v_u9
    replace h_t0j := E_u9.P h_t0j
    refine rf_gw ?_
    refine rf_bo (gR_M4 R_u9) ?_
    refine rf_soF R_u9.md (fun j13 h_j13 => ?_)
    refine rf_ck (io_F R_u9 h_j13) ?_
    refine rf_bx0 (rf_gz (ym_Fr_below R_u9 h_j13) (by omega)) (fun u12' u12 r12 R_u12 => ?_)
    refine rf_gw ?_
    refine rf_ck (ox_55 R_u12) ?_
    refine rf_ck (all2 (okR_P R_u12 h_t0j) (okR_s R_u12 (by decide))) ?_
    refine rf_bx (rf_gw (ym_Ma_answer R_u12)) (by unfold zle; omega) (fun c_u14 u14' u14 r14 r14' R_u14 E_u14 v_u14 => ?_)
    cases v_u14
    refine rf_gw ?_
    refine rf_bo (gx_55_5 R_u14) ?_
    refine rf_w (px_55_5 R_u14) (fun w16' w16 R_w16 => ?_)
    exact rf_ret R_w16 rfl
theorem yb_Ma_sendTo_0 {N : Nat} {p : Nat} {c : Nat → Nat} {m : MS} {u : CS} (R : RP (some p) c m u) : RF 2 (some p) VE c u (fb_Ma_sendTo_0 N () u 55) (hb_Ma_sendTo_0 N () m p) := by
  unfold fb_Ma_sendTo_0 hb_Ma_sendTo_0
  refine rf_bo (gR_M4 R) ?_
  refine rf_soF R.md (fun j20 h_j20 => ?_)
  refine rf_ck (io_F R h_j20) ?_
  refine rf_bx0 (rf_gz (ym_Fr_below R h_j20) (by omega)) (fun u19' u19 r19 R_u19 => ?_)
  refine rf_gw ?_
  refine rf_bx0 (rf_gz (ym_Te_tag R_u19) (by omega)) (fun u21' u21 r21 R_u21 => ?_)
  refine rf_gw ?_
  refine rf_br ?_ ?_
  · refine rf_bo (rx_55_1 R_u21) ?_
    refine rf_so ?_
    refine rf_ck (ox_47 R_u21) ?_
    refine rf_bxP (rf_gz (ym_Wl_named R_u21) (by omega)) (fun u24' u24 r24 r24' R_u24 h_r24 => ?_)
    refine rf_gw ?_
    exact (yb_Ma_sendTo_34 R_u24 h_r24)
  · refine rf_ck (ox_55 R_u21) ?_
    refine rf_bxP (rf_gz (ym_Ma_processAt R_u21) (by omega)) (fun u22' u22 r22 r22' R_u22 h_r22 => ?_)
    refine rf_gw ?_
    exact (yb_Ma_sendTo_34 R_u22 h_r22)
theorem ym_Ma_sendTo {N : Nat} {p : Nat} {c : Nat → Nat} {m : MS} {u : CS} (R : RP (some p) c m u) : RF 2 (some p) VE c u (fm_Ma_sendTo N u 55) (hm_Ma_sendTo N m p) := yb_Ma_sendTo_0 (N := N) R
theorem yb_Ma_join_106 {N : Nat} {p : Nat} {c : Nat → Nat} {m : MS} {u : CS} {G : (CS → Nat → Int32 → Int32 → Int64 → Int32 → Option (CS × Unit))} {G' : (MS → Nat → Int32 → Int32 → Int64 → Int32 → Option (MS × Unit))} (hG : ∀ (c : Nat → Nat) (m : MS) (u : CS) (v1 : Int32) (v2 : Int32) (v3 : Int64) (v5 : Int32), RP (some p) c m u → RF 2 (some p) VE c u (G u 55 v1 v2 v3 v5) (G' m p v1 v2 v3 v5)) (R : RP (some p) c m u) {v1 : Int32} {v2 : Int32} {v3 : Int64} {v5 : Int32} : RF 2 (some p) VE c u (fb_Ma_join_106 N G u 55 v1 v2 v3 v5) (hb_Ma_join_106 N G' m p v1 v2 v3 v5) := by
  unfold fb_Ma_join_106 hb_Ma_join_106
  refine rf_br ?_ ?_
  · refine rf_bo (gR_M4 R) ?_
    refine rf_soF R.md (fun j3 h_j3 => ?_)
    refine rf_ck (io_F R h_j3) ?_
    refine rf_bx0 (rf_gz (ym_Fr_below R h_j3) (by omega)) (fun u2' u2 r2 R_u2 => ?_)
    refine rf_gw ?_
    refine rf_ck (ox_55 R_u2) ?_
    refine rf_bx0 (rf_gz (ym_Ma_endList R_u2) (by omega)) (fun u4' u4 r4 R_u4 => ?_)
    refine rf_gw ?_
    refine rf_bx0 (rf_gz (ym_Te_make R_u4) (by omega)) (fun u5' u5 r5 R_u5 => ?_)
    refine rf_gw ?_
    refine rf_ck (ox_55 R_u5) ?_
    refine rf_ck (all1 (okR_s R_u5 (by decide))) ?_
    refine rf_bx (rf_gw (ym_Ma_answer R_u5)) (by unfold zle; omega) (fun c_u6 u6' u6 r6 r6' R_u6 E_u6 v_u6 => ?_)
    cases v_u6
    refine rf_gw ?_
    refine rf_bo (gx_55_5 R_u6) ?_
    refine rf_w (px_55_5 R_u6) (fun w8' w8 R_w8 => ?_)
    exact rf_ret R_w8 rfl
  · refine rf_bo (gR_M3 R) ?_
    refine rf_soP R.md (fun j10 h_j10 => ?_)
    refine rf_bo (gR_P2 R h_j10) ?_
    refine rf_bo (gR_M3 R) ?_
    refine rf_soP R.md (fun j13 h_j13 => ?_)
    refine rf_bo (gR_P2 R h_j13) ?_
    refine rf_so ?_
    refine rf_ai (aq_2 R h_j13.1) ?_
    refine rf_so ?_
    refine rf_wk (sq_2 R h_j10.1) (fun w18' w18 R_w18 => ?_)
    refine rf_bo (gR_M3 R_w18) ?_
    refine rf_soP R_w18.md (fun j20 h_j20 => ?_)
    refine rf_bo (gR_P2 R_w18 h_j20) ?_
    refine rf_bx0 (rf_gz (ym_Te_make R_w18) (by omega)) (fun u22' u22 r22 R_u22 => ?_)
    refine rf_gw ?_
    refine rf_so ?_
    refine rf_wk (sq_2 R_u22 h_j20.1) (fun w24' w24 R_w24 => ?_)
    refine rf_bo (gR_M3 R_w24) ?_
    refine rf_soP R_w24.md (fun j26 h_j26 => ?_)
    refine rf_bo (gR_P2 R_w24 h_j26) ?_
    refine rf_so ?_
    refine rf_ai (aq_2 R_w24 h_j26.1) ?_
    exact (hG _ _ _ _ _ _ _ R_w24)
theorem yb_Ma_join_68 {N : Nat} {p : Nat} {c : Nat → Nat} {m : MS} {u : CS} {G : (CS → Nat → Int32 → Int32 → Int64 → Int32 → Option (CS × Unit))} {G' : (MS → Nat → Int32 → Int32 → Int64 → Int32 → Option (MS × Unit))} (hG : ∀ (c : Nat → Nat) (m : MS) (u : CS) (v1 : Int32) (v2 : Int32) (v3 : Int64) (v5 : Int32), RP (some p) c m u → RF 2 (some p) VE c u (G u 55 v1 v2 v3 v5) (G' m p v1 v2 v3 v5)) (R : RP (some p) c m u) : RF 2 (some p) VE c u (fb_Ma_join_68 N G u 55) (hb_Ma_join_68 N G' m p) := by
  unfold fb_Ma_join_68 hb_Ma_join_68
  refine rf_ck (ox_55 R) ?_
  refine rf_bx0 (rf_gz (ym_Ma_wrong R) (by omega)) (fun u30' u30 r30 R_u30 => ?_)
  refine rf_gw ?_
  exact rf_ret R_u30 rfl
theorem yb_Ma_join_0 {N : Nat} {p : Nat} {c : Nat → Nat} {m : MS} {u : CS} {G : (CS → Nat → Int32 → Int32 → Int64 → Int32 → Option (CS × Unit))} {G' : (MS → Nat → Int32 → Int32 → Int64 → Int32 → Option (MS × Unit))} (hG : ∀ (c : Nat → Nat) (m : MS) (u : CS) (v1 : Int32) (v2 : Int32) (v3 : Int64) (v5 : Int32), RP (some p) c m u → RF 2 (some p) VE c u (G u 55 v1 v2 v3 v5) (G' m p v1 v2 v3 v5)) (R : RP (some p) c m u) : RF 2 (some p) VE c u (fb_Ma_join_0 N G u 55) (hb_Ma_join_0 N G' m p) := by
  unfold fb_Ma_join_0 hb_Ma_join_0
  refine rf_bo (rx_55_2 R) ?_
  refine rf_bo (gR_M3 R) ?_
  refine rf_soP R.md (fun j33 h_j33 => ?_)
  refine rf_bo (gR_P2 R h_j33) ?_
  refine rf_bo (gR_M4 R) ?_
  refine rf_soF R.md (fun j37 h_j37 => ?_)
  refine rf_ck (io_F R h_j37) ?_
  refine rf_bx0 (rf_gz (ym_Fr_below R h_j37) (by omega)) (fun u36' u36 r36 R_u36 => ?_)
  refine rf_gw ?_
  refine rf_so ?_
  refine rf_ck (ox_43 R_u36) ?_
  refine rf_bx0 (rf_gz (ym_Te_listLength R_u36 ⟨_, h_j33.1, rfl, rfl⟩) (by omega)) (fun u38' u38 r38 R_u38 => ?_)
  refine rf_gw ?_
  refine rf_br ?_ ?_
  · refine rf_bo (gR_M4 R_u38) ?_
    refine rf_soF R_u38.md (fun j50 h_j50 => ?_)
    refine rf_ck (io_F R_u38 h_j50) ?_
    refine rf_bx0 (rf_gz (ym_Fr_below R_u38 h_j50) (by omega)) (fun u49' u49 r49 R_u49 => ?_)
    refine rf_gw ?_
    refine rf_ck (ox_55 R_u49) ?_
    refine rf_ck (all1 (okR_s R_u49 (by decide))) ?_
    refine rf_bx (rf_gw (ym_Ma_answer R_u49)) (by unfold zle; omega) (fun c_u51 u51' u51 r51 r51' R_u51 E_u51 v_u51 => ?_)
    cases v_u51
    refine rf_gw ?_
    refine rf_bo (gx_55_5 R_u51) ?_
    refine rf_w (px_55_5 R_u51) (fun w53' w53 R_w53 => ?_)
    exact rf_ret R_w53 rfl
  · refine rf_br ?_ ?_
    · exact (yb_Ma_join_68 hG R_u38)
    · refine rf_ck (ox_55 R_u38) ?_
      refine rf_bx0 (rf_gz (ym_Ma_sizes R_u38) (by omega)) (fun u40' u40 r40 R_u40 => ?_)
      refine rf_gw ?_
      refine rf_br ?_ ?_
      · refine rf_ck (ox_55 R_u40) ?_
        refine rf_bx (rf_gz (ym_Ma_room R_u40) (by omega)) (by unfold zle; omega) (fun c_u41 u41' u41 r41 r41' R_u41 E_u41 v_u41 => ?_)
        cases v_u41
        refine rf_gw ?_
        refine rf_br ?_ ?_
        · exact rf_ret R_u41 rfl
        · refine rf_bo (gR_M3 R_u41) ?_
          refine rf_soP R_u41.md (fun j43 h_j43 => ?_)
          refine rf_bo (gq_4 R_u41 h_j43) ?_
          refine rf_bo (gR_M4 R_u41) ?_
          refine rf_soF R_u41.md (fun j47 h_j47 => ?_)
          refine rf_ck (io_F R_u41 h_j47) ?_
          refine rf_bx0 (rf_gz (ym_Fr_below R_u41 h_j47) (by omega)) (fun u46' u46 r46 R_u46 => ?_)
          refine rf_gw ?_
          exact (hG _ _ _ _ _ _ _ R_u46)
      · exact (yb_Ma_join_68 hG R_u40)
theorem yg_Ma_join {N : Nat} {p : Nat} : ∀ n, (∀ (c : Nat → Nat) (m : MS) (u : CS) (v1 : Int32) (v2 : Int32) (v3 : Int64) (v5 : Int32), RP (some p) c m u → RF 2 (some p) VE c u ((gg_Ma_join N n) u 55 v1 v2 v3 v5) ((hg_Ma_join N n) m p v1 v2 v3 v5)) := by
  intro n
  induction n with
  | zero => exact fun c m u v1 v2 v3 v5 R => rf_none
  | succ n ih => exact fun c m u v1 v2 v3 v5 R => yb_Ma_join_106 (N := N) ih R
theorem ym_Ma_join {N : Nat} {p : Nat} {c : Nat → Nat} {m : MS} {u : CS} (R : RP (some p) c m u) : RF 2 (some p) VE c u (fm_Ma_join N u 55) (hm_Ma_join N m p) := yb_Ma_join_0 (N := N) (yg_Ma_join (N := N) N) R
theorem yb_Ma_markGone_188 {N : Nat} {p : Nat} {c : Nat → Nat} {m : MS} {u : CS} {G : (CS → Nat → Int32 → Int32 → Option (CS × Int32)) × (CS → Nat → Int32 → Int32 → Int64 → Int32 → Option (CS × Int32)) × (CS → Nat → Int32 → Int32 → Int64 → Int32 → Int64 → Int32 → Option (CS × Int32))} {G' : (MS → Nat → Int32 → Int32 → Option (MS × Int32)) × (MS → Nat → Int32 → Int32 → Int64 → Int32 → Option (MS × Int32)) × (MS → Nat → Int32 → Int32 → Int64 → Int32 → Int64 → Int32 → Option (MS × Int32))} (hG1 : ∀ (c : Nat → Nat) (m : MS) (u : CS) (v1 : Int32) (v2 : Int32), RP (some p) c m u → RF 0 (some p) VE c u (G.1 u 55 v1 v2) (G'.1 m p v1 v2)) (hG2 : ∀ (c : Nat → Nat) (m : MS) (u : CS) (v1 : Int32) (v2 : Int32) (v3 : Int64) (v5 : Int32), RP (some p) c m u → RF 0 (some p) VE c u (G.2.1 u 55 v1 v2 v3 v5) (G'.2.1 m p v1 v2 v3 v5)) (hG3 : ∀ (c : Nat → Nat) (m : MS) (u : CS) (v1 : Int32) (v2 : Int32) (v3 : Int64) (v5 : Int32) (v6 : Int64) (v8 : Int32), RP (some p) c m u → RF 0 (some p) VE c u (G.2.2 u 55 v1 v2 v3 v5 v6 v8) (G'.2.2 m p v1 v2 v3 v5 v6 v8)) (R : RP (some p) c m u) {v2 : Int32} : RF 0 (some p) VE c u (fb_Ma_markGone_188 N G u v2) (hb_Ma_markGone_188 N G' m p v2) := by
  unfold fb_Ma_markGone_188 hb_Ma_markGone_188
  exact rf_ret R rfl
theorem yb_Ma_markGone_169 {N : Nat} {p : Nat} {c : Nat → Nat} {m : MS} {u : CS} {G : (CS → Nat → Int32 → Int32 → Option (CS × Int32)) × (CS → Nat → Int32 → Int32 → Int64 → Int32 → Option (CS × Int32)) × (CS → Nat → Int32 → Int32 → Int64 → Int32 → Int64 → Int32 → Option (CS × Int32))} {G' : (MS → Nat → Int32 → Int32 → Option (MS × Int32)) × (MS → Nat → Int32 → Int32 → Int64 → Int32 → Option (MS × Int32)) × (MS → Nat → Int32 → Int32 → Int64 → Int32 → Int64 → Int32 → Option (MS × Int32))} (hG1 : ∀ (c : Nat → Nat) (m : MS) (u : CS) (v1 : Int32) (v2 : Int32), RP (some p) c m u → RF 0 (some p) VE c u (G.1 u 55 v1 v2) (G'.1 m p v1 v2)) (hG2 : ∀ (c : Nat → Nat) (m : MS) (u : CS) (v1 : Int32) (v2 : Int32) (v3 : Int64) (v5 : Int32), RP (some p) c m u → RF 0 (some p) VE c u (G.2.1 u 55 v1 v2 v3 v5) (G'.2.1 m p v1 v2 v3 v5)) (hG3 : ∀ (c : Nat → Nat) (m : MS) (u : CS) (v1 : Int32) (v2 : Int32) (v3 : Int64) (v5 : Int32) (v6 : Int64) (v8 : Int32), RP (some p) c m u → RF 0 (some p) VE c u (G.2.2 u 55 v1 v2 v3 v5 v6 v8) (G'.2.2 m p v1 v2 v3 v5 v6 v8)) (R : RP (some p) c m u) {v1 : Int32} {v2 : Int32} {v3 : Int64} {v5 : Int32} : RF 0 (some p) VE c u (fb_Ma_markGone_169 N G u 55 v1 v2 v3 v5) (hb_Ma_markGone_169 N G' m p v1 v2 v3 v5) := by
  unfold fb_Ma_markGone_169 hb_Ma_markGone_169
  refine rf_bo (gR_M3 R) ?_
  refine rf_soP R.md (fun j2 h_j2 => ?_)
  refine rf_bo (gR_P2 R h_j2) ?_
  refine rf_so ?_
  refine rf_ai (aq_2 R h_j2.1) ?_
  exact (hG2 _ _ _ _ _ _ _ R)
theorem yb_Ma_markGone_148 {N : Nat} {p : Nat} {c : Nat → Nat} {m : MS} {u : CS} {G : (CS → Nat → Int32 → Int32 → Option (CS × Int32)) × (CS → Nat → Int32 → Int32 → Int64 → Int32 → Option (CS × Int32)) × (CS → Nat → Int32 → Int32 → Int64 → Int32 → Int64 → Int32 → Option (CS × Int32))} {G' : (MS → Nat → Int32 → Int32 → Option (MS × Int32)) × (MS → Nat → Int32 → Int32 → Int64 → Int32 → Option (MS × Int32)) × (MS → Nat → Int32 → Int32 → Int64 → Int32 → Int64 → Int32 → Option (MS × Int32))} (hG1 : ∀ (c : Nat → Nat) (m : MS) (u : CS) (v1 : Int32) (v2 : Int32), RP (some p) c m u → RF 0 (some p) VE c u (G.1 u 55 v1 v2) (G'.1 m p v1 v2)) (hG2 : ∀ (c : Nat → Nat) (m : MS) (u : CS) (v1 : Int32) (v2 : Int32) (v3 : Int64) (v5 : Int32), RP (some p) c m u → RF 0 (some p) VE c u (G.2.1 u 55 v1 v2 v3 v5) (G'.2.1 m p v1 v2 v3 v5)) (hG3 : ∀ (c : Nat → Nat) (m : MS) (u : CS) (v1 : Int32) (v2 : Int32) (v3 : Int64) (v5 : Int32) (v6 : Int64) (v8 : Int32), RP (some p) c m u → RF 0 (some p) VE c u (G.2.2 u 55 v1 v2 v3 v5 v6 v8) (G'.2.2 m p v1 v2 v3 v5 v6 v8)) (R : RP (some p) c m u) {v1 : Int32} {v2 : Int32} {v3 : Int64} {v5 : Int32} {v6 : Int64} {v8 : Int32} : RF 0 (some p) VE c u (fb_Ma_markGone_148 N G u 55 v1 v2 v3 v5 v6 v8) (hb_Ma_markGone_148 N G' m p v1 v2 v3 v5 v6 v8) := by
  unfold fb_Ma_markGone_148 hb_Ma_markGone_148
  refine rf_bo (gR_M3 R) ?_
  refine rf_soP R.md (fun j7 h_j7 => ?_)
  refine rf_bo (gR_P2 R h_j7) ?_
  refine rf_so ?_
  refine rf_ai (aq_2 R h_j7.1) ?_
  exact (hG3 _ _ _ _ _ _ _ _ _ R)
theorem yb_Ma_markGone_66 {N : Nat} {p : Nat} {c : Nat → Nat} {m : MS} {u : CS} {G : (CS → Nat → Int32 → Int32 → Option (CS × Int32)) × (CS → Nat → Int32 → Int32 → Int64 → Int32 → Option (CS × Int32)) × (CS → Nat → Int32 → Int32 → Int64 → Int32 → Int64 → Int32 → Option (CS × Int32))} {G' : (MS → Nat → Int32 → Int32 → Option (MS × Int32)) × (MS → Nat → Int32 → Int32 → Int64 → Int32 → Option (MS × Int32)) × (MS → Nat → Int32 → Int32 → Int64 → Int32 → Int64 → Int32 → Option (MS × Int32))} (hG1 : ∀ (c : Nat → Nat) (m : MS) (u : CS) (v1 : Int32) (v2 : Int32), RP (some p) c m u → RF 0 (some p) VE c u (G.1 u 55 v1 v2) (G'.1 m p v1 v2)) (hG2 : ∀ (c : Nat → Nat) (m : MS) (u : CS) (v1 : Int32) (v2 : Int32) (v3 : Int64) (v5 : Int32), RP (some p) c m u → RF 0 (some p) VE c u (G.2.1 u 55 v1 v2 v3 v5) (G'.2.1 m p v1 v2 v3 v5)) (hG3 : ∀ (c : Nat → Nat) (m : MS) (u : CS) (v1 : Int32) (v2 : Int32) (v3 : Int64) (v5 : Int32) (v6 : Int64) (v8 : Int32), RP (some p) c m u → RF 0 (some p) VE c u (G.2.2 u 55 v1 v2 v3 v5 v6 v8) (G'.2.2 m p v1 v2 v3 v5 v6 v8)) (R : RP (some p) c m u) {v1 : Int32} {v2 : Int32} {v3 : Int64} {v5 : Int32} {v6 : Int64} {v8 : Int32} : RF 0 (some p) VE c u (fb_Ma_markGone_66 N G u 55 v1 v2 v3 v5 v6 v8) (hb_Ma_markGone_66 N G' m p v1 v2 v3 v5 v6 v8) := by
  unfold fb_Ma_markGone_66 hb_Ma_markGone_66
  refine rf_br ?_ ?_
  · exact (yb_Ma_markGone_169 hG1 hG2 hG3 R)
  · refine rf_bo (rx_55_2 R) ?_
    refine rf_so ?_
    refine rf_bo (rx_43_0 R) ?_
    refine rf_so ?_
    refine rf_ai (ax_44 R) ?_
    refine rf_br ?_ ?_
    · refine rf_bo (rx_55_2 R) ?_
      refine rf_bo (gR_M3 R) ?_
      refine rf_soP R.md (fun j18 h_j18 => ?_)
      refine rf_bo (gR_P2 R h_j18) ?_
      refine rf_bo (gR_M3 R) ?_
      refine rf_soP R.md (fun j21 h_j21 => ?_)
      refine rf_bo (gR_P2 R h_j21) ?_
      refine rf_so ?_
      refine rf_ai (aq_2 R h_j21.1) ?_
      refine rf_bo (gR_M3 R) ?_
      refine rf_soP R.md (fun j26 h_j26 => ?_)
      refine rf_bo (gR_P2 R h_j26) ?_
      refine rf_so ?_
      refine rf_ai (aq_2 R h_j26.1) ?_
      refine rf_so ?_
      refine rf_ck (ox_43 R) ?_
      refine rf_bx0 (ym_Te_order R ⟨_, h_j18.1, rfl, rfl⟩) (fun u30' u30 r30 R_u30 => ?_)
      refine rf_br ?_ ?_
      · refine rf_bo (rx_55_2 R_u30) ?_
        refine rf_so ?_
        refine rf_bo (rx_43_0 R_u30) ?_
        refine rf_so ?_
        refine rf_wk (sx_44 R_u30) (fun w36' w36 R_w36 => ?_)
        refine rf_lt ?_
        exact (yb_Ma_markGone_169 hG1 hG2 hG3 R_w36)
      · exact (yb_Ma_markGone_148 hG1 hG2 hG3 R_u30)
    · exact (yb_Ma_markGone_148 hG1 hG2 hG3 R)
theorem yb_Ma_markGone_37 {N : Nat} {p : Nat} {c : Nat → Nat} {m : MS} {u : CS} {G : (CS → Nat → Int32 → Int32 → Option (CS × Int32)) × (CS → Nat → Int32 → Int32 → Int64 → Int32 → Option (CS × Int32)) × (CS → Nat → Int32 → Int32 → Int64 → Int32 → Int64 → Int32 → Option (CS × Int32))} {G' : (MS → Nat → Int32 → Int32 → Option (MS × Int32)) × (MS → Nat → Int32 → Int32 → Int64 → Int32 → Option (MS × Int32)) × (MS → Nat → Int32 → Int32 → Int64 → Int32 → Int64 → Int32 → Option (MS × Int32))} (hG1 : ∀ (c : Nat → Nat) (m : MS) (u : CS) (v1 : Int32) (v2 : Int32), RP (some p) c m u → RF 0 (some p) VE c u (G.1 u 55 v1 v2) (G'.1 m p v1 v2)) (hG2 : ∀ (c : Nat → Nat) (m : MS) (u : CS) (v1 : Int32) (v2 : Int32) (v3 : Int64) (v5 : Int32), RP (some p) c m u → RF 0 (some p) VE c u (G.2.1 u 55 v1 v2 v3 v5) (G'.2.1 m p v1 v2 v3 v5)) (hG3 : ∀ (c : Nat → Nat) (m : MS) (u : CS) (v1 : Int32) (v2 : Int32) (v3 : Int64) (v5 : Int32) (v6 : Int64) (v8 : Int32), RP (some p) c m u → RF 0 (some p) VE c u (G.2.2 u 55 v1 v2 v3 v5 v6 v8) (G'.2.2 m p v1 v2 v3 v5 v6 v8)) (R : RP (some p) c m u) {v1 : Int32} {v2 : Int32} {v3 : Int64} {v5 : Int32} : RF 0 (some p) VE c u (fb_Ma_markGone_37 N G u 55 v1 v2 v3 v5) (hb_Ma_markGone_37 N G' m p v1 v2 v3 v5) := by
  unfold fb_Ma_markGone_37 hb_Ma_markGone_37
  refine rf_br ?_ ?_
  · exact (yb_Ma_markGone_188 hG1 hG2 hG3 R)
  · refine rf_bx0 (ym_Te_tag R) (fun u38' u38 r38 R_u38 => ?_)
    refine rf_br ?_ ?_
    · refine rf_bo (gR_M4 R_u38) ?_
      refine rf_soF R_u38.md (fun j41 h_j41 => ?_)
      refine rf_ck (io_F R_u38 h_j41) ?_
      refine rf_bx0 (ym_Fr_below R_u38 h_j41) (fun u40' u40 r40 R_u40 => ?_)
      exact (hG3 _ _ _ _ _ _ _ _ _ R_u40)
    · exact (yb_Ma_markGone_188 hG1 hG2 hG3 R_u38)
theorem yb_Ma_markGone_2 {N : Nat} {p : Nat} {c : Nat → Nat} {m : MS} {u : CS} {G : (CS → Nat → Int32 → Int32 → Option (CS × Int32)) × (CS → Nat → Int32 → Int32 → Int64 → Int32 → Option (CS × Int32)) × (CS → Nat → Int32 → Int32 → Int64 → Int32 → Int64 → Int32 → Option (CS × Int32))} {G' : (MS → Nat → Int32 → Int32 → Option (MS × Int32)) × (MS → Nat → Int32 → Int32 → Int64 → Int32 → Option (MS × Int32)) × (MS → Nat → Int32 → Int32 → Int64 → Int32 → Int64 → Int32 → Option (MS × Int32))} (hG1 : ∀ (c : Nat → Nat) (m : MS) (u : CS) (v1 : Int32) (v2 : Int32), RP (some p) c m u → RF 0 (some p) VE c u (G.1 u 55 v1 v2) (G'.1 m p v1 v2)) (hG2 : ∀ (c : Nat → Nat) (m : MS) (u : CS) (v1 : Int32) (v2 : Int32) (v3 : Int64) (v5 : Int32), RP (some p) c m u → RF 0 (some p) VE c u (G.2.1 u 55 v1 v2 v3 v5) (G'.2.1 m p v1 v2 v3 v5)) (hG3 : ∀ (c : Nat → Nat) (m : MS) (u : CS) (v1 : Int32) (v2 : Int32) (v3 : Int64) (v5 : Int32) (v6 : Int64) (v8 : Int32), RP (some p) c m u → RF 0 (some p) VE c u (G.2.2 u 55 v1 v2 v3 v5 v6 v8) (G'.2.2 m p v1 v2 v3 v5 v6 v8)) (R : RP (some p) c m u) {v1 : Int32} {v2 : Int32} : RF 0 (some p) VE c u (fb_Ma_markGone_2 N G u 55 v1 v2) (hb_Ma_markGone_2 N G' m p v1 v2) := by
  unfold fb_Ma_markGone_2 hb_Ma_markGone_2
  refine rf_br ?_ ?_
  · refine rf_bo (gR_M4 R) ?_
    refine rf_soF R.md (fun j44 h_j44 => ?_)
    refine rf_ck (io_F R h_j44) ?_
    refine rf_bx0 (ym_Fr_below R h_j44) (fun u43' u43 r43 R_u43 => ?_)
    exact (hG2 _ _ _ _ _ _ _ R_u43)
  · refine rf_bo (rx_55_2 R) ?_
    refine rf_so ?_
    refine rf_bo (rx_43_0 R) ?_
    refine rf_so ?_
    refine rf_wk (sx_44 R) (fun w49' w49 R_w49 => ?_)
    exact (hG1 _ _ _ _ _ R_w49)
theorem yb_Ma_markGone_0 {N : Nat} {p : Nat} {c : Nat → Nat} {m : MS} {u : CS} {G : (CS → Nat → Int32 → Int32 → Option (CS × Int32)) × (CS → Nat → Int32 → Int32 → Int64 → Int32 → Option (CS × Int32)) × (CS → Nat → Int32 → Int32 → Int64 → Int32 → Int64 → Int32 → Option (CS × Int32))} {G' : (MS → Nat → Int32 → Int32 → Option (MS × Int32)) × (MS → Nat → Int32 → Int32 → Int64 → Int32 → Option (MS × Int32)) × (MS → Nat → Int32 → Int32 → Int64 → Int32 → Int64 → Int32 → Option (MS × Int32))} (hG1 : ∀ (c : Nat → Nat) (m : MS) (u : CS) (v1 : Int32) (v2 : Int32), RP (some p) c m u → RF 0 (some p) VE c u (G.1 u 55 v1 v2) (G'.1 m p v1 v2)) (hG2 : ∀ (c : Nat → Nat) (m : MS) (u : CS) (v1 : Int32) (v2 : Int32) (v3 : Int64) (v5 : Int32), RP (some p) c m u → RF 0 (some p) VE c u (G.2.1 u 55 v1 v2 v3 v5) (G'.2.1 m p v1 v2 v3 v5)) (hG3 : ∀ (c : Nat → Nat) (m : MS) (u : CS) (v1 : Int32) (v2 : Int32) (v3 : Int64) (v5 : Int32) (v6 : Int64) (v8 : Int32), RP (some p) c m u → RF 0 (some p) VE c u (G.2.2 u 55 v1 v2 v3 v5 v6 v8) (G'.2.2 m p v1 v2 v3 v5 v6 v8)) (R : RP (some p) c m u) {v1 : Int32} : RF 0 (some p) VE c u (fb_Ma_markGone_0 N G u 55 v1) (hb_Ma_markGone_0 N G' m p v1) := by
  unfold fb_Ma_markGone_0 hb_Ma_markGone_0
  exact (hG1 _ _ _ _ _ R)
theorem yg_Ma_markGone {N : Nat} {p : Nat} : ∀ n, (∀ (c : Nat → Nat) (m : MS) (u : CS) (v1 : Int32) (v2 : Int32), RP (some p) c m u → RF 0 (some p) VE c u ((gg_Ma_markGone N n).1 u 55 v1 v2) ((hg_Ma_markGone N n).1 m p v1 v2)) ∧ (∀ (c : Nat → Nat) (m : MS) (u : CS) (v1 : Int32) (v2 : Int32) (v3 : Int64) (v5 : Int32), RP (some p) c m u → RF 0 (some p) VE c u ((gg_Ma_markGone N n).2.1 u 55 v1 v2 v3 v5) ((hg_Ma_markGone N n).2.1 m p v1 v2 v3 v5)) ∧ (∀ (c : Nat → Nat) (m : MS) (u : CS) (v1 : Int32) (v2 : Int32) (v3 : Int64) (v5 : Int32) (v6 : Int64) (v8 : Int32), RP (some p) c m u → RF 0 (some p) VE c u ((gg_Ma_markGone N n).2.2 u 55 v1 v2 v3 v5 v6 v8) ((hg_Ma_markGone N n).2.2 m p v1 v2 v3 v5 v6 v8)) := by
  intro n
  induction n with
  | zero => exact ⟨fun c m u v1 v2 R => rf_none, fun c m u v1 v2 v3 v5 R => rf_none, fun c m u v1 v2 v3 v5 v6 v8 R => rf_none⟩
  | succ n ih => exact ⟨fun c m u v1 v2 R => yb_Ma_markGone_2 (N := N) ih.1 ih.2.1 ih.2.2 R, fun c m u v1 v2 v3 v5 R => yb_Ma_markGone_37 (N := N) ih.1 ih.2.1 ih.2.2 R, fun c m u v1 v2 v3 v5 v6 v8 R => yb_Ma_markGone_66 (N := N) ih.1 ih.2.1 ih.2.2 R⟩
theorem ym_Ma_markGone {N : Nat} {p : Nat} {c : Nat → Nat} {m : MS} {u : CS} (R : RP (some p) c m u) {v1 : Int32} : RF 0 (some p) VE c u (fm_Ma_markGone N u 55 v1) (hm_Ma_markGone N m p v1) := yb_Ma_markGone_0 (N := N) (yg_Ma_markGone (N := N) N).1 (yg_Ma_markGone (N := N) N).2.1 (yg_Ma_markGone (N := N) N).2.2 R
theorem yb_Ma_without_281 {N : Nat} {p : Nat} {c : Nat → Nat} {m : MS} {u : CS} {G : (CS → Nat → Int32 → Int32 → Int32 → Option (CS × Unit)) × (CS → Nat → Int32 → Int32 → Int32 → Int64 → Int32 → Option (CS × Unit))} {G' : (MS → Nat → Int32 → Int32 → Int32 → Option (MS × Unit)) × (MS → Nat → Int32 → Int32 → Int32 → Int64 → Int32 → Option (MS × Unit))} (hG1 : ∀ (c : Nat → Nat) (m : MS) (u : CS) (v2 : Int32) (v3 : Int32) (v4 : Int32), RP (some p) c m u → RF 2 (some p) VE c u (G.1 u 55 v2 v3 v4) (G'.1 m p v2 v3 v4)) (hG2 : ∀ (c : Nat → Nat) (m : MS) (u : CS) (v2 : Int32) (v4 : Int32) (v5 : Int32) (v6 : Int64) (v8 : Int32), RP (some p) c m u → RF 2 (some p) VE c u (G.2 u 55 v2 v4 v5 v6 v8) (G'.2 m p v2 v4 v5 v6 v8)) (R : RP (some p) c m u) {t1 : Int32} {t2 : Int64} : RF 2 (some p) VE c u (fb_Ma_without_281 N G u 55 55 t1 t2) (hb_Ma_without_281 N G' m p t1 t2) := by
  unfold fb_Ma_without_281 hb_Ma_without_281
  refine rf_ck (ox_55 R) ?_
  refine rf_ck (all1 (okR_s R (by decide))) ?_
  refine rf_bx (rf_gw (ym_Ma_answer R)) (by unfold zle; omega) (fun c_u1 u1' u1 r1 r1' R_u1 E_u1 v_u1 => ?_)
  cases v_u1
  refine rf_gw ?_
  refine rf_bo (gx_55_5 R_u1) ?_
  refine rf_w (px_55_5 R_u1) (fun w3' w3 R_w3 => ?_)
  exact rf_ret R_w3 rfl
theorem yb_Ma_without_231 {N : Nat} {p : Nat} {c : Nat → Nat} {m : MS} {u : CS} {G : (CS → Nat → Int32 → Int32 → Int32 → Option (CS × Unit)) × (CS → Nat → Int32 → Int32 → Int32 → Int64 → Int32 → Option (CS × Unit))} {G' : (MS → Nat → Int32 → Int32 → Int32 → Option (MS × Unit)) × (MS → Nat → Int32 → Int32 → Int32 → Int64 → Int32 → Option (MS × Unit))} (hG1 : ∀ (c : Nat → Nat) (m : MS) (u : CS) (v2 : Int32) (v3 : Int32) (v4 : Int32), RP (some p) c m u → RF 2 (some p) VE c u (G.1 u 55 v2 v3 v4) (G'.1 m p v2 v3 v4)) (hG2 : ∀ (c : Nat → Nat) (m : MS) (u : CS) (v2 : Int32) (v4 : Int32) (v5 : Int32) (v6 : Int64) (v8 : Int32), RP (some p) c m u → RF 2 (some p) VE c u (G.2 u 55 v2 v4 v5 v6 v8) (G'.2 m p v2 v4 v5 v6 v8)) (R : RP (some p) c m u) {v2 : Int32} {v4 : Int32} {v5 : Int32} {v6 : Int64} {v8 : Int32} : RF 2 (some p) VE c u (fb_Ma_without_231 N G u 55 v2 v4 v5 v6 v8) (hb_Ma_without_231 N G' m p v2 v4 v5 v6 v8) := by
  unfold fb_Ma_without_231 hb_Ma_without_231
  refine rf_bo (gR_M3 R) ?_
  refine rf_soP R.md (fun j5 h_j5 => ?_)
  refine rf_bo (gR_P2 R h_j5) ?_
  refine rf_so ?_
  refine rf_ai (aq_2 R h_j5.1) ?_
  exact (hG2 _ _ _ _ _ _ _ _ R)
theorem yb_Ma_without_150 {N : Nat} {p : Nat} {c : Nat → Nat} {m : MS} {u : CS} {G : (CS → Nat → Int32 → Int32 → Int32 → Option (CS × Unit)) × (CS → Nat → Int32 → Int32 → Int32 → Int64 → Int32 → Option (CS × Unit))} {G' : (MS → Nat → Int32 → Int32 → Int32 → Option (MS × Unit)) × (MS → Nat → Int32 → Int32 → Int32 → Int64 → Int32 → Option (MS × Unit))} (hG1 : ∀ (c : Nat → Nat) (m : MS) (u : CS) (v2 : Int32) (v3 : Int32) (v4 : Int32), RP (some p) c m u → RF 2 (some p) VE c u (G.1 u 55 v2 v3 v4) (G'.1 m p v2 v3 v4)) (hG2 : ∀ (c : Nat → Nat) (m : MS) (u : CS) (v2 : Int32) (v4 : Int32) (v5 : Int32) (v6 : Int64) (v8 : Int32), RP (some p) c m u → RF 2 (some p) VE c u (G.2 u 55 v2 v4 v5 v6 v8) (G'.2 m p v2 v4 v5 v6 v8)) (R : RP (some p) c m u) {v2 : Int32} {v4 : Int32} {v5 : Int32} {v6 : Int64} {v8 : Int32} : RF 2 (some p) VE c u (fb_Ma_without_150 N G u 55 v2 v4 v5 v6 v8) (hb_Ma_without_150 N G' m p v2 v4 v5 v6 v8) := by
  unfold fb_Ma_without_150 hb_Ma_without_150
  refine rf_br ?_ ?_
  · refine rf_ck (ox_55 R) ?_
    refine rf_bx0 (rf_gz (ym_Ma_endList R) (by omega)) (fun u9' u9 r9 R_u9 => ?_)
    refine rf_gw ?_
    refine rf_br ?_ ?_
    · exact (yb_Ma_without_281 hG1 hG2 R_u9)
    · refine rf_bx0 (rf_gz (ym_Te_make R_u9) (by omega)) (fun u10' u10 r10 R_u10 => ?_)
      refine rf_gw ?_
      exact (yb_Ma_without_281 hG1 hG2 R_u10)
  · refine rf_bo (rx_55_2 R) ?_
    refine rf_so ?_
    refine rf_bo (rx_43_0 R) ?_
    refine rf_so ?_
    refine rf_ai (ax_44 R) ?_
    refine rf_br ?_ ?_
    · refine rf_bo (gR_M3 R) ?_
      refine rf_soP R.md (fun j17 h_j17 => ?_)
      refine rf_bo (gR_P2 R h_j17) ?_
      refine rf_bo (gR_M3 R) ?_
      refine rf_soP R.md (fun j20 h_j20 => ?_)
      refine rf_bo (gR_P2 R h_j20) ?_
      refine rf_so ?_
      refine rf_ai (aq_2 R h_j20.1) ?_
      refine rf_so ?_
      refine rf_wk (sq_2 R h_j17.1) (fun w25' w25 R_w25 => ?_)
      refine rf_bo (gR_M3 R_w25) ?_
      refine rf_soP R_w25.md (fun j27 h_j27 => ?_)
      refine rf_bo (gR_P2 R_w25 h_j27) ?_
      refine rf_bx0 (rf_gz (ym_Te_make R_w25) (by omega)) (fun u29' u29 r29 R_u29 => ?_)
      refine rf_gw ?_
      refine rf_so ?_
      refine rf_wk (sq_2 R_u29 h_j27.1) (fun w31' w31 R_w31 => ?_)
      exact (yb_Ma_without_231 hG1 hG2 R_w31)
    · exact (yb_Ma_without_231 hG1 hG2 R)
theorem yb_Ma_without_106 {N : Nat} {p : Nat} {c : Nat → Nat} {m : MS} {u : CS} {G : (CS → Nat → Int32 → Int32 → Int32 → Option (CS × Unit)) × (CS → Nat → Int32 → Int32 → Int32 → Int64 → Int32 → Option (CS × Unit))} {G' : (MS → Nat → Int32 → Int32 → Int32 → Option (MS × Unit)) × (MS → Nat → Int32 → Int32 → Int32 → Int64 → Int32 → Option (MS × Unit))} (hG1 : ∀ (c : Nat → Nat) (m : MS) (u : CS) (v2 : Int32) (v3 : Int32) (v4 : Int32), RP (some p) c m u → RF 2 (some p) VE c u (G.1 u 55 v2 v3 v4) (G'.1 m p v2 v3 v4)) (hG2 : ∀ (c : Nat → Nat) (m : MS) (u : CS) (v2 : Int32) (v4 : Int32) (v5 : Int32) (v6 : Int64) (v8 : Int32), RP (some p) c m u → RF 2 (some p) VE c u (G.2 u 55 v2 v4 v5 v6 v8) (G'.2 m p v2 v4 v5 v6 v8)) (R : RP (some p) c m u) {v2 : Int32} {v4 : Int32} {t0 : Int32} {t1 : Int32} : RF 2 (some p) VE c u (fb_Ma_without_106 N G u 55 v2 v4 t0 t1) (hb_Ma_without_106 N G' m p v2 v4 t0 t1) := by
  unfold fb_Ma_without_106 hb_Ma_without_106
  exact (hG1 _ _ _ _ _ _ R)
theorem yb_Ma_without_79 {N : Nat} {p : Nat} {c : Nat → Nat} {m : MS} {u : CS} {G : (CS → Nat → Int32 → Int32 → Int32 → Option (CS × Unit)) × (CS → Nat → Int32 → Int32 → Int32 → Int64 → Int32 → Option (CS × Unit))} {G' : (MS → Nat → Int32 → Int32 → Int32 → Option (MS × Unit)) × (MS → Nat → Int32 → Int32 → Int32 → Int64 → Int32 → Option (MS × Unit))} (hG1 : ∀ (c : Nat → Nat) (m : MS) (u : CS) (v2 : Int32) (v3 : Int32) (v4 : Int32), RP (some p) c m u → RF 2 (some p) VE c u (G.1 u 55 v2 v3 v4) (G'.1 m p v2 v3 v4)) (hG2 : ∀ (c : Nat → Nat) (m : MS) (u : CS) (v2 : Int32) (v4 : Int32) (v5 : Int32) (v6 : Int64) (v8 : Int32), RP (some p) c m u → RF 2 (some p) VE c u (G.2 u 55 v2 v4 v5 v6 v8) (G'.2 m p v2 v4 v5 v6 v8)) (R : RP (some p) c m u) {v2 : Int32} {v3 : Int32} {v4 : Int32} : RF 2 (some p) VE c u (fb_Ma_without_79 N G u 55 v2 v3 v4) (hb_Ma_without_79 N G' m p v2 v3 v4) := by
  unfold fb_Ma_without_79 hb_Ma_without_79
  refine rf_br ?_ ?_
  · refine rf_ck (ox_55 R) ?_
    refine rf_bx (rf_gz (ym_Ma_room R) (by omega)) (by unfold zle; omega) (fun c_u32 u32' u32 r32 r32' R_u32 E_u32 v_u32 => ?_)
    cases v_u32
    refine rf_gw ?_
    refine rf_br ?_ ?_
    · exact rf_ret R_u32 rfl
    · refine rf_bo (gR_M3 R_u32) ?_
      refine rf_soP R_u32.md (fun j34 h_j34 => ?_)
      refine rf_bo (gq_4 R_u32 h_j34) ?_
      refine rf_bo (gR_M4 R_u32) ?_
      refine rf_soF R_u32.md (fun j38 h_j38 => ?_)
      refine rf_ck (io_F R_u32 h_j38) ?_
      refine rf_bx0 (rf_gz (ym_Fr_below R_u32 h_j38) (by omega)) (fun u37' u37 r37 R_u37 => ?_)
      refine rf_gw ?_
      exact (hG2 _ _ _ _ _ _ _ _ R_u37)
  · refine rf_bo (rx_55_2 R) ?_
    refine rf_so ?_
    refine rf_bo (rx_43_0 R) ?_
    refine rf_so ?_
    refine rf_ai (ax_44 R) ?_
    refine rf_br ?_ ?_
    · exact (yb_Ma_without_106 hG1 hG2 R)
    · exact (yb_Ma_without_106 hG1 hG2 R)
theorem yb_Ma_without_61 {N : Nat} {p : Nat} {c : Nat → Nat} {m : MS} {u : CS} {G : (CS → Nat → Int32 → Int32 → Int32 → Option (CS × Unit)) × (CS → Nat → Int32 → Int32 → Int32 → Int64 → Int32 → Option (CS × Unit))} {G' : (MS → Nat → Int32 → Int32 → Int32 → Option (MS × Unit)) × (MS → Nat → Int32 → Int32 → Int32 → Int64 → Int32 → Option (MS × Unit))} (hG1 : ∀ (c : Nat → Nat) (m : MS) (u : CS) (v2 : Int32) (v3 : Int32) (v4 : Int32), RP (some p) c m u → RF 2 (some p) VE c u (G.1 u 55 v2 v3 v4) (G'.1 m p v2 v3 v4)) (hG2 : ∀ (c : Nat → Nat) (m : MS) (u : CS) (v2 : Int32) (v4 : Int32) (v5 : Int32) (v6 : Int64) (v8 : Int32), RP (some p) c m u → RF 2 (some p) VE c u (G.2 u 55 v2 v4 v5 v6 v8) (G'.2 m p v2 v4 v5 v6 v8)) (R : RP (some p) c m u) : RF 2 (some p) VE c u (fb_Ma_without_61 N G u 55) (hb_Ma_without_61 N G' m p) := by
  unfold fb_Ma_without_61 hb_Ma_without_61
  refine rf_ck (ox_55 R) ?_
  refine rf_bx0 (rf_gz (ym_Ma_wrong R) (by omega)) (fun u44' u44 r44 R_u44 => ?_)
  refine rf_gw ?_
  exact rf_ret R_u44 rfl
theorem yb_Ma_without_0 {N : Nat} {p : Nat} {c : Nat → Nat} {m : MS} {u : CS} {G : (CS → Nat → Int32 → Int32 → Int32 → Option (CS × Unit)) × (CS → Nat → Int32 → Int32 → Int32 → Int64 → Int32 → Option (CS × Unit))} {G' : (MS → Nat → Int32 → Int32 → Int32 → Option (MS × Unit)) × (MS → Nat → Int32 → Int32 → Int32 → Int64 → Int32 → Option (MS × Unit))} (hG1 : ∀ (c : Nat → Nat) (m : MS) (u : CS) (v2 : Int32) (v3 : Int32) (v4 : Int32), RP (some p) c m u → RF 2 (some p) VE c u (G.1 u 55 v2 v3 v4) (G'.1 m p v2 v3 v4)) (hG2 : ∀ (c : Nat → Nat) (m : MS) (u : CS) (v2 : Int32) (v4 : Int32) (v5 : Int32) (v6 : Int64) (v8 : Int32), RP (some p) c m u → RF 2 (some p) VE c u (G.2 u 55 v2 v4 v5 v6 v8) (G'.2 m p v2 v4 v5 v6 v8)) (R : RP (some p) c m u) : RF 2 (some p) VE c u (fb_Ma_without_0 N G u 55) (hb_Ma_without_0 N G' m p) := by
  unfold fb_Ma_without_0 hb_Ma_without_0
  refine rf_bo (rx_55_2 R) ?_
  refine rf_bo (gR_M3 R) ?_
  refine rf_soP R.md (fun j47 h_j47 => ?_)
  refine rf_bo (gR_P2 R h_j47) ?_
  refine rf_bo (gR_M4 R) ?_
  refine rf_soF R.md (fun j51 h_j51 => ?_)
  refine rf_ck (io_F R h_j51) ?_
  refine rf_bx0 (rf_gz (ym_Fr_below R h_j51) (by omega)) (fun u50' u50 r50 R_u50 => ?_)
  refine rf_gw ?_
  refine rf_so ?_
  refine rf_ck (ox_43 R_u50) ?_
  refine rf_bx0 (rf_gz (ym_Te_listLength R_u50 ⟨_, h_j47.1, rfl, rfl⟩) (by omega)) (fun u52' u52 r52 R_u52 => ?_)
  refine rf_gw ?_
  refine rf_br ?_ ?_
  · exact (yb_Ma_without_61 hG1 hG2 R_u52)
  · refine rf_br ?_ ?_
    · exact (yb_Ma_without_61 hG1 hG2 R_u52)
    · refine rf_bo (rx_55_2 R_u52) ?_
      refine rf_bo (gR_M3 R_u52) ?_
      refine rf_soP R_u52.md (fun j56 h_j56 => ?_)
      refine rf_bo (gR_P2 R_u52 h_j56) ?_
      refine rf_bo (gR_M4 R_u52) ?_
      refine rf_soF R_u52.md (fun j60 h_j60 => ?_)
      refine rf_ck (io_F R_u52 h_j60) ?_
      refine rf_bx0 (rf_gz (ym_Fr_below R_u52 h_j60) (by omega)) (fun u59' u59 r59 R_u59 => ?_)
      refine rf_gw ?_
      refine rf_so ?_
      refine rf_ck (ox_43 R_u59) ?_
      refine rf_bx0 (rf_gz (ym_Te_listLength R_u59 ⟨_, h_j56.1, rfl, rfl⟩) (by omega)) (fun u61' u61 r61 R_u61 => ?_)
      refine rf_gw ?_
      refine rf_br ?_ ?_
      · exact (yb_Ma_without_61 hG1 hG2 R_u61)
      · refine rf_ck (ox_55 R_u61) ?_
        refine rf_bx0 (rf_gz (ym_Ma_markGone R_u61) (by omega)) (fun u63' u63 r63 R_u63 => ?_)
        refine rf_gw ?_
        exact (hG1 _ _ _ _ _ _ R_u63)
theorem yg_Ma_without {N : Nat} {p : Nat} : ∀ n, (∀ (c : Nat → Nat) (m : MS) (u : CS) (v2 : Int32) (v3 : Int32) (v4 : Int32), RP (some p) c m u → RF 2 (some p) VE c u ((gg_Ma_without N n).1 u 55 v2 v3 v4) ((hg_Ma_without N n).1 m p v2 v3 v4)) ∧ (∀ (c : Nat → Nat) (m : MS) (u : CS) (v2 : Int32) (v4 : Int32) (v5 : Int32) (v6 : Int64) (v8 : Int32), RP (some p) c m u → RF 2 (some p) VE c u ((gg_Ma_without N n).2 u 55 v2 v4 v5 v6 v8) ((hg_Ma_without N n).2 m p v2 v4 v5 v6 v8)) := by
  intro n
  induction n with
  | zero => exact ⟨fun c m u v2 v3 v4 R => rf_none, fun c m u v2 v4 v5 v6 v8 R => rf_none⟩
  | succ n ih => exact ⟨fun c m u v2 v3 v4 R => yb_Ma_without_79 (N := N) ih.1 ih.2 R, fun c m u v2 v4 v5 v6 v8 R => yb_Ma_without_150 (N := N) ih.1 ih.2 R⟩
theorem ym_Ma_without {N : Nat} {p : Nat} {c : Nat → Nat} {m : MS} {u : CS} (R : RP (some p) c m u) : RF 2 (some p) VE c u (fm_Ma_without N u 55) (hm_Ma_without N m p) := yb_Ma_without_0 (N := N) (yg_Ma_without (N := N) N).1 (yg_Ma_without (N := N) N).2 R
theorem yb_Ma_value_240 {N : Nat} {p : Nat} {c : Nat → Nat} {m : MS} {u : CS} (R : RP (some p) c m u) : RF 2 (some p) VE c u (fb_Ma_value_240 N () u) (hb_Ma_value_240 N () m p) := by
  unfold fb_Ma_value_240 hb_Ma_value_240
  exact rf_ret R rfl
theorem yb_Ma_value_159 {N : Nat} {p : Nat} {c : Nat → Nat} {m : MS} {u : CS} (R : RP (some p) c m u) {v2 : Int32} {t1 : Int32} : RF 2 (some p) VE c u (fb_Ma_value_159 N () u v2 55 t1) (hb_Ma_value_159 N () m p v2 t1) := by
  unfold fb_Ma_value_159 hb_Ma_value_159
  refine rf_ck (ox_55 R) ?_
  refine rf_bx0 (rf_gz (ym_Ma_hinge R) (by omega)) (fun u1' u1 r1 R_u1 => ?_)
  refine rf_gw ?_
  exact (yb_Ma_value_240 R_u1)
theorem yb_Ma_value_0 {N : Nat} {p : Nat} {c : Nat → Nat} {m : MS} {u : CS} (R : RP (some p) c m u) {v1 : Int32} : RF 2 (some p) VE c u (fb_Ma_value_0 N () u 55 v1) (hb_Ma_value_0 N () m p v1) := by
  unfold fb_Ma_value_0 hb_Ma_value_0
  refine rf_bo (rx_55_0 R) ?_
  refine rf_bo (gx_55_5 R) ?_
  refine rf_so ?_
  refine rf_ck (ox_22 R) ?_
  refine rf_bx0 (rf_gz (ym_Co_at R) (by omega)) (fun u4' u4 r4 R_u4 => ?_)
  refine rf_gw ?_
  refine rf_br ?_ ?_
  · refine rf_bo (rx_55_2 R_u4) ?_
    refine rf_bo (gR_M3 R_u4) ?_
    refine rf_soP R_u4.md (fun j8 h_j8 => ?_)
    refine rf_bo (gR_P2 R_u4 h_j8) ?_
    refine rf_bo (gR_M4 R_u4) ?_
    refine rf_soF R_u4.md (fun j12 h_j12 => ?_)
    refine rf_ck (io_F R_u4 h_j12) ?_
    refine rf_bx0 (rf_gz (ym_Fr_below R_u4 h_j12) (by omega)) (fun u11' u11 r11 R_u11 => ?_)
    refine rf_gw ?_
    refine rf_bo (gR_M4 R_u11) ?_
    refine rf_soF R_u11.md (fun j15 h_j15 => ?_)
    refine rf_ck (io_F R_u11 h_j15) ?_
    refine rf_bx0 (rf_gz (ym_Fr_below R_u11 h_j15) (by omega)) (fun u14' u14 r14 R_u14 => ?_)
    refine rf_gw ?_
    refine rf_so ?_
    refine rf_ck (ox_43 R_u14) ?_
    refine rf_bx0 (rf_gz (ym_Te_order R_u14 ⟨_, h_j8.1, rfl, rfl⟩) (by omega)) (fun u16' u16 r16 R_u16 => ?_)
    refine rf_gw ?_
    refine rf_bx0 (rf_gz (ym_Ma_holds R_u16) (by omega)) (fun u18' u18 r18 R_u18 => ?_)
    refine rf_gw ?_
    refine rf_bx0 (rf_gz (ym_Ma_truth R_u18) (by omega)) (fun u19' u19 r19 R_u19 => ?_)
    refine rf_gw ?_
    refine rf_ck (ox_55 R_u19) ?_
    refine rf_ck (all1 (okR_s R_u19 (by decide))) ?_
    refine rf_bx (rf_gw (ym_Ma_answer R_u19)) (by unfold zle; omega) (fun c_u20 u20' u20 r20 r20' R_u20 E_u20 v_u20 => ?_)
    cases v_u20
    refine rf_gw ?_
    refine rf_bo (gx_55_5 R_u20) ?_
    refine rf_w (px_55_5 R_u20) (fun w22' w22 R_w22 => ?_)
    exact (yb_Ma_value_240 R_w22)
  · refine rf_br ?_ ?_
    · refine rf_ck (ox_55 R_u4) ?_
      refine rf_ck (all1 (okR_s R_u4 (by decide))) ?_
      refine rf_bx (rf_gw (ym_Ma_arithmetic R_u4)) (by unfold zle; omega) (fun c_u23 u23' u23 r23 r23' R_u23 E_u23 v_u23 => ?_)
      cases v_u23
      refine rf_gw ?_
      exact (yb_Ma_value_240 R_u23)
    · refine rf_br ?_ ?_
      · refine rf_br ?_ ?_
        · refine rf_ck (ox_55 R_u4) ?_
          refine rf_ck (all1 (okR_s R_u4 (by decide))) ?_
          refine rf_bx (rf_gw (ym_Ma_join R_u4)) (by unfold zle; omega) (fun c_u25 u25' u25 r25 r25' R_u25 E_u25 v_u25 => ?_)
          cases v_u25
          refine rf_gw ?_
          exact (yb_Ma_value_240 R_u25)
        · refine rf_ck (ox_55 R_u4) ?_
          refine rf_ck (all1 (okR_s R_u4 (by decide))) ?_
          refine rf_bx (rf_gw (ym_Ma_without R_u4)) (by unfold zle; omega) (fun c_u24 u24' u24 r24 r24' R_u24 E_u24 v_u24 => ?_)
          cases v_u24
          refine rf_gw ?_
          exact (yb_Ma_value_240 R_u24)
      · refine rf_br ?_ ?_
        · refine rf_ck (ox_55 R_u4) ?_
          refine rf_ck (all1 (okR_s R_u4 (by decide))) ?_
          refine rf_bx (rf_gw (ym_Ma_negate R_u4)) (by unfold zle; omega) (fun c_u26 u26' u26 r26 r26' R_u26 E_u26 v_u26 => ?_)
          cases v_u26
          refine rf_gw ?_
          exact (yb_Ma_value_240 R_u26)
        · refine rf_br ?_ ?_
          · refine rf_ck (ox_55 R_u4) ?_
            refine rf_ck (all1 (okR_s R_u4 (by decide))) ?_
            refine rf_bx (rf_gw (ym_Ma_not R_u4)) (by unfold zle; omega) (fun c_u27 u27' u27 r27 r27' R_u27 E_u27 v_u27 => ?_)
            cases v_u27
            refine rf_gw ?_
            exact (yb_Ma_value_240 R_u27)
          · refine rf_br ?_ ?_
            · refine rf_br ?_ ?_
              · exact (yb_Ma_value_159 R_u4)
              · exact (yb_Ma_value_159 R_u4)
            · refine rf_br ?_ ?_
              · refine rf_br ?_ ?_
                · exact (yb_Ma_value_159 R_u4)
                · exact (yb_Ma_value_159 R_u4)
              · refine rf_br ?_ ?_
                · refine rf_bo (gR_M4 R_u4) ?_
                  refine rf_soF R_u4.md (fun j30 h_j30 => ?_)
                  refine rf_ck (io_F R_u4 h_j30) ?_
                  refine rf_bx0 (rf_gz (ym_Fr_drop R_u4 h_j30) (by omega)) (fun u29' u29 r29 R_u29 => ?_)
                  refine rf_gw ?_
                  refine rf_bo (gx_55_5 R_u29) ?_
                  refine rf_w (px_55_5 R_u29) (fun w32' w32 R_w32 => ?_)
                  exact (yb_Ma_value_240 R_w32)
                · refine rf_br ?_ ?_
                  · refine rf_bo (gR_M4 R_u4) ?_
                    refine rf_soF R_u4.md (fun j35 h_j35 => ?_)
                    refine rf_ck (io_F R_u4 h_j35) ?_
                    refine rf_bx0 (rf_gz (ym_Fr_forget R_u4 h_j35) (by omega)) (fun u34' u34 r34 R_u34 => ?_)
                    refine rf_gw ?_
                    refine rf_bo (gx_55_5 R_u34) ?_
                    refine rf_w (px_55_5 R_u34) (fun w37' w37 R_w37 => ?_)
                    exact (yb_Ma_value_240 R_w37)
                  · refine rf_br ?_ ?_
                    · refine rf_ck (ox_55 R_u4) ?_
                      refine rf_ck (all1 (okR_s R_u4 (by decide))) ?_
                      refine rf_bx (rf_gw (ym_Ma_sendTo R_u4)) (by unfold zle; omega) (fun c_u38 u38' u38 r38 r38' R_u38 E_u38 v_u38 => ?_)
                      cases v_u38
                      refine rf_gw ?_
                      exact (yb_Ma_value_240 R_u38)
                    · refine rf_w (px_55_8 R_u4) (fun w39' w39 R_w39 => ?_)
                      exact (yb_Ma_value_240 R_w39)
theorem ym_Ma_value {N : Nat} {p : Nat} {c : Nat → Nat} {m : MS} {u : CS} (R : RP (some p) c m u) {v1 : Int32} : RF 2 (some p) VE c u (fm_Ma_value N u 55 v1) (hm_Ma_value N m p v1) := yb_Ma_value_0 (N := N) R
theorem yb_Ma_fit_370 {N : Nat} {p : Nat} {c : Nat → Nat} {m : MS} {u : CS} {G : (CS → Nat → Option Nat → Int32 → Int32 → Int32 → Option (CS × Int32)) × (CS → Nat → Option Nat → Int32 → Int32 → Int32 → Int64 → Int32 → Option (CS × Int32))} {G' : (MS → Nat → Int32 → Int32 → Int32 → Option (MS × Int32)) × (MS → Nat → Int32 → Int32 → Int32 → Int64 → Int32 → Option (MS × Int32))} (hG1 : ∀ (c : Nat → Nat) (m : MS) (u : CS) (v4 : Int32) (v5 : Int32) (v6 : Int32), RP (some p) c m u → RF 1 (some p) VE c u (G.1 u 55 (some 44) v4 v5 v6) (G'.1 m p v4 v5 v6)) (hG2 : ∀ (c : Nat → Nat) (m : MS) (u : CS) (v4 : Int32) (v5 : Int32) (v6 : Int32) (v7 : Int64) (v10 : Int32), RP (some p) c m u → RF 1 (some p) VE c u (G.2 u 55 (some 44) v4 v5 v6 v7 v10) (G'.2 m p v4 v5 v6 v7 v10)) (R : RP (some p) c m u) {v4 : Int32} : RF 1 (some p) VE c u (fb_Ma_fit_370 N G u v4) (hb_Ma_fit_370 N G' m p v4) := by
  unfold fb_Ma_fit_370 hb_Ma_fit_370
  exact rf_ret R rfl
theorem yb_Ma_fit_364 {N : Nat} {p : Nat} {c : Nat → Nat} {m : MS} {u : CS} {G : (CS → Nat → Option Nat → Int32 → Int32 → Int32 → Option (CS × Int32)) × (CS → Nat → Option Nat → Int32 → Int32 → Int32 → Int64 → Int32 → Option (CS × Int32))} {G' : (MS → Nat → Int32 → Int32 → Int32 → Option (MS × Int32)) × (MS → Nat → Int32 → Int32 → Int32 → Int64 → Int32 → Option (MS × Int32))} (hG1 : ∀ (c : Nat → Nat) (m : MS) (u : CS) (v4 : Int32) (v5 : Int32) (v6 : Int32), RP (some p) c m u → RF 1 (some p) VE c u (G.1 u 55 (some 44) v4 v5 v6) (G'.1 m p v4 v5 v6)) (hG2 : ∀ (c : Nat → Nat) (m : MS) (u : CS) (v4 : Int32) (v5 : Int32) (v6 : Int32) (v7 : Int64) (v10 : Int32), RP (some p) c m u → RF 1 (some p) VE c u (G.2 u 55 (some 44) v4 v5 v6 v7 v10) (G'.2 m p v4 v5 v6 v7 v10)) (R : RP (some p) c m u) {v4 : Int32} {v5 : Int32} {v6 : Int32} : RF 1 (some p) VE c u (fb_Ma_fit_364 N G u 55 (some 44) v4 v5 v6) (hb_Ma_fit_364 N G' m p v4 v5 v6) := by
  unfold fb_Ma_fit_364 hb_Ma_fit_364
  exact (hG1 _ _ _ _ _ _ R)
theorem yb_Ma_fit_268 {N : Nat} {p : Nat} {c : Nat → Nat} {m : MS} {u : CS} {G : (CS → Nat → Option Nat → Int32 → Int32 → Int32 → Option (CS × Int32)) × (CS → Nat → Option Nat → Int32 → Int32 → Int32 → Int64 → Int32 → Option (CS × Int32))} {G' : (MS → Nat → Int32 → Int32 → Int32 → Option (MS × Int32)) × (MS → Nat → Int32 → Int32 → Int32 → Int64 → Int32 → Option (MS × Int32))} (hG1 : ∀ (c : Nat → Nat) (m : MS) (u : CS) (v4 : Int32) (v5 : Int32) (v6 : Int32), RP (some p) c m u → RF 1 (some p) VE c u (G.1 u 55 (some 44) v4 v5 v6) (G'.1 m p v4 v5 v6)) (hG2 : ∀ (c : Nat → Nat) (m : MS) (u : CS) (v4 : Int32) (v5 : Int32) (v6 : Int32) (v7 : Int64) (v10 : Int32), RP (some p) c m u → RF 1 (some p) VE c u (G.2 u 55 (some 44) v4 v5 v6 v7 v10) (G'.2 m p v4 v5 v6 v7 v10)) (R : RP (some p) c m u) {v4 : Int32} {v5 : Int32} {v6 : Int32} {v7 : Int64} {v10 : Int32} : RF 1 (some p) VE c u (fb_Ma_fit_268 N G u 55 (some 44) v4 v5 v6 v7 v10) (hb_Ma_fit_268 N G' m p v4 v5 v6 v7 v10) := by
  unfold fb_Ma_fit_268 hb_Ma_fit_268
  refine rf_br ?_ ?_
  · exact (yb_Ma_fit_364 hG1 hG2 R)
  · refine rf_bo (gR_M3 R) ?_
    refine rf_soP R.md (fun j2 h_j2 => ?_)
    refine rf_bo (gR_P2 R h_j2) ?_
    refine rf_so ?_
    refine rf_ai (aq_2 R h_j2.1) ?_
    refine rf_so ?_
    refine rf_wk (sx_44 R) (fun w7' w7 R_w7 => ?_)
    exact (hG2 _ _ _ _ _ _ _ _ R_w7)
theorem yb_Ma_fit_262 {N : Nat} {p : Nat} {c : Nat → Nat} {m : MS} {u : CS} {G : (CS → Nat → Option Nat → Int32 → Int32 → Int32 → Option (CS × Int32)) × (CS → Nat → Option Nat → Int32 → Int32 → Int32 → Int64 → Int32 → Option (CS × Int32))} {G' : (MS → Nat → Int32 → Int32 → Int32 → Option (MS × Int32)) × (MS → Nat → Int32 → Int32 → Int32 → Int64 → Int32 → Option (MS × Int32))} (hG1 : ∀ (c : Nat → Nat) (m : MS) (u : CS) (v4 : Int32) (v5 : Int32) (v6 : Int32), RP (some p) c m u → RF 1 (some p) VE c u (G.1 u 55 (some 44) v4 v5 v6) (G'.1 m p v4 v5 v6)) (hG2 : ∀ (c : Nat → Nat) (m : MS) (u : CS) (v4 : Int32) (v5 : Int32) (v6 : Int32) (v7 : Int64) (v10 : Int32), RP (some p) c m u → RF 1 (some p) VE c u (G.2 u 55 (some 44) v4 v5 v6 v7 v10) (G'.2 m p v4 v5 v6 v7 v10)) (R : RP (some p) c m u) : RF 1 (some p) VE c u (fb_Ma_fit_262 N G u) (hb_Ma_fit_262 N G' m p) := by
  unfold fb_Ma_fit_262 hb_Ma_fit_262
  exact rf_ret R rfl
theorem yb_Ma_fit_57 {N : Nat} {p : Nat} {c : Nat → Nat} {m : MS} {u : CS} {G : (CS → Nat → Option Nat → Int32 → Int32 → Int32 → Option (CS × Int32)) × (CS → Nat → Option Nat → Int32 → Int32 → Int32 → Int64 → Int32 → Option (CS × Int32))} {G' : (MS → Nat → Int32 → Int32 → Int32 → Option (MS × Int32)) × (MS → Nat → Int32 → Int32 → Int32 → Int64 → Int32 → Option (MS × Int32))} (hG1 : ∀ (c : Nat → Nat) (m : MS) (u : CS) (v4 : Int32) (v5 : Int32) (v6 : Int32), RP (some p) c m u → RF 1 (some p) VE c u (G.1 u 55 (some 44) v4 v5 v6) (G'.1 m p v4 v5 v6)) (hG2 : ∀ (c : Nat → Nat) (m : MS) (u : CS) (v4 : Int32) (v5 : Int32) (v6 : Int32) (v7 : Int64) (v10 : Int32), RP (some p) c m u → RF 1 (some p) VE c u (G.2 u 55 (some 44) v4 v5 v6 v7 v10) (G'.2 m p v4 v5 v6 v7 v10)) (R : RP (some p) c m u) : RF 1 (some p) VE c u (fb_Ma_fit_57 N G u) (hb_Ma_fit_57 N G' m p) := by
  unfold fb_Ma_fit_57 hb_Ma_fit_57
  exact rf_ret R rfl
theorem yb_Ma_fit_17 {N : Nat} {p : Nat} {c : Nat → Nat} {m : MS} {u : CS} {G : (CS → Nat → Option Nat → Int32 → Int32 → Int32 → Option (CS × Int32)) × (CS → Nat → Option Nat → Int32 → Int32 → Int32 → Int64 → Int32 → Option (CS × Int32))} {G' : (MS → Nat → Int32 → Int32 → Int32 → Option (MS × Int32)) × (MS → Nat → Int32 → Int32 → Int32 → Int64 → Int32 → Option (MS × Int32))} (hG1 : ∀ (c : Nat → Nat) (m : MS) (u : CS) (v4 : Int32) (v5 : Int32) (v6 : Int32), RP (some p) c m u → RF 1 (some p) VE c u (G.1 u 55 (some 44) v4 v5 v6) (G'.1 m p v4 v5 v6)) (hG2 : ∀ (c : Nat → Nat) (m : MS) (u : CS) (v4 : Int32) (v5 : Int32) (v6 : Int32) (v7 : Int64) (v10 : Int32), RP (some p) c m u → RF 1 (some p) VE c u (G.2 u 55 (some 44) v4 v5 v6 v7 v10) (G'.2 m p v4 v5 v6 v7 v10)) (R : RP (some p) c m u) {v4 : Int32} {v5 : Int32} {v6 : Int32} : RF 1 (some p) VE c u (fb_Ma_fit_17 N G u 55 (some 44) v4 v5 v6) (hb_Ma_fit_17 N G' m p v4 v5 v6) := by
  unfold fb_Ma_fit_17 hb_Ma_fit_17
  refine rf_br ?_ ?_
  · exact (yb_Ma_fit_370 hG1 hG2 R)
  · refine rf_bo (rx_55_0 R) ?_
    refine rf_so ?_
    refine rf_ck (ox_22 R) ?_
    refine rf_bx0 (rf_gz (ym_Co_at R) (by omega)) (fun u9' u9 r9 R_u9 => ?_)
    refine rf_gw ?_
    refine rf_br ?_ ?_
    · exact (yb_Ma_fit_370 hG1 hG2 R_u9)
    · refine rf_br ?_ ?_
      · exact (yb_Ma_fit_57 hG1 hG2 R_u9)
      · refine rf_br ?_ ?_
        · refine rf_so ?_
          refine rf_ai (ax_44 R_u9) ?_
          refine rf_bo (rx_55_0 R_u9) ?_
          refine rf_so ?_
          refine rf_ck (ox_22 R_u9) ?_
          refine rf_bx0 (rf_gz (ym_Co_at R_u9) (by omega)) (fun u14' u14 r14 R_u14 => ?_)
          refine rf_gw ?_
          refine rf_bo (rx_55_0 R_u14) ?_
          refine rf_so ?_
          refine rf_ck (ox_22 R_u14) ?_
          refine rf_bx0 (rf_gz (ym_Co_at R_u14) (by omega)) (fun u17' u17 r17 R_u17 => ?_)
          refine rf_gw ?_
          refine rf_br ?_ ?_
          · refine rf_bo (rx_55_0 R_u17) ?_
            refine rf_so ?_
            refine rf_ck (ox_22 R_u17) ?_
            refine rf_bx0 (rf_gz (ym_Co_at R_u17) (by omega)) (fun u20' u20 r20 R_u20 => ?_)
            refine rf_gw ?_
            refine rf_bx0 (rf_gz (ym_Te_make R_u20) (by omega)) (fun u22' u22 r22 R_u22 => ?_)
            refine rf_gw ?_
            refine rf_br ?_ ?_
            · exact (yb_Ma_fit_364 hG1 hG2 R_u22)
            · exact rf_ret R_u22 rfl
          · refine rf_br ?_ ?_
            · refine rf_ck (ox_55 R_u17) ?_
              refine rf_bx0 (rf_gz (ym_Ma_fitsString R_u17) (by omega)) (fun u23' u23 r23 R_u23 => ?_)
              refine rf_gw ?_
              refine rf_br ?_ ?_
              · exact rf_ret R_u23 rfl
              · exact (yb_Ma_fit_364 hG1 hG2 R_u23)
            · refine rf_br ?_ ?_
              · refine rf_bo (rx_55_2 R_u17) ?_
                refine rf_bo (gR_M3 R_u17) ?_
                refine rf_soP R_u17.md (fun j26 h_j26 => ?_)
                refine rf_bo (gR_P2 R_u17 h_j26) ?_
                refine rf_bo (gR_M4 R_u17) ?_
                refine rf_soF R_u17.md (fun j30 h_j30 => ?_)
                refine rf_ck (io_F R_u17 h_j30) ?_
                refine rf_bx0 (rf_gz (ym_Fr_termOf R_u17 h_j30) (by omega)) (fun u29' u29 r29 R_u29 => ?_)
                refine rf_gw ?_
                refine rf_so ?_
                refine rf_ck (ox_43 R_u29) ?_
                refine rf_bx0 (rf_gz (ym_Te_order R_u29 ⟨_, h_j26.1, rfl, rfl⟩) (by omega)) (fun u31' u31 r31 R_u31 => ?_)
                refine rf_gw ?_
                refine rf_br ?_ ?_
                · exact (yb_Ma_fit_364 hG1 hG2 R_u31)
                · exact rf_ret R_u31 rfl
              · refine rf_br ?_ ?_
                · refine rf_bo (gR_M4 R_u17) ?_
                  refine rf_soF R_u17.md (fun j35 h_j35 => ?_)
                  refine rf_ck (io_F R_u17 h_j35) ?_
                  refine rf_ck (all2 (okR_s R_u17 (by decide)) (okR_s R_u17 (by decide))) ?_
                  refine rf_bx (rf_gw (ym_Fr_bind R_u17 h_j35)) (by unfold zle; omega) (fun c_u34 u34' u34 r34 r34' R_u34 E_u34 v_u34 => ?_)
                  cases v_u34
                  refine rf_gw ?_
                  exact (yb_Ma_fit_364 hG1 hG2 R_u34)
                · refine rf_br ?_ ?_
                  · exact (yb_Ma_fit_364 hG1 hG2 R_u17)
                  · refine rf_br ?_ ?_
                    · refine rf_bx0 (rf_gz (ym_Te_tag R_u17) (by omega)) (fun u36' u36 r36 R_u36 => ?_)
                      refine rf_gw ?_
                      refine rf_br ?_ ?_
                      · refine rf_bo (gR_M3 R_u36) ?_
                        refine rf_soP R_u36.md (fun j38 h_j38 => ?_)
                        refine rf_bo (gR_P2 R_u36 h_j38) ?_
                        refine rf_so ?_
                        refine rf_ai (aq_2 R_u36 h_j38.1) ?_
                        refine rf_br ?_ ?_
                        · exact (hG2 _ _ _ _ _ _ _ _ R_u36)
                        · exact (yb_Ma_fit_262 hG1 hG2 R_u36)
                      · exact (yb_Ma_fit_262 hG1 hG2 R_u36)
                    · refine rf_br ?_ ?_
                      · refine rf_bx0 (rf_gz (ym_Te_tag R_u17) (by omega)) (fun u42' u42 r42 R_u42 => ?_)
                        refine rf_gw ?_
                        refine rf_br ?_ ?_
                        · refine rf_bo (gR_M3 R_u42) ?_
                          refine rf_soP R_u42.md (fun j44 h_j44 => ?_)
                          refine rf_bo (gR_P2 R_u42 h_j44) ?_
                          refine rf_so ?_
                          refine rf_ai (aq_2 R_u42 h_j44.1) ?_
                          refine rf_so ?_
                          refine rf_wk (sx_44 R_u42) (fun w49' w49 R_w49 => ?_)
                          refine rf_bo (gR_M3 R_w49) ?_
                          refine rf_soP R_w49.md (fun j51 h_j51 => ?_)
                          refine rf_bo (gR_P2 R_w49 h_j51) ?_
                          refine rf_so ?_
                          refine rf_ai (aq_2 R_w49 h_j51.1) ?_
                          refine rf_so ?_
                          refine rf_wk (sx_44 R_w49) (fun w56' w56 R_w56 => ?_)
                          exact (yb_Ma_fit_364 hG1 hG2 R_w56)
                        · exact rf_ret R_u42 rfl
                      · exact (yb_Ma_fit_364 hG1 hG2 R_u17)
        · exact (yb_Ma_fit_57 hG1 hG2 R_u9)
theorem yb_Ma_fit_0 {N : Nat} {p : Nat} {c : Nat → Nat} {m : MS} {u : CS} {G : (CS → Nat → Option Nat → Int32 → Int32 → Int32 → Option (CS × Int32)) × (CS → Nat → Option Nat → Int32 → Int32 → Int32 → Int64 → Int32 → Option (CS × Int32))} {G' : (MS → Nat → Int32 → Int32 → Int32 → Option (MS × Int32)) × (MS → Nat → Int32 → Int32 → Int32 → Int64 → Int32 → Option (MS × Int32))} (hG1 : ∀ (c : Nat → Nat) (m : MS) (u : CS) (v4 : Int32) (v5 : Int32) (v6 : Int32), RP (some p) c m u → RF 1 (some p) VE c u (G.1 u 55 (some 44) v4 v5 v6) (G'.1 m p v4 v5 v6)) (hG2 : ∀ (c : Nat → Nat) (m : MS) (u : CS) (v4 : Int32) (v5 : Int32) (v6 : Int32) (v7 : Int64) (v10 : Int32), RP (some p) c m u → RF 1 (some p) VE c u (G.2 u 55 (some 44) v4 v5 v6 v7 v10) (G'.2 m p v4 v5 v6 v7 v10)) (R : RP (some p) c m u) {v1 : Int32} {v2 : Int32} : RF 1 (some p) VE c u (fb_Ma_fit_0 N G u 55 v1 v2) (hb_Ma_fit_0 N G' m p v1 v2) := by
  unfold fb_Ma_fit_0 hb_Ma_fit_0
  refine rf_bo (rx_55_2 R) ?_
  refine rf_so ?_
  refine rf_bo (rx_43_0 R) ?_
  exact (hG1 _ _ _ _ _ _ R)
theorem yg_Ma_fit {N : Nat} {p : Nat} : ∀ n, (∀ (c : Nat → Nat) (m : MS) (u : CS) (v4 : Int32) (v5 : Int32) (v6 : Int32), RP (some p) c m u → RF 1 (some p) VE c u ((gg_Ma_fit N n).1 u 55 (some 44) v4 v5 v6) ((hg_Ma_fit N n).1 m p v4 v5 v6)) ∧ (∀ (c : Nat → Nat) (m : MS) (u : CS) (v4 : Int32) (v5 : Int32) (v6 : Int32) (v7 : Int64) (v10 : Int32), RP (some p) c m u → RF 1 (some p) VE c u ((gg_Ma_fit N n).2 u 55 (some 44) v4 v5 v6 v7 v10) ((hg_Ma_fit N n).2 m p v4 v5 v6 v7 v10)) := by
  intro n
  induction n with
  | zero => exact ⟨fun c m u v4 v5 v6 R => rf_none, fun c m u v4 v5 v6 v7 v10 R => rf_none⟩
  | succ n ih => exact ⟨fun c m u v4 v5 v6 R => yb_Ma_fit_17 (N := N) ih.1 ih.2 R, fun c m u v4 v5 v6 v7 v10 R => yb_Ma_fit_268 (N := N) ih.1 ih.2 R⟩
theorem ym_Ma_fit {N : Nat} {p : Nat} {c : Nat → Nat} {m : MS} {u : CS} (R : RP (some p) c m u) {v1 : Int32} {v2 : Int32} : RF 1 (some p) VE c u (fm_Ma_fit N u 55 v1 v2) (hm_Ma_fit N m p v1 v2) := yb_Ma_fit_0 (N := N) (yg_Ma_fit (N := N) N).1 (yg_Ma_fit (N := N) N).2 R
