set_option maxRecDepth 100000
theorem yb_Fr_drop_0 {N : Nat} {o : Option Nat} {c : Nat → Nat} {m : MS} {u : CS} (R : RP o c m u) {v0 : Nat} {v0' : Nat} {v1 : Int32} (h_v0 : FVn c v0 v0') : RF 0 o VE c u (fb_Fr_drop_0 N () u v0 v1) (hb_Fr_drop_0 N () m v0' v1) := by
  unfold fb_Fr_drop_0 hb_Fr_drop_0
  refine rf_bo (gf_6 R h_v0) ?_
  refine rf_lt ?_
  refine rf_w (wf_6 R h_v0) (fun w3' w3 R_w3 => ?_)
  exact rf_ret R_w3 rfl
theorem ym_Fr_drop {N : Nat} {o : Option Nat} {c : Nat → Nat} {m : MS} {u : CS} (R : RP o c m u) {v0 : Nat} {v0' : Nat} {v1 : Int32} (h_v0 : FVn c v0 v0') : RF 0 o VE c u (fm_Fr_drop N u v0 v1) (hm_Fr_drop N m v0' v1) := yb_Fr_drop_0 (N := N) R h_v0
theorem yb_Fr_push_30 {N : Nat} {o : Option Nat} {c : Nat → Nat} {m : MS} {u : CS} (R : RP o c m u) {v0 : Nat} {v0' : Nat} {v1 : Int64} (h_v0 : FVn c v0 v0') : RF 1 o VE c u (fb_Fr_push_30 N () u v0 v1) (hb_Fr_push_30 N () m v0' v1) := by
  unfold fb_Fr_push_30 hb_Fr_push_30
  refine rf_bo (gR_F5 R h_v0) ?_
  refine rf_bo (gf_6 R h_v0) ?_
  refine rf_so ?_
  refine rf_wk (sq_35 R h_v0.1) (fun w4' w4 R_w4 => ?_)
  refine rf_bo (gf_6 R_w4 h_v0) ?_
  refine rf_w (wf_6 R_w4 h_v0) (fun w6' w6 R_w6 => ?_)
  exact rf_ret R_w6 rfl
theorem yb_Fr_push_0 {N : Nat} {o : Option Nat} {c : Nat → Nat} {m : MS} {u : CS} (R : RP o c m u) {v0 : Nat} {v0' : Nat} {v1 : Int64} (h_v0 : FVn c v0 v0') : RF 1 o VE c u (fb_Fr_push_0 N () u v0 v1) (hb_Fr_push_0 N () m v0' v1) := by
  unfold fb_Fr_push_0 hb_Fr_push_0
  refine rf_bo (gf_6 R h_v0) ?_
  refine rf_bo (gR_F5 R h_v0) ?_
  refine rf_so ?_
  refine rf_bo (nq_35 R h_v0.1) ?_
  refine rf_br ?_ ?_
  · exact (yb_Fr_push_30 R h_v0)
  · refine rf_bo (gR_F5 R h_v0) ?_
    refine rf_bo (gR_F5 R h_v0) ?_
    refine rf_so ?_
    refine rf_bo (nq_35 R h_v0.1) ?_
    refine rf_ck (all1 (okR_F R h_v0)) ?_
    refine rf_growJ R h_v0 (k := 35) (l := 45) (by unfold GRK; omega) (by omega) (by unfold zle; omega) (fun c_w16 w16' w16 R_w16 E_w16 => ?_)
    replace h_v0 := E_w16.F h_v0
    exact (yb_Fr_push_30 R_w16 h_v0)
theorem ym_Fr_push {N : Nat} {o : Option Nat} {c : Nat → Nat} {m : MS} {u : CS} (R : RP o c m u) {v0 : Nat} {v0' : Nat} {v1 : Int64} (h_v0 : FVn c v0 v0') : RF 1 o VE c u (fm_Fr_push N u v0 v1) (hm_Fr_push N m v0' v1) := yb_Fr_push_0 (N := N) R h_v0
theorem yb_Ma_answer_0 {N : Nat} {p : Nat} {c : Nat → Nat} {m : MS} {u : CS} (R : RP (some p) c m u) {v1 : Int32} {v2 : Int64} : RF 1 (some p) VE c u (fb_Ma_answer_0 N () u 55 v1 v2) (hb_Ma_answer_0 N () m p v1 v2) := by
  unfold fb_Ma_answer_0 hb_Ma_answer_0
  refine rf_bo (gR_M4 R) ?_
  refine rf_soF R.md (fun j3 h_j3 => ?_)
  refine rf_ck (io_F R h_j3) ?_
  refine rf_bx0 (rf_gz (ym_Fr_drop R h_j3) (by omega)) (fun u2' u2 r2 R_u2 => ?_)
  refine rf_gw ?_
  refine rf_bo (gR_M4 R_u2) ?_
  refine rf_soF R_u2.md (fun j6 h_j6 => ?_)
  refine rf_ck (io_F R_u2 h_j6) ?_
  refine rf_ck (all1 (okR_s R_u2 (by decide))) ?_
  refine rf_bx (rf_gw (ym_Fr_push R_u2 h_j6)) (by unfold zle; omega) (fun c_u5 u5' u5 r5 r5' R_u5 E_u5 v_u5 => ?_)
  cases v_u5
  refine rf_gw ?_
  exact rf_ret R_u5 rfl
theorem ym_Ma_answer {N : Nat} {p : Nat} {c : Nat → Nat} {m : MS} {u : CS} (R : RP (some p) c m u) {v1 : Int32} {v2 : Int64} : RF 1 (some p) VE c u (fm_Ma_answer N u 55 v1 v2) (hm_Ma_answer N m p v1 v2) := yb_Ma_answer_0 (N := N) R
theorem yb_Ma_spawn_170 {N : Nat} {p : Nat} {c : Nat → Nat} {m : MS} {u : CS} (R : RP (some p) c m u) {v4 : Nat} {v4' : Nat} (h_v4 : PVn c v4 v4') : RF 2 (some p) VE c u (fb_Ma_spawn_170 N () u 55 (some v4)) (hb_Ma_spawn_170 N () m p v4') := by
  unfold fb_Ma_spawn_170 hb_Ma_spawn_170
  refine rf_so ?_
  refine rf_bo (gI_P0 R h_v4) ?_
  refine rf_bx0 (rf_gz (ym_Te_make R) (by omega)) (fun u3' u3 r3 R_u3 => ?_)
  refine rf_gw ?_
  refine rf_ck (ox_55 R_u3) ?_
  refine rf_ck (all2 (okR_s R_u3 (by decide)) (okR_P R_u3 h_v4)) ?_
  refine rf_bx (rf_gw (ym_Ma_answer R_u3)) (by unfold zle; omega) (fun c_u4 u4' u4 r4 r4' R_u4 E_u4 v_u4 => ?_)
  cases v_u4
  refine rf_gw ?_
  exact rf_ret R_u4 rfl
theorem yb_Ma_spawn_59 {N : Nat} {p : Nat} {c : Nat → Nat} {m : MS} {u : CS} (R : RP (some p) c m u) {v1 : Int64} {t0 : Option Nat} {t0' : Option Nat} (h_t0 : PVo c t0 t0') : RF 2 (some p) VE c u (fb_Ma_spawn_59 N () u 55 v1 t0) (hb_Ma_spawn_59 N () m p v1 t0') := by
  unfold fb_Ma_spawn_59 hb_Ma_spawn_59
  refine rf_br2 (PV_n h_t0) ?_ ?_
  · refine rf_ck (ox_55 R) ?_
    refine rf_bx0 (rf_gz (ym_Ma_wrong R) (by omega)) (fun u37' u37 r37 R_u37 => ?_)
    refine rf_gw ?_
    exact rf_ret R_u37 rfl
  · refine rf_bo (gR_M3 R) ?_
    refine rf_soP R.md (fun j6 h_j6 => ?_)
    refine rf_bo (gR_P2 R h_j6) ?_
    refine rf_so ?_
    refine rf_ai (aq_2 R h_j6.1) ?_
    refine rf_boQ h_t0 (fun j10 j10' e1_j10 e2_j10 h_j10 => ?_)
    subst e1_j10
    refine rf_so ?_
    refine rf_bo (gR_P1 R h_j10) ?_
    refine rf_bx0 (rf_gz (ym_Ma_functionOf R) (by omega)) (fun u12' u12 r12 R_u12 => ?_)
    refine rf_gw ?_
    refine rf_ck (ox_55 R_u12) ?_
    refine rf_bx0 (rf_gz (ym_Ma_entryOf R_u12) (by omega)) (fun u13' u13 r13 R_u13 => ?_)
    refine rf_gw ?_
    refine rf_soF h_j10.1 (fun j15 h_j15 => ?_)
    refine rf_ck (io_F R_u13 h_j15) ?_
    refine rf_bx0 (rf_gz (ym_Fr_open R_u13 h_j15) (by omega)) (fun u14' u14 r14 R_u14 => ?_)
    refine rf_gw ?_
    refine rf_bo (rx_55_2 R_u14) ?_
    refine rf_bo (gR_M3 R_u14) ?_
    refine rf_soP R_u14.md (fun j18 h_j18 => ?_)
    refine rf_bo (gR_P2 R_u14 h_j18) ?_
    refine rf_so ?_
    refine rf_ck (ox_43 R_u14) ?_
    refine rf_bx0 (rf_gz (ym_Te_size R_u14 ⟨_, h_j18.1, rfl, rfl⟩) (by omega)) (fun u20' u20 r20 R_u20 => ?_)
    refine rf_gw ?_
    refine rf_so ?_
    refine rf_ck (io_P R_u20 h_j10) ?_
    refine rf_bx (rf_gz (ym_Pr_want R_u20 h_j10) (by omega)) (by unfold zle; omega) (fun c_u22 u22' u22 r22 r22' R_u22 E_u22 v_u22 => ?_)
    cases v_u22
    replace h_j10 := E_u22.P h_j10
    refine rf_gw ?_
    refine rf_br ?_ ?_
    · refine rf_bo (rx_55_1 R_u22) ?_
      refine rf_so ?_
      refine rf_ck (ox_47 R_u22) ?_
      refine rf_bx0 (rf_gz (ym_Wl_endsBy R_u22 h_j10) (by omega)) (fun u25' u25 r25 R_u25 => ?_)
      refine rf_gw ?_
      exact (yb_Ma_spawn_170 R_u25 h_j10)
    · refine rf_so ?_
      refine rf_bo (gR_P1 R_u22 h_j10) ?_
      refine rf_so ?_
      refine rf_bo (gR_P2 R_u22 h_j10) ?_
      refine rf_bo (gR_M3 R_u22) ?_
      refine rf_soP R_u22.md (fun j32 h_j32 => ?_)
      refine rf_bo (gR_P2 R_u22 h_j32) ?_
      refine rf_so ?_
      refine rf_ck (io_P R_u22 h_j10) ?_
      refine rf_bx0 (rf_gz (ym_Pr_copyIn R_u22 h_j10 ⟨_, h_j32.1, rfl, rfl⟩) (by omega)) (fun u34' u34 r34 R_u34 => ?_)
      refine rf_gw ?_
      refine rf_ck (ox_55 R_u34) ?_
      refine rf_ck (all2 (okR_P R_u34 h_j10) (okR_s R_u34 (by decide))) ?_
      refine rf_bx (rf_gw (ym_Ma_hold R_u34 ⟨h_j10.1, rfl⟩ ⟨_, h_j10.1, rfl, rfl⟩)) (by unfold zle; omega) (fun c_u36 u36' u36 r36 r36' R_u36 E_u36 v_u36 => ?_)
      cases v_u36
      replace h_j10 := E_u36.P h_j10
      refine rf_gw ?_
      exact (yb_Ma_spawn_170 R_u36 h_j10)
theorem yb_Ma_spawn_43 {N : Nat} {p : Nat} {c : Nat → Nat} {m : MS} {u : CS} (R : RP (some p) c m u) {v1 : Int64} {t0 : Int32} : RF 2 (some p) VE c u (fb_Ma_spawn_43 N () u 55 v1 t0) (hb_Ma_spawn_43 N () m p v1 t0) := by
  unfold fb_Ma_spawn_43 hb_Ma_spawn_43
  refine rf_br ?_ ?_
  · exact (yb_Ma_spawn_59 R PV_0)
  · refine rf_bo (rx_55_1 R) ?_
    refine rf_so ?_
    refine rf_ck (ox_47 R) ?_
    refine rf_ck (all1 (okR_s R (by decide))) ?_
    refine rf_bx (rf_gw (ym_Wl_born R)) (by unfold zle; omega) (fun c_u39 u39' u39 r39 r39' R_u39 E_u39 h_r39 => ?_)
    refine rf_gw ?_
    exact (yb_Ma_spawn_59 R_u39 h_r39)
theorem yb_Ma_spawn_42 {N : Nat} {p : Nat} {c : Nat → Nat} {m : MS} {u : CS} (R : RP (some p) c m u) {v1 : Int64} : RF 2 (some p) VE c u (fb_Ma_spawn_42 N () u 55 v1) (hb_Ma_spawn_42 N () m p v1) := by
  unfold fb_Ma_spawn_42 hb_Ma_spawn_42
  exact (yb_Ma_spawn_43 R)
theorem yb_Ma_spawn_0 {N : Nat} {p : Nat} {c : Nat → Nat} {m : MS} {u : CS} (R : RP (some p) c m u) : RF 2 (some p) VE c u (fb_Ma_spawn_0 N () u 55) (hb_Ma_spawn_0 N () m p) := by
  unfold fb_Ma_spawn_0 hb_Ma_spawn_0
  refine rf_bo (gR_M4 R) ?_
  refine rf_soF R.md (fun j43 h_j43 => ?_)
  refine rf_ck (io_F R h_j43) ?_
  refine rf_bx0 (rf_gz (ym_Fr_below R h_j43) (by omega)) (fun u42' u42 r42 R_u42 => ?_)
  refine rf_gw ?_
  refine rf_bx0 (rf_gz (ym_Te_tag R_u42) (by omega)) (fun u44' u44 r44 R_u44 => ?_)
  refine rf_gw ?_
  refine rf_br ?_ ?_
  · refine rf_bo (rx_55_0 R_u44) ?_
    refine rf_bo (gR_M3 R_u44) ?_
    refine rf_soP R_u44.md (fun j47 h_j47 => ?_)
    refine rf_bo (gR_P2 R_u44 h_j47) ?_
    refine rf_so ?_
    refine rf_ai (aq_2 R_u44 h_j47.1) ?_
    refine rf_so ?_
    refine rf_ck (ox_22 R_u44) ?_
    refine rf_bx0 (rf_gz (ym_Co_takes R_u44) (by omega)) (fun u51' u51 r51 R_u51 => ?_)
    refine rf_gw ?_
    refine rf_br ?_ ?_
    · exact (yb_Ma_spawn_43 R_u51)
    · exact (yb_Ma_spawn_42 R_u51)
  · exact (yb_Ma_spawn_42 R_u44)
theorem ym_Ma_spawn {N : Nat} {p : Nat} {c : Nat → Nat} {m : MS} {u : CS} (R : RP (some p) c m u) : RF 2 (some p) VE c u (fm_Ma_spawn N u 55) (hm_Ma_spawn N m p) := yb_Ma_spawn_0 (N := N) R
theorem yb_Te_write_52 {N : Nat} {o : Option Nat} {c : Nat → Nat} {m : MS} {u : CS} (R : RP o c m u) : RF 0 o VE c u (fb_Te_write_52 N () u) (hb_Te_write_52 N () m) := by
  unfold fb_Te_write_52 hb_Te_write_52
  exact rf_ret R rfl
theorem yb_Te_write_0 {N : Nat} {o : Option Nat} {c : Nat → Nat} {m : MS} {u : CS} (R : RP o c m u) {v1 : Int32} : RF 0 o VE c u (fb_Te_write_0 N () u 43 v1) (hb_Te_write_0 N () m v1) := by
  unfold fb_Te_write_0 hb_Te_write_0
  refine rf_bo (gx_43_6 R) ?_
  refine rf_br ?_ ?_
  · exact (yb_Te_write_52 R)
  · refine rf_bo (gx_43_5 R) ?_
    refine rf_bo (gx_43_6 R) ?_
    refine rf_bo (gr_out R) ?_
    refine rf_boB (ou_out R) (fun j5 h_j5 => ?_)
    refine rf_bo (na_B R (By_ou h_j5)) ?_
    refine rf_br ?_ ?_
    · exact (yb_Te_write_52 R)
    · refine rf_bo (gr_out R) ?_
      refine rf_bo (gx_43_5 R) ?_
      refine rf_bo (gx_43_6 R) ?_
      refine rf_boB (ou_out R) (fun j10 h_j10 => ?_)
      refine rf_wk (si_B R (By_ou h_j10)) (fun w11' w11 R_w11 => ?_)
      refine rf_bo (gx_43_6 R_w11) ?_
      refine rf_w (px_43_6 R_w11) (fun w13' w13 R_w13 => ?_)
      exact (yb_Te_write_52 R_w13)
theorem ym_Te_write {N : Nat} {o : Option Nat} {c : Nat → Nat} {m : MS} {u : CS} (R : RP o c m u) {v1 : Int32} : RF 0 o VE c u (fm_Te_write N u 43 v1) (hm_Te_write N m v1) := yb_Te_write_0 (N := N) R
theorem yb_Te_toWriteRest_19 {N : Nat} {o : Option Nat} {c : Nat → Nat} {m : MS} {u : CS} (R : RP o c m u) {v1 : Nat} {v1' : Nat} {v2 : Int32} {t0 : Int64} (h_v1 : CVn c v1 v1') : RF 0 o VE c u (fb_Te_toWriteRest_19 N () u 43 (some v1) v2 t0) (hb_Te_toWriteRest_19 N () m v1' v2 t0) := by
  unfold fb_Te_toWriteRest_19 hb_Te_toWriteRest_19
  refine rf_lt ?_
  refine rf_bx0 (ym_Te_tag R) (fun u2' u2 r2 R_u2 => ?_)
  refine rf_br ?_ ?_
  · refine rf_ck (ox_43 R_u2) ?_
    refine rf_bx0 (ym_Te_write R_u2) (fun u10' u10 r10 R_u10 => ?_)
    exact rf_ret R_u10 rfl
  · refine rf_bx0 (ym_Te_tag R_u2) (fun u3' u3 r3 R_u3 => ?_)
    refine rf_br ?_ ?_
    · refine rf_ck (ox_43 R_u3) ?_
      refine rf_bx0 (ym_Te_write R_u3) (fun u8' u8 r8 R_u8 => ?_)
      refine rf_ck (ox_43 R_u8) ?_
      refine rf_bx0 (ym_Te_toWritePair R_u8 h_v1) (fun u9' u9 r9 R_u9 => ?_)
      exact rf_ret R_u9 rfl
    · refine rf_ck (ox_43 R_u3) ?_
      refine rf_bx0 (ym_Te_write R_u3) (fun u4' u4 r4 R_u4 => ?_)
      refine rf_bx0 (ym_Te_make R_u4) (fun u5' u5 r5 R_u5 => ?_)
      refine rf_ck (ox_43 R_u5) ?_
      refine rf_bx0 (ym_Te_push R_u5) (fun u6' u6 r6 R_u6 => ?_)
      refine rf_ck (ox_43 R_u6) ?_
      refine rf_bx0 (ym_Te_push R_u6) (fun u7' u7 r7 R_u7 => ?_)
      exact rf_ret R_u7 rfl
theorem yb_Te_toWriteRest_0 {N : Nat} {o : Option Nat} {c : Nat → Nat} {m : MS} {u : CS} (R : RP o c m u) {v1 : Nat} {v1' : Nat} {v2 : Int32} (h_v1 : CVn c v1 v1') : RF 0 o VE c u (fb_Te_toWriteRest_0 N () u 43 (some v1) v2) (hb_Te_toWriteRest_0 N () m v1' v2) := by
  unfold fb_Te_toWriteRest_0 hb_Te_toWriteRest_0
  refine rf_br ?_ ?_
  · refine rf_bx0 (ym_Te_make R) (fun u11' u11 r11 R_u11 => ?_)
    exact (yb_Te_toWriteRest_19 R_u11 h_v1)
  · refine rf_bo (rx_43_1 R) ?_
    refine rf_so ?_
    refine rf_ai (ax_45 R) ?_
    exact (yb_Te_toWriteRest_19 R h_v1)
theorem ym_Te_toWriteRest {N : Nat} {o : Option Nat} {c : Nat → Nat} {m : MS} {u : CS} (R : RP o c m u) {v1 : Nat} {v1' : Nat} {v2 : Int32} (h_v1 : CVn c v1 v1') : RF 0 o VE c u (fm_Te_toWriteRest N u 43 (some v1) v2) (hm_Te_toWriteRest N m v1' v2) := yb_Te_toWriteRest_0 (N := N) R h_v1
theorem yb_Te_writeNumber_43 {N : Nat} {o : Option Nat} {c : Nat → Nat} {m : MS} {u : CS} {G : (CS → Nat → Int64 → Int64 → Option (CS × Unit)) × (CS → Nat → Int64 → Int64 → Option (CS × Unit))} {G' : (MS → Int64 → Int64 → Option (MS × Unit)) × (MS → Int64 → Int64 → Option (MS × Unit))} (hG1 : ∀ (c : Nat → Nat) (m : MS) (u : CS) (v2 : Int64) (v4 : Int64), RP o c m u → RF 0 o VE c u (G.1 u 43 v2 v4) (G'.1 m v2 v4)) (hG2 : ∀ (c : Nat → Nat) (m : MS) (u : CS) (v2 : Int64) (v4 : Int64), RP o c m u → RF 0 o VE c u (G.2 u 43 v2 v4) (G'.2 m v2 v4)) (R : RP o c m u) {v2 : Int64} {v4 : Int64} : RF 0 o VE c u (fb_Te_writeNumber_43 N G u 43 v2 v4) (hb_Te_writeNumber_43 N G' m v2 v4) := by
  unfold fb_Te_writeNumber_43 hb_Te_writeNumber_43
  refine rf_br ?_ ?_
  · exact rf_ret R rfl
  · refine rf_ckk ?_
    refine rf_ckk ?_
    refine rf_ck (ox_43 R) ?_
    refine rf_bx0 (ym_Te_write R) (fun u1' u1 r1 R_u1 => ?_)
    refine rf_ckk ?_
    exact (hG2 _ _ _ _ _ R_u1)
theorem yb_Te_writeNumber_21 {N : Nat} {o : Option Nat} {c : Nat → Nat} {m : MS} {u : CS} {G : (CS → Nat → Int64 → Int64 → Option (CS × Unit)) × (CS → Nat → Int64 → Int64 → Option (CS × Unit))} {G' : (MS → Int64 → Int64 → Option (MS × Unit)) × (MS → Int64 → Int64 → Option (MS × Unit))} (hG1 : ∀ (c : Nat → Nat) (m : MS) (u : CS) (v2 : Int64) (v4 : Int64), RP o c m u → RF 0 o VE c u (G.1 u 43 v2 v4) (G'.1 m v2 v4)) (hG2 : ∀ (c : Nat → Nat) (m : MS) (u : CS) (v2 : Int64) (v4 : Int64), RP o c m u → RF 0 o VE c u (G.2 u 43 v2 v4) (G'.2 m v2 v4)) (R : RP o c m u) {v2 : Int64} {v4 : Int64} : RF 0 o VE c u (fb_Te_writeNumber_21 N G u 43 v2 v4) (hb_Te_writeNumber_21 N G' m v2 v4) := by
  unfold fb_Te_writeNumber_21 hb_Te_writeNumber_21
  refine rf_ckk ?_
  refine rf_br ?_ ?_
  · exact (hG2 _ _ _ _ _ R)
  · exact (hG1 _ _ _ _ _ R)
theorem yb_Te_writeNumber_18 {N : Nat} {o : Option Nat} {c : Nat → Nat} {m : MS} {u : CS} {G : (CS → Nat → Int64 → Int64 → Option (CS × Unit)) × (CS → Nat → Int64 → Int64 → Option (CS × Unit))} {G' : (MS → Int64 → Int64 → Option (MS × Unit)) × (MS → Int64 → Int64 → Option (MS × Unit))} (hG1 : ∀ (c : Nat → Nat) (m : MS) (u : CS) (v2 : Int64) (v4 : Int64), RP o c m u → RF 0 o VE c u (G.1 u 43 v2 v4) (G'.1 m v2 v4)) (hG2 : ∀ (c : Nat → Nat) (m : MS) (u : CS) (v2 : Int64) (v4 : Int64), RP o c m u → RF 0 o VE c u (G.2 u 43 v2 v4) (G'.2 m v2 v4)) (R : RP o c m u) {v2 : Int64} : RF 0 o VE c u (fb_Te_writeNumber_18 N G u 43 v2) (hb_Te_writeNumber_18 N G' m v2) := by
  unfold fb_Te_writeNumber_18 hb_Te_writeNumber_18
  exact (hG1 _ _ _ _ _ R)
theorem yb_Te_writeNumber_0 {N : Nat} {o : Option Nat} {c : Nat → Nat} {m : MS} {u : CS} {G : (CS → Nat → Int64 → Int64 → Option (CS × Unit)) × (CS → Nat → Int64 → Int64 → Option (CS × Unit))} {G' : (MS → Int64 → Int64 → Option (MS × Unit)) × (MS → Int64 → Int64 → Option (MS × Unit))} (hG1 : ∀ (c : Nat → Nat) (m : MS) (u : CS) (v2 : Int64) (v4 : Int64), RP o c m u → RF 0 o VE c u (G.1 u 43 v2 v4) (G'.1 m v2 v4)) (hG2 : ∀ (c : Nat → Nat) (m : MS) (u : CS) (v2 : Int64) (v4 : Int64), RP o c m u → RF 0 o VE c u (G.2 u 43 v2 v4) (G'.2 m v2 v4)) (R : RP o c m u) {v1 : Int32} : RF 0 o VE c u (fb_Te_writeNumber_0 N G u 43 v1) (hb_Te_writeNumber_0 N G' m v1) := by
  unfold fb_Te_writeNumber_0 hb_Te_writeNumber_0
  refine rf_br ?_ ?_
  · exact (yb_Te_writeNumber_18 hG1 hG2 R)
  · refine rf_ck (ox_43 R) ?_
    refine rf_bx0 (ym_Te_write R) (fun u2' u2 r2 R_u2 => ?_)
    exact (yb_Te_writeNumber_18 hG1 hG2 R_u2)
theorem yg_Te_writeNumber {N : Nat} {o : Option Nat} : ∀ n, (∀ (c : Nat → Nat) (m : MS) (u : CS) (v2 : Int64) (v4 : Int64), RP o c m u → RF 0 o VE c u ((gg_Te_writeNumber N n).1 u 43 v2 v4) ((hg_Te_writeNumber N n).1 m v2 v4)) ∧ (∀ (c : Nat → Nat) (m : MS) (u : CS) (v2 : Int64) (v4 : Int64), RP o c m u → RF 0 o VE c u ((gg_Te_writeNumber N n).2 u 43 v2 v4) ((hg_Te_writeNumber N n).2 m v2 v4)) := by
  intro n
  induction n with
  | zero => exact ⟨fun c m u v2 v4 R => rf_none, fun c m u v2 v4 R => rf_none⟩
  | succ n ih => exact ⟨fun c m u v2 v4 R => yb_Te_writeNumber_21 (N := N) ih.1 ih.2 R, fun c m u v2 v4 R => yb_Te_writeNumber_43 (N := N) ih.1 ih.2 R⟩
theorem ym_Te_writeNumber {N : Nat} {o : Option Nat} {c : Nat → Nat} {m : MS} {u : CS} (R : RP o c m u) {v1 : Int32} : RF 0 o VE c u (fm_Te_writeNumber N u 43 v1) (hm_Te_writeNumber N m v1) := yb_Te_writeNumber_0 (N := N) (yg_Te_writeNumber (N := N) N).1 (yg_Te_writeNumber (N := N) N).2 R
theorem yb_Te_writeAlone_170 {N : Nat} {o : Option Nat} {c : Nat → Nat} {m : MS} {u : CS} {G : (CS → Nat → Int32 → Int32 → Option (CS × Unit))} {G' : (MS → Int32 → Int32 → Option (MS × Unit))} (hG : ∀ (c : Nat → Nat) (m : MS) (u : CS) (v3 : Int32) (v4 : Int32), RP o c m u → RF 0 o VE c u (G u 43 v3 v4) (G' m v3 v4)) (R : RP o c m u) : RF 0 o VE c u (fb_Te_writeAlone_170 N G u) (hb_Te_writeAlone_170 N G' m) := by
  unfold fb_Te_writeAlone_170 hb_Te_writeAlone_170
  exact rf_ret R rfl
theorem yb_Te_writeAlone_59 {N : Nat} {o : Option Nat} {c : Nat → Nat} {m : MS} {u : CS} {G : (CS → Nat → Int32 → Int32 → Option (CS × Unit))} {G' : (MS → Int32 → Int32 → Option (MS × Unit))} (hG : ∀ (c : Nat → Nat) (m : MS) (u : CS) (v3 : Int32) (v4 : Int32), RP o c m u → RF 0 o VE c u (G u 43 v3 v4) (G' m v3 v4)) (R : RP o c m u) {v3 : Int32} {v4 : Int32} : RF 0 o VE c u (fb_Te_writeAlone_59 N G u 43 v3 v4) (hb_Te_writeAlone_59 N G' m v3 v4) := by
  unfold fb_Te_writeAlone_59 hb_Te_writeAlone_59
  refine rf_bo (rx_43_3 R) ?_
  refine rf_so ?_
  refine rf_ck (ox_1 R) ?_
  refine rf_bx0 (ym_Wo_length R (by unfold isWd; omega)) (fun u2' u2 r2 R_u2 => ?_)
  refine rf_br ?_ ?_
  · exact (yb_Te_writeAlone_170 hG R_u2)
  · refine rf_bo (rx_43_3 R_u2) ?_
    refine rf_so ?_
    refine rf_ck (ox_1 R_u2) ?_
    refine rf_bx0 (ym_Wo_sign R_u2 (by unfold isWd; omega)) (fun u5' u5 r5 R_u5 => ?_)
    refine rf_ck (ox_43 R_u5) ?_
    refine rf_bx0 (ym_Te_write R_u5) (fun u7' u7 r7 R_u7 => ?_)
    exact (hG _ _ _ _ _ R_u7)
theorem yb_Te_writeAlone_0 {N : Nat} {o : Option Nat} {c : Nat → Nat} {m : MS} {u : CS} {G : (CS → Nat → Int32 → Int32 → Option (CS × Unit))} {G' : (MS → Int32 → Int32 → Option (MS × Unit))} (hG : ∀ (c : Nat → Nat) (m : MS) (u : CS) (v3 : Int32) (v4 : Int32), RP o c m u → RF 0 o VE c u (G u 43 v3 v4) (G' m v3 v4)) (R : RP o c m u) {v1 : Int64} : RF 0 o VE c u (fb_Te_writeAlone_0 N G u 43 v1) (hb_Te_writeAlone_0 N G' m v1) := by
  unfold fb_Te_writeAlone_0 hb_Te_writeAlone_0
  refine rf_bx0 (ym_Te_tag R) (fun u8' u8 r8 R_u8 => ?_)
  refine rf_br ?_ ?_
  · refine rf_ck (ox_43 R_u8) ?_
    refine rf_bx0 (ym_Te_writeNumber R_u8) (fun u9' u9 r9 R_u9 => ?_)
    exact (yb_Te_writeAlone_170 hG R_u9)
  · refine rf_br ?_ ?_
    · exact (hG _ _ _ _ _ R_u8)
    · refine rf_br ?_ ?_
      · refine rf_ck (ox_43 R_u8) ?_
        refine rf_bx0 (ym_Te_write R_u8) (fun u10' u10 r10 R_u10 => ?_)
        refine rf_ck (ox_43 R_u10) ?_
        refine rf_bx0 (ym_Te_writeNumber R_u10) (fun u11' u11 r11 R_u11 => ?_)
        exact (yb_Te_writeAlone_170 hG R_u11)
      · refine rf_br ?_ ?_
        · refine rf_ck (ox_43 R_u8) ?_
          refine rf_bx0 (ym_Te_write R_u8) (fun u12' u12 r12 R_u12 => ?_)
          refine rf_ck (ox_43 R_u12) ?_
          refine rf_bx0 (ym_Te_write R_u12) (fun u13' u13 r13 R_u13 => ?_)
          refine rf_ck (ox_43 R_u13) ?_
          refine rf_bx0 (ym_Te_write R_u13) (fun u14' u14 r14 R_u14 => ?_)
          exact (yb_Te_writeAlone_170 hG R_u14)
        · refine rf_br ?_ ?_
          · refine rf_ck (ox_43 R_u8) ?_
            refine rf_bx0 (ym_Te_write R_u8) (fun u15' u15 r15 R_u15 => ?_)
            refine rf_ck (ox_43 R_u15) ?_
            refine rf_bx0 (ym_Te_writeNumber R_u15) (fun u16' u16 r16 R_u16 => ?_)
            refine rf_ck (ox_43 R_u16) ?_
            refine rf_bx0 (ym_Te_write R_u16) (fun u17' u17 r17 R_u17 => ?_)
            exact (yb_Te_writeAlone_170 hG R_u17)
          · refine rf_br ?_ ?_
            · refine rf_ck (ox_43 R_u8) ?_
              refine rf_bx0 (ym_Te_write R_u8) (fun u18' u18 r18 R_u18 => ?_)
              exact (yb_Te_writeAlone_170 hG R_u18)
            · refine rf_br ?_ ?_
              · refine rf_ck (ox_43 R_u8) ?_
                refine rf_bx0 (ym_Te_write R_u8) (fun u19' u19 r19 R_u19 => ?_)
                refine rf_ck (ox_43 R_u19) ?_
                refine rf_bx0 (ym_Te_write R_u19) (fun u20' u20 r20 R_u20 => ?_)
                exact (yb_Te_writeAlone_170 hG R_u20)
              · refine rf_ck (ox_43 R_u8) ?_
                refine rf_bx0 (ym_Te_write R_u8) (fun u21' u21 r21 R_u21 => ?_)
                exact (yb_Te_writeAlone_170 hG R_u21)
theorem yg_Te_writeAlone {N : Nat} {o : Option Nat} : ∀ n, (∀ (c : Nat → Nat) (m : MS) (u : CS) (v3 : Int32) (v4 : Int32), RP o c m u → RF 0 o VE c u ((gg_Te_writeAlone N n) u 43 v3 v4) ((hg_Te_writeAlone N n) m v3 v4)) := by
  intro n
  induction n with
  | zero => exact fun c m u v3 v4 R => rf_none
  | succ n ih => exact fun c m u v3 v4 R => yb_Te_writeAlone_59 (N := N) ih R
theorem ym_Te_writeAlone {N : Nat} {o : Option Nat} {c : Nat → Nat} {m : MS} {u : CS} (R : RP o c m u) {v1 : Int64} : RF 0 o VE c u (fm_Te_writeAlone N u 43 v1) (hm_Te_writeAlone N m v1) := yb_Te_writeAlone_0 (N := N) (yg_Te_writeAlone (N := N) N) R
theorem yb_Te_text_174 {N : Nat} {o : Option Nat} {c : Nat → Nat} {m : MS} {u : CS} {G : (CS → Nat → Option Nat → Int32 → Int32 → Option (CS × Int32))} {G' : (MS → Nat → Int32 → Int32 → Option (MS × Int32))} (hG : ∀ (c : Nat → Nat) (m : MS) (u : CS) (v1 : Nat) (v1' : Nat) (v6 : Int32) (v7 : Int32), RP o c m u → CVn c v1 v1' → RF 0 o VE c u (G u 43 (some v1) v6 v7) (G' m v1' v6 v7)) (R : RP o c m u) : RF 0 o VE c u (fb_Te_text_174 N G u 43) (hb_Te_text_174 N G' m) := by
  unfold fb_Te_text_174 hb_Te_text_174
  refine rf_bo (gx_43_6 R) ?_
  exact rf_ret R rfl
theorem yb_Te_text_168 {N : Nat} {o : Option Nat} {c : Nat → Nat} {m : MS} {u : CS} {G : (CS → Nat → Option Nat → Int32 → Int32 → Option (CS × Int32))} {G' : (MS → Nat → Int32 → Int32 → Option (MS × Int32))} (hG : ∀ (c : Nat → Nat) (m : MS) (u : CS) (v1 : Nat) (v1' : Nat) (v6 : Int32) (v7 : Int32), RP o c m u → CVn c v1 v1' → RF 0 o VE c u (G u 43 (some v1) v6 v7) (G' m v1' v6 v7)) (R : RP o c m u) {v1 : Nat} {v1' : Nat} {v6 : Int32} {v7 : Int32} (h_v1 : CVn c v1 v1') : RF 0 o VE c u (fb_Te_text_168 N G u 43 (some v1) v6 v7) (hb_Te_text_168 N G' m v1' v6 v7) := by
  unfold fb_Te_text_168 hb_Te_text_168
  exact (hG _ _ _ _ _ _ _ R h_v1)
theorem yb_Te_text_30 {N : Nat} {o : Option Nat} {c : Nat → Nat} {m : MS} {u : CS} {G : (CS → Nat → Option Nat → Int32 → Int32 → Option (CS × Int32))} {G' : (MS → Nat → Int32 → Int32 → Option (MS × Int32))} (hG : ∀ (c : Nat → Nat) (m : MS) (u : CS) (v1 : Nat) (v1' : Nat) (v6 : Int32) (v7 : Int32), RP o c m u → CVn c v1 v1' → RF 0 o VE c u (G u 43 (some v1) v6 v7) (G' m v1' v6 v7)) (R : RP o c m u) {v1 : Nat} {v1' : Nat} {v6 : Int32} {v7 : Int32} (h_v1 : CVn c v1 v1') : RF 0 o VE c u (fb_Te_text_30 N G u 43 (some v1) v6 v7) (hb_Te_text_30 N G' m v1' v6 v7) := by
  unfold fb_Te_text_30 hb_Te_text_30
  refine rf_br ?_ ?_
  · exact (yb_Te_text_174 hG R)
  · refine rf_br ?_ ?_
    · exact (yb_Te_text_174 hG R)
    · refine rf_bo (gx_43_6 R) ?_
      refine rf_br ?_ ?_
      · exact (yb_Te_text_174 hG R)
      · refine rf_bo (rx_43_1 R) ?_
        refine rf_so ?_
        refine rf_ai (ax_45 R) ?_
        refine rf_bx0 (ym_Te_tag R) (fun u6' u6 r6 R_u6 => ?_)
        refine rf_br ?_ ?_
        · refine rf_ck (ox_43 R_u6) ?_
          refine rf_bx0 (ym_Te_write R_u6) (fun u7' u7 r7 R_u7 => ?_)
          refine rf_ck (ox_43 R_u7) ?_
          refine rf_bx0 (ym_Te_toWriteTuple R_u7 h_v1) (fun u8' u8 r8 R_u8 => ?_)
          exact (yb_Te_text_168 hG R_u8 h_v1)
        · refine rf_br ?_ ?_
          · refine rf_ck (ox_43 R_u6) ?_
            refine rf_bx0 (ym_Te_write R_u6) (fun u9' u9 r9 R_u9 => ?_)
            refine rf_ck (ox_43 R_u9) ?_
            refine rf_bx0 (ym_Te_toWritePair R_u9 h_v1) (fun u10' u10 r10 R_u10 => ?_)
            exact (yb_Te_text_168 hG R_u10 h_v1)
          · refine rf_br ?_ ?_
            · refine rf_ck (ox_43 R_u6) ?_
              refine rf_bx0 (ym_Te_toWriteRest R_u6 h_v1) (fun u11' u11 r11 R_u11 => ?_)
              exact (yb_Te_text_168 hG R_u11 h_v1)
            · refine rf_ck (ox_43 R_u6) ?_
              refine rf_bx0 (ym_Te_writeAlone R_u6) (fun u12' u12 r12 R_u12 => ?_)
              exact (yb_Te_text_168 hG R_u12 h_v1)
theorem yb_Te_text_0 {N : Nat} {o : Option Nat} {c : Nat → Nat} {m : MS} {u : CS} {G : (CS → Nat → Option Nat → Int32 → Int32 → Option (CS × Int32))} {G' : (MS → Nat → Int32 → Int32 → Option (MS × Int32))} (hG : ∀ (c : Nat → Nat) (m : MS) (u : CS) (v1 : Nat) (v1' : Nat) (v6 : Int32) (v7 : Int32), RP o c m u → CVn c v1 v1' → RF 0 o VE c u (G u 43 (some v1) v6 v7) (G' m v1' v6 v7)) (R : RP o c m u) {v1 : Nat} {v1' : Nat} {v2 : Int64} {v4 : Nat} {v5 : Int32} (h_v1 : CVn c v1 v1') (h_v4 : isOu v4) : RF 0 o VE c u (fb_Te_text_0 N G u 43 (some v1) v2 (some v4) v5) (hb_Te_text_0 N G' m v1' v2 v4 v5) := by
  unfold fb_Te_text_0 hb_Te_text_0
  refine rf_w (pf_out R h_v4) (fun w13' w13 R_w13 => ?_)
  refine rf_w (px_43_5 R_w13) (fun w14' w14 R_w14 => ?_)
  refine rf_w (px_43_6 R_w14) (fun w15' w15 R_w15 => ?_)
  refine rf_bo (rx_43_1 R_w15) ?_
  refine rf_so ?_
  refine rf_wk (sx_45 R_w15) (fun w18' w18 R_w18 => ?_)
  exact (hG _ _ _ _ _ _ _ R_w18 h_v1)
theorem yg_Te_text {N : Nat} {o : Option Nat} : ∀ n, (∀ (c : Nat → Nat) (m : MS) (u : CS) (v1 : Nat) (v1' : Nat) (v6 : Int32) (v7 : Int32), RP o c m u → CVn c v1 v1' → RF 0 o VE c u ((gg_Te_text N n) u 43 (some v1) v6 v7) ((hg_Te_text N n) m v1' v6 v7)) := by
  intro n
  induction n with
  | zero => exact fun c m u v1 v1' v6 v7 R h_v1 => rf_none
  | succ n ih => exact fun c m u v1 v1' v6 v7 R h_v1 => yb_Te_text_30 (N := N) ih R h_v1
theorem ym_Te_text {N : Nat} {o : Option Nat} {c : Nat → Nat} {m : MS} {u : CS} (R : RP o c m u) {v1 : Nat} {v1' : Nat} {v2 : Int64} {v4 : Nat} {v5 : Int32} (h_v1 : CVn c v1 v1') (h_v4 : isOu v4) : RF 0 o VE c u (fm_Te_text N u 43 (some v1) v2 (some v4) v5) (hm_Te_text N m v1' v2 v4 v5) := yb_Te_text_0 (N := N) (yg_Te_text (N := N) N) R h_v1 h_v4
theorem yb_Wl_print_49 {N : Nat} {o : Option Nat} {c : Nat → Nat} {m : MS} {u : CS} (R : RP o c m u) : RF 0 o VE c u (fb_Wl_print_49 N () u) (hb_Wl_print_49 N () m) := by
  unfold fb_Wl_print_49 hb_Wl_print_49
  exact rf_ret R rfl
theorem yb_Wl_print_0 {N : Nat} {o : Option Nat} {c : Nat → Nat} {m : MS} {u : CS} (R : RP o c m u) {v1 : Nat} {v1' : Nat} {v2 : Int64} (h_v1 : CVn c v1 v1') : RF 0 o VE c u (fb_Wl_print_0 N () u 47 (some v1) v2) (hb_Wl_print_0 N () m v1' v2) := by
  unfold fb_Wl_print_0 hb_Wl_print_0
  refine rf_bo (gx_47_13 R) ?_
  refine rf_br ?_ ?_
  · exact (yb_Wl_print_49 R)
  · refine rf_bo (rx_47_12 R) ?_
    refine rf_bo (gx_47_13 R) ?_
    refine rf_bo (rx_47_0 R) ?_
    refine rf_bo (rx_47_11 R) ?_
    refine rf_bo (gx_47_13 R) ?_
    refine rf_so ?_
    refine rf_ck (ox_43 R) ?_
    refine rf_bx0 (ym_Te_text R h_v1 (by unfold isOu; omega)) (fun u7' u7 r7 R_u7 => ?_)
    refine rf_so ?_
    refine rf_wk (sx_53 R_u7) (fun w10' w10 R_w10 => ?_)
    refine rf_bo (gx_47_13 R_w10) ?_
    refine rf_w (px_47_13 R_w10) (fun w12' w12 R_w12 => ?_)
    exact (yb_Wl_print_49 R_w12)
theorem ym_Wl_print {N : Nat} {o : Option Nat} {c : Nat → Nat} {m : MS} {u : CS} (R : RP o c m u) {v1 : Nat} {v1' : Nat} {v2 : Int64} (h_v1 : CVn c v1 v1') : RF 0 o VE c u (fm_Wl_print N u 47 (some v1) v2) (hm_Wl_print N m v1' v2) := yb_Wl_print_0 (N := N) R h_v1
theorem yb_Wl_named_39 {N : Nat} {o : Option Nat} {c : Nat → Nat} {m : MS} {u : CS} {G : (CS → Nat → Int32 → Int32 → Option (CS × Option Nat))} {G' : (MS → Int32 → Int32 → Option (MS × Option Nat))} (hG : ∀ (c : Nat → Nat) (m : MS) (u : CS) (v1 : Int32) (v2 : Int32), RP o c m u → RF 0 o PVo c u (G u 47 v1 v2) (G' m v1 v2)) (R : RP o c m u) {v1 : Int32} {v2 : Int32} : RF 0 o PVo c u (fb_Wl_named_39 N G u 47 v1 v2) (hb_Wl_named_39 N G' m v1 v2) := by
  unfold fb_Wl_named_39 hb_Wl_named_39
  exact (hG _ _ _ _ _ R)
theorem yb_Wl_named_2 {N : Nat} {o : Option Nat} {c : Nat → Nat} {m : MS} {u : CS} {G : (CS → Nat → Int32 → Int32 → Option (CS × Option Nat))} {G' : (MS → Int32 → Int32 → Option (MS × Option Nat))} (hG : ∀ (c : Nat → Nat) (m : MS) (u : CS) (v1 : Int32) (v2 : Int32), RP o c m u → RF 0 o PVo c u (G u 47 v1 v2) (G' m v1 v2)) (R : RP o c m u) {v1 : Int32} {v2 : Int32} : RF 0 o PVo c u (fb_Wl_named_2 N G u 47 v1 v2) (hb_Wl_named_2 N G' m v1 v2) := by
  unfold fb_Wl_named_2 hb_Wl_named_2
  refine rf_bo (gx_47_2 R) ?_
  refine rf_br ?_ ?_
  · exact rf_ret R PV_0
  · refine rf_bo (rx_47_1 R) ?_
    refine rf_so ?_
    refine rf_aP R (fun r4 h_r4 => ?_)
    refine rf_br2 (PV_n h_r4) ?_ ?_
    · exact (yb_Wl_named_39 hG R)
    · refine rf_boQ h_r4 (fun j5 j5' e1_j5 e2_j5 h_j5 => ?_)
      subst e1_j5
      refine rf_so ?_
      refine rf_bo (gq_12 R h_j5) ?_
      refine rf_br ?_ ?_
      · refine rf_so ?_
        refine rf_bo (gq_9 R h_j5) ?_
        refine rf_br ?_ ?_
        · exact (yb_Wl_named_39 hG R)
        · exact rf_ret R (PV_j h_j5)
      · exact (yb_Wl_named_39 hG R)
theorem yb_Wl_named_0 {N : Nat} {o : Option Nat} {c : Nat → Nat} {m : MS} {u : CS} {G : (CS → Nat → Int32 → Int32 → Option (CS × Option Nat))} {G' : (MS → Int32 → Int32 → Option (MS × Option Nat))} (hG : ∀ (c : Nat → Nat) (m : MS) (u : CS) (v1 : Int32) (v2 : Int32), RP o c m u → RF 0 o PVo c u (G u 47 v1 v2) (G' m v1 v2)) (R : RP o c m u) {v1 : Int32} : RF 0 o PVo c u (fb_Wl_named_0 N G u 47 v1) (hb_Wl_named_0 N G' m v1) := by
  unfold fb_Wl_named_0 hb_Wl_named_0
  exact (hG _ _ _ _ _ R)
theorem yg_Wl_named {N : Nat} {o : Option Nat} : ∀ n, (∀ (c : Nat → Nat) (m : MS) (u : CS) (v1 : Int32) (v2 : Int32), RP o c m u → RF 0 o PVo c u ((gg_Wl_named N n) u 47 v1 v2) ((hg_Wl_named N n) m v1 v2)) := by
  intro n
  induction n with
  | zero => exact fun c m u v1 v2 R => rf_none
  | succ n ih => exact fun c m u v1 v2 R => yb_Wl_named_2 (N := N) ih R
theorem ym_Wl_named {N : Nat} {o : Option Nat} {c : Nat → Nat} {m : MS} {u : CS} (R : RP o c m u) {v1 : Int32} : RF 0 o PVo c u (fm_Wl_named N u 47 v1) (hm_Wl_named N m v1) := yb_Wl_named_0 (N := N) (yg_Wl_named (N := N) N) R
theorem yb_Ma_processAt_30 {N : Nat} {p : Nat} {c : Nat → Nat} {m : MS} {u : CS} (R : RP (some p) c m u) {t0 : Option Nat} {t0' : Option Nat} (h_t0 : PVo c t0 t0') : RF 0 (some p) PVo c u (fb_Ma_processAt_30 N () u t0) (hb_Ma_processAt_30 N () m p t0') := by
  unfold fb_Ma_processAt_30 hb_Ma_processAt_30
  exact rf_ret R h_t0
theorem yb_Ma_processAt_0 {N : Nat} {p : Nat} {c : Nat → Nat} {m : MS} {u : CS} (R : RP (some p) c m u) {v1 : Int32} : RF 0 (some p) PVo c u (fb_Ma_processAt_0 N () u 55 v1) (hb_Ma_processAt_0 N () m p v1) := by
  unfold fb_Ma_processAt_0 hb_Ma_processAt_0
  refine rf_bo (gR_M4 R) ?_
  refine rf_soF R.md (fun j3 h_j3 => ?_)
  refine rf_ck (io_F R h_j3) ?_
  refine rf_bx0 (ym_Fr_below R h_j3) (fun u2' u2 r2 R_u2 => ?_)
  refine rf_bx0 (ym_Te_tag R_u2) (fun u4' u4 r4 R_u4 => ?_)
  refine rf_br ?_ ?_
  · refine rf_bo (rx_55_1 R_u4) ?_
    refine rf_so ?_
    refine rf_ck (ox_47 R_u4) ?_
    refine rf_bxP (ym_Wl_find R_u4) (fun u6' u6 r6 r6' R_u6 h_r6 => ?_)
    exact (yb_Ma_processAt_30 R_u6 h_r6)
  · exact (yb_Ma_processAt_30 R_u4 PV_0)
theorem ym_Ma_processAt {N : Nat} {p : Nat} {c : Nat → Nat} {m : MS} {u : CS} (R : RP (some p) c m u) {v1 : Int32} : RF 0 (some p) PVo c u (fm_Ma_processAt N u 55 v1) (hm_Ma_processAt N m p v1) := yb_Ma_processAt_0 (N := N) R
theorem yb_Ma_naming_147 {N : Nat} {p : Nat} {c : Nat → Nat} {m : MS} {u : CS} (R : RP (some p) c m u) : RF 1 (some p) VE c u (fb_Ma_naming_147 N () u 55) (hb_Ma_naming_147 N () m p) := by
  unfold fb_Ma_naming_147 hb_Ma_naming_147
  refine rf_ck (ox_55 R) ?_
  refine rf_bx0 (rf_gz (ym_Ma_wrong R) (by omega)) (fun u1' u1 r1 R_u1 => ?_)
  refine rf_gw ?_
  exact rf_ret R_u1 rfl
theorem yb_Ma_naming_74 {N : Nat} {p : Nat} {c : Nat → Nat} {m : MS} {u : CS} (R : RP (some p) c m u) {t1 : Int32} {t2 : Int64} : RF 1 (some p) VE c u (fb_Ma_naming_74 N () u 55 t1 t2) (hb_Ma_naming_74 N () m p t1 t2) := by
  unfold fb_Ma_naming_74 hb_Ma_naming_74
  refine rf_ck (ox_55 R) ?_
  refine rf_bx (rf_gw (ym_Ma_answer R)) (by unfold zle; omega) (fun c_u2 u2' u2 r2 r2' R_u2 E_u2 v_u2 => ?_)
  cases v_u2
  refine rf_gw ?_
  exact rf_ret R_u2 rfl
theorem yb_Ma_naming_15 {N : Nat} {p : Nat} {c : Nat → Nat} {m : MS} {u : CS} (R : RP (some p) c m u) {v1 : Int32} {t0 : Nat} {t0' : Nat} {t1 : Int32} (h_t0 : FVn c t0 t0') : RF 1 (some p) VE c u (fb_Ma_naming_15 N () u 55 v1 (some t0) t1) (hb_Ma_naming_15 N () m p v1 t0' t1) := by
  unfold fb_Ma_naming_15 hb_Ma_naming_15
  refine rf_so ?_
  refine rf_ck (io_F R h_t0) ?_
  refine rf_bx0 (rf_gz (ym_Fr_below R h_t0) (by omega)) (fun u3' u3 r3 R_u3 => ?_)
  refine rf_gw ?_
  refine rf_bx0 (rf_gz (ym_Te_tag R_u3) (by omega)) (fun u5' u5 r5 R_u5 => ?_)
  refine rf_gw ?_
  refine rf_br ?_ ?_
  · refine rf_bo (rx_55_1 R_u5) ?_
    refine rf_so ?_
    refine rf_ck (ox_47 R_u5) ?_
    refine rf_bxP (rf_gz (ym_Wl_named R_u5) (by omega)) (fun u7' u7 r7 r7' R_u7 h_r7 => ?_)
    refine rf_gw ?_
    refine rf_br ?_ ?_
    · refine rf_br2 (PV_n h_r7) ?_ ?_
      · refine rf_bx0 (rf_gz (ym_Ma_atom R_u7) (by omega)) (fun u26' u26 r26 R_u26 => ?_)
        refine rf_gw ?_
        exact (yb_Ma_naming_74 R_u26)
      · refine rf_boQ h_r7 (fun j23 j23' e1_j23 e2_j23 h_j23 => ?_)
        subst e1_j23
        refine rf_so ?_
        refine rf_bo (gI_P0 R_u7 h_j23) ?_
        refine rf_bx0 (rf_gz (ym_Te_make R_u7) (by omega)) (fun u25' u25 r25 R_u25 => ?_)
        refine rf_gw ?_
        exact (yb_Ma_naming_74 R_u25)
    · refine rf_br ?_ ?_
      · refine rf_br2 (PV_n h_r7) ?_ ?_
        · refine rf_ck (ox_55 R_u7) ?_
          refine rf_bx0 (rf_gz (ym_Ma_wrong R_u7) (by omega)) (fun u22' u22 r22 R_u22 => ?_)
          refine rf_gw ?_
          exact rf_ret R_u22 rfl
        · refine rf_boQ h_r7 (fun j18 j18' e1_j18 e2_j18 h_j18 => ?_)
          subst e1_j18
          refine rf_so ?_
          refine rf_w (wq_12 R_u7 h_j18) (fun w19' w19 R_w19 => ?_)
          refine rf_bx0 (rf_gz (ym_Ma_atom R_w19) (by omega)) (fun u20' u20 r20 R_u20 => ?_)
          refine rf_gw ?_
          refine rf_ck (ox_55 R_u20) ?_
          refine rf_ck (all2 (okR_P R_u20 h_j18) (okR_s R_u20 (by decide))) ?_
          refine rf_bx (rf_gw (ym_Ma_answer R_u20)) (by unfold zle; omega) (fun c_u21 u21' u21 r21 r21' R_u21 E_u21 v_u21 => ?_)
          cases v_u21
          refine rf_gw ?_
          exact rf_ret R_u21 rfl
      · refine rf_ck (ox_55 R_u7) ?_
        refine rf_bxP (rf_gz (ym_Ma_processAt R_u7) (by omega)) (fun u9' u9 r9 r9' R_u9 h_r9 => ?_)
        refine rf_gw ?_
        refine rf_br2 (PV_n h_r9) ?_ ?_
        · exact (yb_Ma_naming_147 R_u9)
        · refine rf_br2 (PV_n h_r7) ?_ ?_
          · refine rf_boQ h_r9 (fun j10 j10' e1_j10 e2_j10 h_j10 => ?_)
            subst e1_j10
            refine rf_so ?_
            refine rf_bo (gq_12 R_u9 h_j10) ?_
            refine rf_br ?_ ?_
            · refine rf_so ?_
              refine rf_bo (gq_9 R_u9 h_j10) ?_
              refine rf_br ?_ ?_
              · exact (yb_Ma_naming_147 R_u9)
              · refine rf_so ?_
                refine rf_w (wq_12 R_u9 h_j10) (fun w15' w15 R_w15 => ?_)
                refine rf_bx0 (rf_gz (ym_Ma_atom R_w15) (by omega)) (fun u16' u16 r16 R_u16 => ?_)
                refine rf_gw ?_
                refine rf_ck (ox_55 R_u16) ?_
                refine rf_ck (all3 (okR_P R_u16 h_j10) (okR_Po R_u16 h_r7) (okR_s R_u16 (by decide))) ?_
                refine rf_bx (rf_gw (ym_Ma_answer R_u16)) (by unfold zle; omega) (fun c_u17 u17' u17 r17 r17' R_u17 E_u17 v_u17 => ?_)
                cases v_u17
                refine rf_gw ?_
                exact rf_ret R_u17 rfl
            · exact (yb_Ma_naming_147 R_u9)
          · exact (yb_Ma_naming_147 R_u9)
  · refine rf_ck (ox_55 R_u5) ?_
    refine rf_bx0 (rf_gz (ym_Ma_wrong R_u5) (by omega)) (fun u27' u27 r27 R_u27 => ?_)
    refine rf_gw ?_
    exact rf_ret R_u27 rfl
theorem yb_Ma_naming_0 {N : Nat} {p : Nat} {c : Nat → Nat} {m : MS} {u : CS} (R : RP (some p) c m u) {v1 : Int32} : RF 1 (some p) VE c u (fb_Ma_naming_0 N () u 55 v1) (hb_Ma_naming_0 N () m p v1) := by
  unfold fb_Ma_naming_0 hb_Ma_naming_0
  refine rf_bo (gR_M4 R) ?_
  refine rf_br ?_ ?_
  · exact (yb_Ma_naming_15 R ⟨R.md, rfl⟩)
  · exact (yb_Ma_naming_15 R ⟨R.md, rfl⟩)
theorem ym_Ma_naming {N : Nat} {p : Nat} {c : Nat → Nat} {m : MS} {u : CS} (R : RP (some p) c m u) {v1 : Int32} : RF 1 (some p) VE c u (fm_Ma_naming N u 55 v1) (hm_Ma_naming N m p v1) := yb_Ma_naming_0 (N := N) R
theorem yb_Ma_part_189 {N : Nat} {p : Nat} {c : Nat → Nat} {m : MS} {u : CS} (R : RP (some p) c m u) : RF 1 (some p) VE c u (fb_Ma_part_189 N () u 55) (hb_Ma_part_189 N () m p) := by
  unfold fb_Ma_part_189 hb_Ma_part_189
  refine rf_ck (ox_55 R) ?_
  refine rf_bx0 (rf_gz (ym_Ma_wrong R) (by omega)) (fun u1' u1 r1 R_u1 => ?_)
  refine rf_gw ?_
  exact rf_ret R_u1 rfl
theorem yb_Ma_part_120 {N : Nat} {p : Nat} {c : Nat → Nat} {m : MS} {u : CS} (R : RP (some p) c m u) {t1 : Int32} {t2 : Nat} {t2' : Nat} {t3 : Int32} (h_t2 : CVn c t2 t2') : RF 1 (some p) VE c u (fb_Ma_part_120 N () u 55 t1 (some t2) t3) (hb_Ma_part_120 N () m p t1 t2' t3) := by
  unfold fb_Ma_part_120 hb_Ma_part_120
  refine rf_so ?_
  refine rf_ai (aq_C R h_t2) ?_
  refine rf_ck (ox_55 R) ?_
  refine rf_bx (rf_gw (ym_Ma_answer R)) (by unfold zle; omega) (fun c_u4 u4' u4 r4 r4' R_u4 E_u4 v_u4 => ?_)
  cases v_u4
  refine rf_gw ?_
  exact rf_ret R_u4 rfl
theorem yb_Ma_part_96 {N : Nat} {p : Nat} {c : Nat → Nat} {m : MS} {u : CS} (R : RP (some p) c m u) {v1 : Int32} {v5 : Int32} : RF 1 (some p) VE c u (fb_Ma_part_96 N () u 55 v1 v5) (hb_Ma_part_96 N () m p v1 v5) := by
  unfold fb_Ma_part_96 hb_Ma_part_96
  refine rf_bo (gR_M3 R) ?_
  refine rf_soP R.md (fun j6 h_j6 => ?_)
  refine rf_bo (gR_P2 R h_j6) ?_
  refine rf_br ?_ ?_
  · exact (yb_Ma_part_120 R ⟨_, h_j6.1, rfl, rfl⟩)
  · exact (yb_Ma_part_120 R ⟨_, h_j6.1, rfl, rfl⟩)
theorem yb_Ma_part_74 {N : Nat} {p : Nat} {c : Nat → Nat} {m : MS} {u : CS} (R : RP (some p) c m u) {v1 : Int32} {v5 : Int32} {t0 : Int32} {t1 : Int32} : RF 1 (some p) VE c u (fb_Ma_part_74 N () u 55 v1 v5 t0 t1) (hb_Ma_part_74 N () m p v1 v5 t0 t1) := by
  unfold fb_Ma_part_74 hb_Ma_part_74
  refine rf_br ?_ ?_
  · refine rf_br ?_ ?_
    · exact (yb_Ma_part_96 R)
    · refine rf_br ?_ ?_
      · exact (yb_Ma_part_96 R)
      · refine rf_bo (gR_M3 R) ?_
        refine rf_soP R.md (fun j9 h_j9 => ?_)
        refine rf_bo (gR_P2 R h_j9) ?_
        refine rf_so ?_
        refine rf_ai (aq_2 R h_j9.1) ?_
        refine rf_br ?_ ?_
        · refine rf_bx0 (rf_gz (ym_Te_make R) (by omega)) (fun u23' u23 r23 R_u23 => ?_)
          refine rf_gw ?_
          refine rf_ck (ox_55 R_u23) ?_
          refine rf_ck (all1 (okR_s R_u23 (by decide))) ?_
          refine rf_bx (rf_gw (ym_Ma_answer R_u23)) (by unfold zle; omega) (fun c_u24 u24' u24 r24 r24' R_u24 E_u24 v_u24 => ?_)
          cases v_u24
          refine rf_gw ?_
          exact rf_ret R_u24 rfl
        · refine rf_bo (gR_M4 R) ?_
          refine rf_soF R.md (fun j15 h_j15 => ?_)
          refine rf_ck (io_F R h_j15) ?_
          refine rf_bx0 (rf_gz (ym_Fr_below R h_j15) (by omega)) (fun u14' u14 r14 R_u14 => ?_)
          refine rf_gw ?_
          refine rf_bx0 (rf_gz (ym_Te_tag R_u14) (by omega)) (fun u16' u16 r16 R_u16 => ?_)
          refine rf_gw ?_
          refine rf_br ?_ ?_
          · refine rf_br ?_ ?_
            · exact (yb_Ma_part_189 R_u16)
            · refine rf_br ?_ ?_
              · refine rf_bo (gR_M3 R_u16) ?_
                refine rf_soP R_u16.md (fun j18 h_j18 => ?_)
                refine rf_bo (gR_P2 R_u16 h_j18) ?_
                refine rf_so ?_
                refine rf_ai (aq_2 R_u16 h_j18.1) ?_
                refine rf_ck (ox_55 R_u16) ?_
                refine rf_ck (all1 (okR_s R_u16 (by decide))) ?_
                refine rf_bx (rf_gw (ym_Ma_answer R_u16)) (by unfold zle; omega) (fun c_u22 u22' u22 r22 r22' R_u22 E_u22 v_u22 => ?_)
                cases v_u22
                refine rf_gw ?_
                exact rf_ret R_u22 rfl
              · exact (yb_Ma_part_189 R_u16)
          · exact (yb_Ma_part_189 R_u16)
  · refine rf_ck (ox_55 R) ?_
    refine rf_bx0 (rf_gz (ym_Ma_wrong R) (by omega)) (fun u25' u25 r25 R_u25 => ?_)
    refine rf_gw ?_
    exact rf_ret R_u25 rfl
theorem yb_Ma_part_68 {N : Nat} {p : Nat} {c : Nat → Nat} {m : MS} {u : CS} (R : RP (some p) c m u) {v1 : Int32} {v5 : Int32} {t0 : Int32} : RF 1 (some p) VE c u (fb_Ma_part_68 N () u 55 v1 v5 t0) (hb_Ma_part_68 N () m p v1 v5 t0) := by
  unfold fb_Ma_part_68 hb_Ma_part_68
  exact (yb_Ma_part_74 R)
theorem yb_Ma_part_53 {N : Nat} {p : Nat} {c : Nat → Nat} {m : MS} {u : CS} (R : RP (some p) c m u) : RF 1 (some p) VE c u (fb_Ma_part_53 N () u) (hb_Ma_part_53 N () m p) := by
  unfold fb_Ma_part_53 hb_Ma_part_53
  exact rf_ret R rfl
theorem yb_Ma_part_0 {N : Nat} {p : Nat} {c : Nat → Nat} {m : MS} {u : CS} (R : RP (some p) c m u) {v1 : Int32} {v2 : Int64} {v4 : Int32} : RF 1 (some p) VE c u (fb_Ma_part_0 N () u 55 v1 v2 v4) (hb_Ma_part_0 N () m p v1 v2 v4) := by
  unfold fb_Ma_part_0 hb_Ma_part_0
  refine rf_br ?_ ?_
  · refine rf_bo (rx_55_2 R) ?_
    refine rf_bo (gR_M3 R) ?_
    refine rf_soP R.md (fun j28 h_j28 => ?_)
    refine rf_bo (gR_P2 R h_j28) ?_
    refine rf_so ?_
    refine rf_ck (ox_43 R) ?_
    refine rf_bx0 (rf_gz (ym_Te_listLength R ⟨_, h_j28.1, rfl, rfl⟩) (by omega)) (fun u30' u30 r30 R_u30 => ?_)
    refine rf_gw ?_
    refine rf_br ?_ ?_
    · refine rf_ck (ox_55 R_u30) ?_
      refine rf_bx0 (rf_gz (ym_Ma_wrong R_u30) (by omega)) (fun u34' u34 r34 R_u34 => ?_)
      refine rf_gw ?_
      exact (yb_Ma_part_53 R_u34)
    · refine rf_bx0 (rf_gz (ym_Te_make R_u30) (by omega)) (fun u32' u32 r32 R_u32 => ?_)
      refine rf_gw ?_
      refine rf_ck (ox_55 R_u32) ?_
      refine rf_ck (all1 (okR_s R_u32 (by decide))) ?_
      refine rf_bx (rf_gw (ym_Ma_answer R_u32)) (by unfold zle; omega) (fun c_u33 u33' u33 r33 r33' R_u33 E_u33 v_u33 => ?_)
      cases v_u33
      refine rf_gw ?_
      exact (yb_Ma_part_53 R_u33)
  · refine rf_br ?_ ?_
    · exact (yb_Ma_part_68 R)
    · refine rf_br ?_ ?_
      · exact (yb_Ma_part_68 R)
      · exact (yb_Ma_part_74 R)
theorem ym_Ma_part {N : Nat} {p : Nat} {c : Nat → Nat} {m : MS} {u : CS} (R : RP (some p) c m u) {v1 : Int32} {v2 : Int64} {v4 : Int32} : RF 1 (some p) VE c u (fm_Ma_part N u 55 v1 v2 v4) (hm_Ma_part N m p v1 v2 v4) := yb_Ma_part_0 (N := N) R
theorem yb_Ma_test_229 {N : Nat} {p : Nat} {c : Nat → Nat} {m : MS} {u : CS} (R : RP (some p) c m u) : RF 1 (some p) VE c u (fb_Ma_test_229 N () u) (hb_Ma_test_229 N () m p) := by
  unfold fb_Ma_test_229 hb_Ma_test_229
  exact rf_ret R rfl
theorem yb_Ma_test_212 {N : Nat} {p : Nat} {c : Nat → Nat} {m : MS} {u : CS} (R : RP (some p) c m u) {t1 : Int32} {t2 : Int32} : RF 1 (some p) VE c u (fb_Ma_test_212 N () u 55 t1 t2) (hb_Ma_test_212 N () m p t1 t2) := by
  unfold fb_Ma_test_212 hb_Ma_test_212
  refine rf_bx0 (rf_gz (ym_Ma_truth R) (by omega)) (fun u1' u1 r1 R_u1 => ?_)
  refine rf_gw ?_
  refine rf_ck (ox_55 R_u1) ?_
  refine rf_bx (rf_gw (ym_Ma_answer R_u1)) (by unfold zle; omega) (fun c_u2 u2' u2 r2 r2' R_u2 E_u2 v_u2 => ?_)
  cases v_u2
  refine rf_gw ?_
  exact (yb_Ma_test_229 R_u2)
theorem yb_Ma_test_190 {N : Nat} {p : Nat} {c : Nat → Nat} {m : MS} {u : CS} (R : RP (some p) c m u) {t1 : Int32} {t2 : Int32} : RF 1 (some p) VE c u (fb_Ma_test_190 N () u 55 t1 t2) (hb_Ma_test_190 N () m p t1 t2) := by
  unfold fb_Ma_test_190 hb_Ma_test_190
  refine rf_bx0 (rf_gz (ym_Ma_truth R) (by omega)) (fun u3' u3 r3 R_u3 => ?_)
  refine rf_gw ?_
  refine rf_ck (ox_55 R_u3) ?_
  refine rf_bx (rf_gw (ym_Ma_answer R_u3)) (by unfold zle; omega) (fun c_u4 u4' u4 r4 r4' R_u4 E_u4 v_u4 => ?_)
  cases v_u4
  refine rf_gw ?_
  exact (yb_Ma_test_229 R_u4)
theorem yb_Ma_test_168 {N : Nat} {p : Nat} {c : Nat → Nat} {m : MS} {u : CS} (R : RP (some p) c m u) {t1 : Int32} {t2 : Int32} : RF 1 (some p) VE c u (fb_Ma_test_168 N () u 55 t1 t2) (hb_Ma_test_168 N () m p t1 t2) := by
  unfold fb_Ma_test_168 hb_Ma_test_168
  refine rf_bx0 (rf_gz (ym_Ma_truth R) (by omega)) (fun u5' u5 r5 R_u5 => ?_)
  refine rf_gw ?_
  refine rf_ck (ox_55 R_u5) ?_
  refine rf_bx (rf_gw (ym_Ma_answer R_u5)) (by unfold zle; omega) (fun c_u6 u6' u6 r6 r6' R_u6 E_u6 v_u6 => ?_)
  cases v_u6
  refine rf_gw ?_
  exact (yb_Ma_test_229 R_u6)
theorem yb_Ma_test_146 {N : Nat} {p : Nat} {c : Nat → Nat} {m : MS} {u : CS} (R : RP (some p) c m u) {t1 : Int32} {t2 : Int32} : RF 1 (some p) VE c u (fb_Ma_test_146 N () u 55 t1 t2) (hb_Ma_test_146 N () m p t1 t2) := by
  unfold fb_Ma_test_146 hb_Ma_test_146
  refine rf_bx0 (rf_gz (ym_Ma_truth R) (by omega)) (fun u7' u7 r7 R_u7 => ?_)
  refine rf_gw ?_
  refine rf_ck (ox_55 R_u7) ?_
  refine rf_bx (rf_gw (ym_Ma_answer R_u7)) (by unfold zle; omega) (fun c_u8 u8' u8 r8 r8' R_u8 E_u8 v_u8 => ?_)
  cases v_u8
  refine rf_gw ?_
  exact (yb_Ma_test_229 R_u8)
theorem yb_Ma_test_124 {N : Nat} {p : Nat} {c : Nat → Nat} {m : MS} {u : CS} (R : RP (some p) c m u) {t1 : Int32} {t2 : Int32} : RF 1 (some p) VE c u (fb_Ma_test_124 N () u 55 t1 t2) (hb_Ma_test_124 N () m p t1 t2) := by
  unfold fb_Ma_test_124 hb_Ma_test_124
  refine rf_bx0 (rf_gz (ym_Ma_truth R) (by omega)) (fun u9' u9 r9 R_u9 => ?_)
  refine rf_gw ?_
  refine rf_ck (ox_55 R_u9) ?_
  refine rf_bx (rf_gw (ym_Ma_answer R_u9)) (by unfold zle; omega) (fun c_u10 u10' u10 r10 r10' R_u10 E_u10 v_u10 => ?_)
  cases v_u10
  refine rf_gw ?_
  exact (yb_Ma_test_229 R_u10)
theorem yb_Ma_test_119 {N : Nat} {p : Nat} {c : Nat → Nat} {m : MS} {u : CS} (R : RP (some p) c m u) {t1 : Int32} : RF 1 (some p) VE c u (fb_Ma_test_119 N () u 55 t1) (hb_Ma_test_119 N () m p t1) := by
  unfold fb_Ma_test_119 hb_Ma_test_119
  exact (yb_Ma_test_124 R)
theorem yb_Ma_test_94 {N : Nat} {p : Nat} {c : Nat → Nat} {m : MS} {u : CS} (R : RP (some p) c m u) {t1 : Int32} {t2 : Int32} : RF 1 (some p) VE c u (fb_Ma_test_94 N () u 55 t1 t2) (hb_Ma_test_94 N () m p t1 t2) := by
  unfold fb_Ma_test_94 hb_Ma_test_94
  refine rf_bx0 (rf_gz (ym_Ma_truth R) (by omega)) (fun u11' u11 r11 R_u11 => ?_)
  refine rf_gw ?_
  refine rf_ck (ox_55 R_u11) ?_
  refine rf_bx (rf_gw (ym_Ma_answer R_u11)) (by unfold zle; omega) (fun c_u12 u12' u12 r12 r12' R_u12 E_u12 v_u12 => ?_)
  cases v_u12
  refine rf_gw ?_
  exact (yb_Ma_test_229 R_u12)
theorem yb_Ma_test_72 {N : Nat} {p : Nat} {c : Nat → Nat} {m : MS} {u : CS} (R : RP (some p) c m u) {t1 : Int32} {t2 : Int32} : RF 1 (some p) VE c u (fb_Ma_test_72 N () u 55 t1 t2) (hb_Ma_test_72 N () m p t1 t2) := by
  unfold fb_Ma_test_72 hb_Ma_test_72
  refine rf_bx0 (rf_gz (ym_Ma_truth R) (by omega)) (fun u13' u13 r13 R_u13 => ?_)
  refine rf_gw ?_
  refine rf_ck (ox_55 R_u13) ?_
  refine rf_bx (rf_gw (ym_Ma_answer R_u13)) (by unfold zle; omega) (fun c_u14 u14' u14 r14 r14' R_u14 E_u14 v_u14 => ?_)
  cases v_u14
  refine rf_gw ?_
  exact (yb_Ma_test_229 R_u14)
theorem yb_Ma_test_0 {N : Nat} {p : Nat} {c : Nat → Nat} {m : MS} {u : CS} (R : RP (some p) c m u) {v1 : Int32} : RF 1 (some p) VE c u (fb_Ma_test_0 N () u 55 v1) (hb_Ma_test_0 N () m p v1) := by
  unfold fb_Ma_test_0 hb_Ma_test_0
  refine rf_bo (gR_M4 R) ?_
  refine rf_soF R.md (fun j17 h_j17 => ?_)
  refine rf_ck (io_F R h_j17) ?_
  refine rf_bx0 (rf_gz (ym_Fr_below R h_j17) (by omega)) (fun u16' u16 r16 R_u16 => ?_)
  refine rf_gw ?_
  refine rf_bx0 (rf_gz (ym_Te_tag R_u16) (by omega)) (fun u18' u18 r18 R_u18 => ?_)
  refine rf_gw ?_
  refine rf_br ?_ ?_
  · refine rf_br ?_ ?_
    · exact (yb_Ma_test_72 R_u18)
    · exact (yb_Ma_test_72 R_u18)
  · refine rf_br ?_ ?_
    · refine rf_br ?_ ?_
      · exact (yb_Ma_test_94 R_u18)
      · exact (yb_Ma_test_94 R_u18)
    · refine rf_br ?_ ?_
      · refine rf_br ?_ ?_
        · exact (yb_Ma_test_119 R_u18)
        · refine rf_br ?_ ?_
          · exact (yb_Ma_test_119 R_u18)
          · exact (yb_Ma_test_124 R_u18)
      · refine rf_br ?_ ?_
        · refine rf_br ?_ ?_
          · exact (yb_Ma_test_146 R_u18)
          · exact (yb_Ma_test_146 R_u18)
        · refine rf_br ?_ ?_
          · refine rf_br ?_ ?_
            · exact (yb_Ma_test_168 R_u18)
            · exact (yb_Ma_test_168 R_u18)
          · refine rf_br ?_ ?_
            · refine rf_br ?_ ?_
              · exact (yb_Ma_test_190 R_u18)
              · exact (yb_Ma_test_190 R_u18)
            · refine rf_br ?_ ?_
              · refine rf_br ?_ ?_
                · exact (yb_Ma_test_212 R_u18)
                · exact (yb_Ma_test_212 R_u18)
              · refine rf_ck (ox_55 R_u18) ?_
                refine rf_ck (all1 (okR_s R_u18 (by decide))) ?_
                refine rf_bx (rf_gw (ym_Ma_part R_u18)) (by unfold zle; omega) (fun c_u19 u19' u19 r19 r19' R_u19 E_u19 v_u19 => ?_)
                cases v_u19
                refine rf_gw ?_
                exact (yb_Ma_test_229 R_u19)
theorem ym_Ma_test {N : Nat} {p : Nat} {c : Nat → Nat} {m : MS} {u : CS} (R : RP (some p) c m u) {v1 : Int32} : RF 1 (some p) VE c u (fm_Ma_test N u 55 v1) (hm_Ma_test N m p v1) := yb_Ma_test_0 (N := N) R
theorem yb_Ma_alone_309 {N : Nat} {p : Nat} {c : Nat → Nat} {m : MS} {u : CS} (R : RP (some p) c m u) : RF 1 (some p) VE c u (fb_Ma_alone_309 N () u) (hb_Ma_alone_309 N () m p) := by
  unfold fb_Ma_alone_309 hb_Ma_alone_309
  exact rf_ret R rfl
theorem yb_Ma_alone_216 {N : Nat} {p : Nat} {c : Nat → Nat} {m : MS} {u : CS} (R : RP (some p) c m u) {t0 : Nat} {t0' : Nat} {t1 : Int32} (h_t0 : PVn c t0 t0') : RF 1 (some p) VE c u (fb_Ma_alone_216 N () u (some t0) t1) (hb_Ma_alone_216 N () m p t0' t1) := by
  unfold fb_Ma_alone_216 hb_Ma_alone_216
  refine rf_so ?_
  refine rf_ckk ?_
  refine rf_w (wq_11 R h_t0) (fun w2' w2 R_w2 => ?_)
  exact (yb_Ma_alone_309 R_w2)
theorem yb_Ma_alone_183 {N : Nat} {p : Nat} {c : Nat → Nat} {m : MS} {u : CS} (R : RP (some p) c m u) {v2 : Int64} : RF 1 (some p) VE c u (fb_Ma_alone_183 N () u 55 v2) (hb_Ma_alone_183 N () m p v2) := by
  unfold fb_Ma_alone_183 hb_Ma_alone_183
  refine rf_bo (gR_M3 R) ?_
  refine rf_soP R.md (fun j4 h_j4 => ?_)
  refine rf_bo (gq_11 R h_j4) ?_
  refine rf_bx0 (rf_gz (ym_Ma_truth R) (by omega)) (fun u6' u6 r6 R_u6 => ?_)
  refine rf_gw ?_
  refine rf_ck (ox_55 R_u6) ?_
  refine rf_ck (all1 (okR_s R_u6 (by decide))) ?_
  refine rf_bx (rf_gw (ym_Ma_answer R_u6)) (by unfold zle; omega) (fun c_u7 u7' u7 r7 r7' R_u7 E_u7 v_u7 => ?_)
  cases v_u7
  refine rf_gw ?_
  refine rf_bo (gR_M3 R_u7) ?_
  refine rf_bx0 (rf_gz (ym_Ma_atom R_u7) (by omega)) (fun u9' u9 r9 R_u9 => ?_)
  refine rf_gw ?_
  refine rf_br ?_ ?_
  · exact (yb_Ma_alone_216 R_u9 ⟨R_u9.md, rfl⟩)
  · exact (yb_Ma_alone_216 R_u9 ⟨R_u9.md, rfl⟩)
theorem yb_Ma_alone_0 {N : Nat} {p : Nat} {c : Nat → Nat} {m : MS} {u : CS} (R : RP (some p) c m u) {v1 : Int32} : RF 1 (some p) VE c u (fb_Ma_alone_0 N () u 55 v1) (hb_Ma_alone_0 N () m p v1) := by
  unfold fb_Ma_alone_0 hb_Ma_alone_0
  refine rf_bo (gR_M4 R) ?_
  refine rf_soF R.md (fun j12 h_j12 => ?_)
  refine rf_ck (io_F R h_j12) ?_
  refine rf_bx0 (rf_gz (ym_Fr_below R h_j12) (by omega)) (fun u11' u11 r11 R_u11 => ?_)
  refine rf_gw ?_
  refine rf_br ?_ ?_
  · refine rf_bo (gR_M3 R_u11) ?_
    refine rf_soP R_u11.md (fun j14 h_j14 => ?_)
    refine rf_bo (gI_P0 R_u11 h_j14) ?_
    refine rf_bx0 (rf_gz (ym_Te_make R_u11) (by omega)) (fun u16' u16 r16 R_u16 => ?_)
    refine rf_gw ?_
    refine rf_ck (ox_55 R_u16) ?_
    refine rf_ck (all1 (okR_s R_u16 (by decide))) ?_
    refine rf_bx (rf_gw (ym_Ma_answer R_u16)) (by unfold zle; omega) (fun c_u17 u17' u17 r17 r17' R_u17 E_u17 v_u17 => ?_)
    cases v_u17
    refine rf_gw ?_
    exact (yb_Ma_alone_309 R_u17)
  · refine rf_br ?_ ?_
    · refine rf_ck (ox_55 R_u11) ?_
      refine rf_bx0 (rf_gz (ym_Ma_wrong R_u11) (by omega)) (fun u18' u18 r18 R_u18 => ?_)
      refine rf_gw ?_
      exact (yb_Ma_alone_309 R_u18)
    · refine rf_br ?_ ?_
      · refine rf_ck (ox_55 R_u11) ?_
        refine rf_bx0 (rf_gz (ym_Ma_wrong R_u11) (by omega)) (fun u19' u19 r19 R_u19 => ?_)
        refine rf_gw ?_
        exact (yb_Ma_alone_309 R_u19)
      · refine rf_br ?_ ?_
        · refine rf_ck (ox_55 R_u11) ?_
          refine rf_bx0 (rf_gz (ym_Ma_wrong R_u11) (by omega)) (fun u20' u20 r20 R_u20 => ?_)
          refine rf_gw ?_
          exact (yb_Ma_alone_309 R_u20)
        · refine rf_br ?_ ?_
          · refine rf_ck (ox_55 R_u11) ?_
            refine rf_bx0 (rf_gz (ym_Ma_wrong R_u11) (by omega)) (fun u21' u21 r21 R_u21 => ?_)
            refine rf_gw ?_
            exact (yb_Ma_alone_309 R_u21)
          · refine rf_br ?_ ?_
            · refine rf_bx0 (rf_gz (ym_Te_tag R_u11) (by omega)) (fun u22' u22 r22 R_u22 => ?_)
              refine rf_gw ?_
              refine rf_br ?_ ?_
              · refine rf_bo (rx_55_1 R_u22) ?_
                refine rf_bo (gR_M3 R_u22) ?_
                refine rf_soP R_u22.md (fun j25 h_j25 => ?_)
                refine rf_bo (gI_P0 R_u22 h_j25) ?_
                refine rf_so ?_
                refine rf_ck (ox_47 R_u22) ?_
                refine rf_bx0 (rf_gz (ym_Wl_removeWatch R_u22) (by omega)) (fun u27' u27 r27 R_u27 => ?_)
                refine rf_gw ?_
                refine rf_bx0 (rf_gz (ym_Ma_atom R_u27) (by omega)) (fun u29' u29 r29 R_u29 => ?_)
                refine rf_gw ?_
                refine rf_ck (ox_55 R_u29) ?_
                refine rf_ck (all1 (okR_s R_u29 (by decide))) ?_
                refine rf_bx (rf_gw (ym_Ma_answer R_u29)) (by unfold zle; omega) (fun c_u30 u30' u30 r30 r30' R_u30 E_u30 v_u30 => ?_)
                cases v_u30
                refine rf_gw ?_
                exact (yb_Ma_alone_309 R_u30)
              · refine rf_ck (ox_55 R_u22) ?_
                refine rf_bx0 (rf_gz (ym_Ma_wrong R_u22) (by omega)) (fun u31' u31 r31 R_u31 => ?_)
                refine rf_gw ?_
                exact (yb_Ma_alone_309 R_u31)
            · refine rf_br ?_ ?_
              · refine rf_bx0 (rf_gz (ym_Ma_atom R_u11) (by omega)) (fun u32' u32 r32 R_u32 => ?_)
                refine rf_gw ?_
                refine rf_br ?_ ?_
                · exact (yb_Ma_alone_183 R_u32)
                · refine rf_bx0 (rf_gz (ym_Ma_atom R_u32) (by omega)) (fun u33' u33 r33 R_u33 => ?_)
                  refine rf_gw ?_
                  refine rf_br ?_ ?_
                  · exact (yb_Ma_alone_183 R_u33)
                  · refine rf_ck (ox_55 R_u33) ?_
                    refine rf_bx0 (rf_gz (ym_Ma_wrong R_u33) (by omega)) (fun u34' u34 r34 R_u34 => ?_)
                    refine rf_gw ?_
                    exact (yb_Ma_alone_309 R_u34)
              · refine rf_br ?_ ?_
                · refine rf_ck (ox_55 R_u11) ?_
                  refine rf_bx0 (rf_gz (ym_Ma_tell R_u11) (by omega)) (fun u35' u35 r35 R_u35 => ?_)
                  refine rf_gw ?_
                  exact (yb_Ma_alone_309 R_u35)
                · refine rf_br ?_ ?_
                  · refine rf_ck (ox_55 R_u11) ?_
                    refine rf_bx0 (rf_gz (ym_Ma_tell R_u11) (by omega)) (fun u36' u36 r36 R_u36 => ?_)
                    refine rf_gw ?_
                    exact (yb_Ma_alone_309 R_u36)
                  · refine rf_br ?_ ?_
                    · refine rf_ck (ox_55 R_u11) ?_
                      refine rf_bx0 (rf_gz (ym_Ma_tell R_u11) (by omega)) (fun u37' u37 r37 R_u37 => ?_)
                      refine rf_gw ?_
                      exact (yb_Ma_alone_309 R_u37)
                    · refine rf_br ?_ ?_
                      · refine rf_ck (ox_55 R_u11) ?_
                        refine rf_bx0 (rf_gz (ym_Ma_wrong R_u11) (by omega)) (fun u38' u38 r38 R_u38 => ?_)
                        refine rf_gw ?_
                        exact (yb_Ma_alone_309 R_u38)
                      · refine rf_br ?_ ?_
                        · refine rf_bo (rx_55_1 R_u11) ?_
                          refine rf_so ?_
                          refine rf_bo (gx_47_5 R_u11) ?_
                          refine rf_bx0 (rf_gz (ym_Te_make R_u11) (by omega)) (fun u42' u42 r42 R_u42 => ?_)
                          refine rf_gw ?_
                          refine rf_ck (ox_55 R_u42) ?_
                          refine rf_ck (all1 (okR_s R_u42 (by decide))) ?_
                          refine rf_bx (rf_gw (ym_Ma_answer R_u42)) (by unfold zle; omega) (fun c_u43 u43' u43 r43 r43' R_u43 E_u43 v_u43 => ?_)
                          cases v_u43
                          refine rf_gw ?_
                          refine rf_bo (rx_55_1 R_u43) ?_
                          refine rf_so ?_
                          refine rf_bo (gx_47_5 R_u43) ?_
                          refine rf_w (px_47_5 R_u43) (fun w47' w47 R_w47 => ?_)
                          exact (yb_Ma_alone_309 R_w47)
                        · refine rf_br ?_ ?_
                          · refine rf_ck (ox_55 R_u11) ?_
                            refine rf_bx0 (rf_gz (ym_Ma_wrong R_u11) (by omega)) (fun u48' u48 r48 R_u48 => ?_)
                            refine rf_gw ?_
                            exact (yb_Ma_alone_309 R_u48)
                          · refine rf_br ?_ ?_
                            · refine rf_ck (ox_55 R_u11) ?_
                              refine rf_bx0 (rf_gz (ym_Ma_wrong R_u11) (by omega)) (fun u49' u49 r49 R_u49 => ?_)
                              refine rf_gw ?_
                              exact (yb_Ma_alone_309 R_u49)
                            · refine rf_br ?_ ?_
                              · refine rf_ck (ox_55 R_u11) ?_
                                refine rf_bx0 (rf_gz (ym_Ma_wrong R_u11) (by omega)) (fun u50' u50 r50 R_u50 => ?_)
                                refine rf_gw ?_
                                exact (yb_Ma_alone_309 R_u50)
                              · refine rf_br ?_ ?_
                                · refine rf_ck (ox_55 R_u11) ?_
                                  refine rf_bx0 (rf_gz (ym_Ma_wrong R_u11) (by omega)) (fun u51' u51 r51 R_u51 => ?_)
                                  refine rf_gw ?_
                                  exact (yb_Ma_alone_309 R_u51)
                                · refine rf_br ?_ ?_
                                  · refine rf_bo (rx_55_1 R_u11) ?_
                                    refine rf_so ?_
                                    refine rf_bo (gx_47_4 R_u11) ?_
                                    refine rf_bx0 (rf_gz (ym_Te_make R_u11) (by omega)) (fun u55' u55 r55 R_u55 => ?_)
                                    refine rf_gw ?_
                                    refine rf_ck (ox_55 R_u55) ?_
                                    refine rf_ck (all1 (okR_s R_u55 (by decide))) ?_
                                    refine rf_bx (rf_gw (ym_Ma_answer R_u55)) (by unfold zle; omega) (fun c_u56 u56' u56 r56 r56' R_u56 E_u56 v_u56 => ?_)
                                    cases v_u56
                                    refine rf_gw ?_
                                    exact (yb_Ma_alone_309 R_u56)
                                  · refine rf_ck (ox_55 R_u11) ?_
                                    refine rf_bx0 (rf_gz (ym_Ma_wrong R_u11) (by omega)) (fun u57' u57 r57 R_u57 => ?_)
                                    refine rf_gw ?_
                                    exact (yb_Ma_alone_309 R_u57)
theorem ym_Ma_alone {N : Nat} {p : Nat} {c : Nat → Nat} {m : MS} {u : CS} (R : RP (some p) c m u) {v1 : Int32} : RF 1 (some p) VE c u (fm_Ma_alone N u 55 v1) (hm_Ma_alone N m p v1) := yb_Ma_alone_0 (N := N) R
theorem yb_Ma_predefined_163 {N : Nat} {p : Nat} {c : Nat → Nat} {m : MS} {u : CS} (R : RP (some p) c m u) : RF 2 (some p) VE c u (fb_Ma_predefined_163 N () u) (hb_Ma_predefined_163 N () m p) := by
  unfold fb_Ma_predefined_163 hb_Ma_predefined_163
  exact rf_ret R rfl
theorem yb_Ma_predefined_146 {N : Nat} {p : Nat} {c : Nat → Nat} {m : MS} {u : CS} (R : RP (some p) c m u) : RF 2 (some p) VE c u (fb_Ma_predefined_146 N () u 55) (hb_Ma_predefined_146 N () m p) := by
  unfold fb_Ma_predefined_146 hb_Ma_predefined_146
  refine rf_bo (gx_55_9 R) ?_
  refine rf_br ?_ ?_
  · refine rf_bo (gx_55_5 R) ?_
    refine rf_w (px_55_5 R) (fun w3' w3 R_w3 => ?_)
    exact (yb_Ma_predefined_163 R_w3)
  · exact (yb_Ma_predefined_163 R)
theorem yb_Ma_predefined_141 {N : Nat} {p : Nat} {c : Nat → Nat} {m : MS} {u : CS} (R : RP (some p) c m u) {v1 : Int32} : RF 2 (some p) VE c u (fb_Ma_predefined_141 N () u 55 v1) (hb_Ma_predefined_141 N () m p v1) := by
  unfold fb_Ma_predefined_141 hb_Ma_predefined_141
  refine rf_ck (ox_55 R) ?_
  refine rf_ck (all1 (okR_s R (by decide))) ?_
  refine rf_bx (rf_gw (ym_Ma_alone R)) (by unfold zle; omega) (fun c_u4 u4' u4 r4 r4' R_u4 E_u4 v_u4 => ?_)
  cases v_u4
  refine rf_gw ?_
  exact (yb_Ma_predefined_146 R_u4)
theorem yb_Ma_predefined_0 {N : Nat} {p : Nat} {c : Nat → Nat} {m : MS} {u : CS} (R : RP (some p) c m u) {v1 : Int32} : RF 2 (some p) VE c u (fb_Ma_predefined_0 N () u 55 v1) (hb_Ma_predefined_0 N () m p v1) := by
  unfold fb_Ma_predefined_0 hb_Ma_predefined_0
  refine rf_br ?_ ?_
  · refine rf_ck (ox_55 R) ?_
    refine rf_ck (all1 (okR_s R (by decide))) ?_
    refine rf_bx (rf_gw (ym_Ma_spawn R)) (by unfold zle; omega) (fun c_u5 u5' u5 r5 r5' R_u5 E_u5 v_u5 => ?_)
    cases v_u5
    refine rf_gw ?_
    exact (yb_Ma_predefined_146 R_u5)
  · refine rf_br ?_ ?_
    · refine rf_br ?_ ?_
      · exact (yb_Ma_predefined_141 R)
      · refine rf_br ?_ ?_
        · exact (yb_Ma_predefined_141 R)
        · refine rf_ck (ox_55 R) ?_
          refine rf_ck (all1 (okR_s R (by decide))) ?_
          refine rf_bx (rf_gw (ym_Ma_test R)) (by unfold zle; omega) (fun c_u6 u6' u6 r6 r6' R_u6 E_u6 v_u6 => ?_)
          cases v_u6
          refine rf_gw ?_
          exact (yb_Ma_predefined_146 R_u6)
    · refine rf_br ?_ ?_
      · refine rf_br ?_ ?_
        · exact (yb_Ma_predefined_141 R)
        · refine rf_br ?_ ?_
          · exact (yb_Ma_predefined_141 R)
          · refine rf_ck (ox_55 R) ?_
            refine rf_ck (all1 (okR_s R (by decide))) ?_
            refine rf_bx (rf_gw (ym_Ma_test R)) (by unfold zle; omega) (fun c_u7 u7' u7 r7 r7' R_u7 E_u7 v_u7 => ?_)
            cases v_u7
            refine rf_gw ?_
            exact (yb_Ma_predefined_146 R_u7)
      · refine rf_br ?_ ?_
        · refine rf_br ?_ ?_
          · exact (yb_Ma_predefined_141 R)
          · refine rf_br ?_ ?_
            · exact (yb_Ma_predefined_141 R)
            · refine rf_ck (ox_55 R) ?_
              refine rf_ck (all1 (okR_s R (by decide))) ?_
              refine rf_bx (rf_gw (ym_Ma_test R)) (by unfold zle; omega) (fun c_u8 u8' u8 r8 r8' R_u8 E_u8 v_u8 => ?_)
              cases v_u8
              refine rf_gw ?_
              exact (yb_Ma_predefined_146 R_u8)
        · refine rf_br ?_ ?_
          · refine rf_br ?_ ?_
            · exact (yb_Ma_predefined_141 R)
            · refine rf_br ?_ ?_
              · exact (yb_Ma_predefined_141 R)
              · refine rf_ck (ox_55 R) ?_
                refine rf_ck (all1 (okR_s R (by decide))) ?_
                refine rf_bx (rf_gw (ym_Ma_test R)) (by unfold zle; omega) (fun c_u9 u9' u9 r9 r9' R_u9 E_u9 v_u9 => ?_)
                cases v_u9
                refine rf_gw ?_
                exact (yb_Ma_predefined_146 R_u9)
          · refine rf_br ?_ ?_
            · refine rf_br ?_ ?_
              · exact (yb_Ma_predefined_141 R)
              · refine rf_br ?_ ?_
                · exact (yb_Ma_predefined_141 R)
                · refine rf_ck (ox_55 R) ?_
                  refine rf_ck (all1 (okR_s R (by decide))) ?_
                  refine rf_bx (rf_gw (ym_Ma_test R)) (by unfold zle; omega) (fun c_u10 u10' u10 r10 r10' R_u10 E_u10 v_u10 => ?_)
                  cases v_u10
                  refine rf_gw ?_
                  exact (yb_Ma_predefined_146 R_u10)
            · refine rf_br ?_ ?_
              · refine rf_br ?_ ?_
                · exact (yb_Ma_predefined_141 R)
                · refine rf_br ?_ ?_
                  · exact (yb_Ma_predefined_141 R)
                  · refine rf_ck (ox_55 R) ?_
                    refine rf_ck (all1 (okR_s R (by decide))) ?_
                    refine rf_bx (rf_gw (ym_Ma_test R)) (by unfold zle; omega) (fun c_u11 u11' u11 r11 r11' R_u11 E_u11 v_u11 => ?_)
                    cases v_u11
                    refine rf_gw ?_
                    exact (yb_Ma_predefined_146 R_u11)
              · refine rf_br ?_ ?_
                · refine rf_br ?_ ?_
                  · exact (yb_Ma_predefined_141 R)
                  · refine rf_br ?_ ?_
                    · exact (yb_Ma_predefined_141 R)
                    · refine rf_ck (ox_55 R) ?_
                      refine rf_ck (all1 (okR_s R (by decide))) ?_
                      refine rf_bx (rf_gw (ym_Ma_test R)) (by unfold zle; omega) (fun c_u12 u12' u12 r12 r12' R_u12 E_u12 v_u12 => ?_)
                      cases v_u12
                      refine rf_gw ?_
                      exact (yb_Ma_predefined_146 R_u12)
                · refine rf_br ?_ ?_
                  · refine rf_br ?_ ?_
                    · exact (yb_Ma_predefined_141 R)
                    · refine rf_br ?_ ?_
                      · exact (yb_Ma_predefined_141 R)
                      · refine rf_ck (ox_55 R) ?_
                        refine rf_ck (all1 (okR_s R (by decide))) ?_
                        refine rf_bx (rf_gw (ym_Ma_test R)) (by unfold zle; omega) (fun c_u13 u13' u13 r13 r13' R_u13 E_u13 v_u13 => ?_)
                        cases v_u13
                        refine rf_gw ?_
                        exact (yb_Ma_predefined_146 R_u13)
                  · refine rf_br ?_ ?_
                    · refine rf_bo (rx_55_1 R) ?_
                      refine rf_bo (gR_M3 R) ?_
                      refine rf_soP R.md (fun j16 h_j16 => ?_)
                      refine rf_bo (gR_P2 R h_j16) ?_
                      refine rf_bo (gR_M4 R) ?_
                      refine rf_soF R.md (fun j20 h_j20 => ?_)
                      refine rf_ck (io_F R h_j20) ?_
                      refine rf_bx0 (rf_gz (ym_Fr_below R h_j20) (by omega)) (fun u19' u19 r19 R_u19 => ?_)
                      refine rf_gw ?_
                      refine rf_so ?_
                      refine rf_ck (ox_47 R_u19) ?_
                      refine rf_bx0 (rf_gz (ym_Wl_print R_u19 ⟨_, h_j16.1, rfl, rfl⟩) (by omega)) (fun u21' u21 r21 R_u21 => ?_)
                      refine rf_gw ?_
                      refine rf_bx0 (rf_gz (ym_Ma_atom R_u21) (by omega)) (fun u23' u23 r23 R_u23 => ?_)
                      refine rf_gw ?_
                      refine rf_ck (ox_55 R_u23) ?_
                      refine rf_ck (all1 (okR_s R_u23 (by decide))) ?_
                      refine rf_bx (rf_gw (ym_Ma_answer R_u23)) (by unfold zle; omega) (fun c_u24 u24' u24 r24 r24' R_u24 E_u24 v_u24 => ?_)
                      cases v_u24
                      refine rf_gw ?_
                      exact (yb_Ma_predefined_146 R_u24)
                    · refine rf_br ?_ ?_
                      · refine rf_br ?_ ?_
                        · exact (yb_Ma_predefined_141 R)
                        · refine rf_br ?_ ?_
                          · exact (yb_Ma_predefined_141 R)
                          · refine rf_ck (ox_55 R) ?_
                            refine rf_ck (all1 (okR_s R (by decide))) ?_
                            refine rf_bx (rf_gw (ym_Ma_test R)) (by unfold zle; omega) (fun c_u25 u25' u25 r25 r25' R_u25 E_u25 v_u25 => ?_)
                            cases v_u25
                            refine rf_gw ?_
                            exact (yb_Ma_predefined_146 R_u25)
                      · refine rf_br ?_ ?_
                        · refine rf_ck (ox_55 R) ?_
                          refine rf_ck (all1 (okR_s R (by decide))) ?_
                          refine rf_bx (rf_gw (ym_Ma_naming R)) (by unfold zle; omega) (fun c_u26 u26' u26 r26 r26' R_u26 E_u26 v_u26 => ?_)
                          cases v_u26
                          refine rf_gw ?_
                          exact (yb_Ma_predefined_146 R_u26)
                        · refine rf_br ?_ ?_
                          · refine rf_ck (ox_55 R) ?_
                            refine rf_ck (all1 (okR_s R (by decide))) ?_
                            refine rf_bx (rf_gw (ym_Ma_naming R)) (by unfold zle; omega) (fun c_u27 u27' u27 r27 r27' R_u27 E_u27 v_u27 => ?_)
                            cases v_u27
                            refine rf_gw ?_
                            exact (yb_Ma_predefined_146 R_u27)
                          · refine rf_br ?_ ?_
                            · refine rf_ck (ox_55 R) ?_
                              refine rf_ck (all1 (okR_s R (by decide))) ?_
                              refine rf_bx (rf_gw (ym_Ma_naming R)) (by unfold zle; omega) (fun c_u28 u28' u28 r28 r28' R_u28 E_u28 v_u28 => ?_)
                              cases v_u28
                              refine rf_gw ?_
                              exact (yb_Ma_predefined_146 R_u28)
                            · refine rf_br ?_ ?_
                              · exact (yb_Ma_predefined_141 R)
                              · refine rf_br ?_ ?_
                                · exact (yb_Ma_predefined_141 R)
                                · refine rf_ck (ox_55 R) ?_
                                  refine rf_ck (all1 (okR_s R (by decide))) ?_
                                  refine rf_bx (rf_gw (ym_Ma_test R)) (by unfold zle; omega) (fun c_u29 u29' u29 r29 r29' R_u29 E_u29 v_u29 => ?_)
                                  cases v_u29
                                  refine rf_gw ?_
                                  exact (yb_Ma_predefined_146 R_u29)
theorem ym_Ma_predefined {N : Nat} {p : Nat} {c : Nat → Nat} {m : MS} {u : CS} (R : RP (some p) c m u) {v1 : Int32} : RF 2 (some p) VE c u (fm_Ma_predefined N u 55 v1) (hm_Ma_predefined N m p v1) := yb_Ma_predefined_0 (N := N) R
