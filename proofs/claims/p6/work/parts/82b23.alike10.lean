set_option maxRecDepth 100000
theorem yb_Ma_tries_153 {N : Nat} {p : Nat} {c : Nat → Nat} {m : MS} {u : CS} {G : (CS → Nat → Int32 → Int32 → Int32 → Int32 → Option (CS × Unit))} {G' : (MS → Nat → Int32 → Int32 → Int32 → Int32 → Option (MS × Unit))} (hG : ∀ (c : Nat → Nat) (m : MS) (u : CS) (v1 : Int32) (v2 : Int32) (v3 : Int32) (v4 : Int32), RP (some p) c m u → RF 1 (some p) VE c u (G u 55 v1 v2 v3 v4) (G' m p v1 v2 v3 v4)) (R : RP (some p) c m u) : RF 1 (some p) VE c u (fb_Ma_tries_153 N G u) (hb_Ma_tries_153 N G' m p) := by
  unfold fb_Ma_tries_153 hb_Ma_tries_153
  exact rf_ret R rfl
theorem yb_Ma_tries_93 {N : Nat} {p : Nat} {c : Nat → Nat} {m : MS} {u : CS} {G : (CS → Nat → Int32 → Int32 → Int32 → Int32 → Option (CS × Unit))} {G' : (MS → Nat → Int32 → Int32 → Int32 → Int32 → Option (MS × Unit))} (hG : ∀ (c : Nat → Nat) (m : MS) (u : CS) (v1 : Int32) (v2 : Int32) (v3 : Int32) (v4 : Int32), RP (some p) c m u → RF 1 (some p) VE c u (G u 55 v1 v2 v3 v4) (G' m p v1 v2 v3 v4)) (R : RP (some p) c m u) {v1 : Int32} {v2 : Int32} {v3 : Int32} {v4 : Int32} {t1 : Int32} {t2 : Int64} : RF 1 (some p) VE c u (fb_Ma_tries_93 N G u 55 v1 v2 v3 v4 (some 44) t1 t2) (hb_Ma_tries_93 N G' m p v1 v2 v3 v4 t1 t2) := by
  unfold fb_Ma_tries_93 hb_Ma_tries_93
  refine rf_so ?_
  refine rf_wk (sx_44 R) (fun w2' w2 R_w2 => ?_)
  exact (hG _ _ _ _ _ _ _ R_w2)
theorem yb_Ma_tries_50 {N : Nat} {p : Nat} {c : Nat → Nat} {m : MS} {u : CS} {G : (CS → Nat → Int32 → Int32 → Int32 → Int32 → Option (CS × Unit))} {G' : (MS → Nat → Int32 → Int32 → Int32 → Int32 → Option (MS × Unit))} (hG : ∀ (c : Nat → Nat) (m : MS) (u : CS) (v1 : Int32) (v2 : Int32) (v3 : Int32) (v4 : Int32), RP (some p) c m u → RF 1 (some p) VE c u (G u 55 v1 v2 v3 v4) (G' m p v1 v2 v3 v4)) (R : RP (some p) c m u) {v1 : Int32} {v2 : Int32} {v3 : Int32} {v4 : Int32} {t0 : Int32} : RF 1 (some p) VE c u (fb_Ma_tries_50 N G u 55 v1 v2 v3 v4 t0) (hb_Ma_tries_50 N G' m p v1 v2 v3 v4 t0) := by
  unfold fb_Ma_tries_50 hb_Ma_tries_50
  refine rf_bo (rx_55_2 R) ?_
  refine rf_so ?_
  refine rf_bo (rx_43_0 R) ?_
  refine rf_br ?_ ?_
  · refine rf_bo (gR_M4 R) ?_
    refine rf_soF R.md (fun j8 h_j8 => ?_)
    refine rf_ck (io_F R h_j8) ?_
    refine rf_bx0 (rf_gz (ym_Fr_below R h_j8) (by omega)) (fun u7' u7 r7 R_u7 => ?_)
    refine rf_gw ?_
    exact (yb_Ma_tries_93 hG R_u7)
  · refine rf_bo (gR_M3 R) ?_
    refine rf_soP R.md (fun j10 h_j10 => ?_)
    refine rf_bo (gR_P6 R h_j10) ?_
    refine rf_bo (gR_M3 R) ?_
    refine rf_soP R.md (fun j13 h_j13 => ?_)
    refine rf_bo (gq_8 R h_j13) ?_
    refine rf_so ?_
    refine rf_ai (aq_6 R h_j10.1) ?_
    exact (yb_Ma_tries_93 hG R)
theorem yb_Ma_tries_49 {N : Nat} {p : Nat} {c : Nat → Nat} {m : MS} {u : CS} {G : (CS → Nat → Int32 → Int32 → Int32 → Int32 → Option (CS × Unit))} {G' : (MS → Nat → Int32 → Int32 → Int32 → Int32 → Option (MS × Unit))} (hG : ∀ (c : Nat → Nat) (m : MS) (u : CS) (v1 : Int32) (v2 : Int32) (v3 : Int32) (v4 : Int32), RP (some p) c m u → RF 1 (some p) VE c u (G u 55 v1 v2 v3 v4) (G' m p v1 v2 v3 v4)) (R : RP (some p) c m u) {v1 : Int32} {v2 : Int32} {v3 : Int32} {v4 : Int32} : RF 1 (some p) VE c u (fb_Ma_tries_49 N G u 55 v1 v2 v3 v4) (hb_Ma_tries_49 N G' m p v1 v2 v3 v4) := by
  unfold fb_Ma_tries_49 hb_Ma_tries_49
  exact (yb_Ma_tries_50 hG R)
theorem yb_Ma_tries_21 {N : Nat} {p : Nat} {c : Nat → Nat} {m : MS} {u : CS} {G : (CS → Nat → Int32 → Int32 → Int32 → Int32 → Option (CS × Unit))} {G' : (MS → Nat → Int32 → Int32 → Int32 → Int32 → Option (MS × Unit))} (hG : ∀ (c : Nat → Nat) (m : MS) (u : CS) (v1 : Int32) (v2 : Int32) (v3 : Int32) (v4 : Int32), RP (some p) c m u → RF 1 (some p) VE c u (G u 55 v1 v2 v3 v4) (G' m p v1 v2 v3 v4)) (R : RP (some p) c m u) {v1 : Int32} {v2 : Int32} {v3 : Int32} {v4 : Int32} : RF 1 (some p) VE c u (fb_Ma_tries_21 N G u 55 v1 v2 v3 v4) (hb_Ma_tries_21 N G' m p v1 v2 v3 v4) := by
  unfold fb_Ma_tries_21 hb_Ma_tries_21
  refine rf_br ?_ ?_
  · refine rf_bo (gx_55_5 R) ?_
    refine rf_ck (ox_55 R) ?_
    refine rf_ck (all1 (okR_s R (by decide))) ?_
    refine rf_bx (rf_gw (ym_Ma_fit R)) (by unfold zle; omega) (fun c_u18 u18' u18 r18 r18' R_u18 E_u18 v_u18 => ?_)
    cases v_u18
    refine rf_gw ?_
    refine rf_br ?_ ?_
    · refine rf_bo (gR_M4 R_u18) ?_
      refine rf_soF R_u18.md (fun j21 h_j21 => ?_)
      refine rf_w (wf_4 R_u18 h_j21) (fun w22' w22 R_w22 => ?_)
      refine rf_bo (rx_55_0 R_w22) ?_
      refine rf_bo (gx_55_5 R_w22) ?_
      refine rf_so ?_
      refine rf_ck (ox_22 R_w22) ?_
      refine rf_bx0 (rf_gz (ym_Co_at R_w22) (by omega)) (fun u25' u25 r25 R_u25 => ?_)
      refine rf_gw ?_
      refine rf_w (px_55_5 R_u25) (fun w27' w27 R_w27 => ?_)
      exact (yb_Ma_tries_153 hG R_w27)
    · refine rf_w (px_55_5 R_u18) (fun w19' w19 R_w19 => ?_)
      exact (yb_Ma_tries_153 hG R_w19)
  · refine rf_br ?_ ?_
    · refine rf_bo (gR_M3 R) ?_
      refine rf_soP R.md (fun j29 h_j29 => ?_)
      refine rf_bo (gq_8 R h_j29) ?_
      refine rf_br ?_ ?_
      · exact (yb_Ma_tries_49 hG R)
      · exact (yb_Ma_tries_50 hG R)
    · exact (yb_Ma_tries_49 hG R)
theorem yb_Ma_tries_17 {N : Nat} {p : Nat} {c : Nat → Nat} {m : MS} {u : CS} {G : (CS → Nat → Int32 → Int32 → Int32 → Int32 → Option (CS × Unit))} {G' : (MS → Nat → Int32 → Int32 → Int32 → Int32 → Option (MS × Unit))} (hG : ∀ (c : Nat → Nat) (m : MS) (u : CS) (v1 : Int32) (v2 : Int32) (v3 : Int32) (v4 : Int32), RP (some p) c m u → RF 1 (some p) VE c u (G u 55 v1 v2 v3 v4) (G' m p v1 v2 v3 v4)) (R : RP (some p) c m u) {v1 : Int32} {v2 : Int32} {t0 : Int32} : RF 1 (some p) VE c u (fb_Ma_tries_17 N G u 55 v1 v2 t0) (hb_Ma_tries_17 N G' m p v1 v2 t0) := by
  unfold fb_Ma_tries_17 hb_Ma_tries_17
  exact (hG _ _ _ _ _ _ _ R)
theorem yb_Ma_tries_0 {N : Nat} {p : Nat} {c : Nat → Nat} {m : MS} {u : CS} {G : (CS → Nat → Int32 → Int32 → Int32 → Int32 → Option (CS × Unit))} {G' : (MS → Nat → Int32 → Int32 → Int32 → Int32 → Option (MS × Unit))} (hG : ∀ (c : Nat → Nat) (m : MS) (u : CS) (v1 : Int32) (v2 : Int32) (v3 : Int32) (v4 : Int32), RP (some p) c m u → RF 1 (some p) VE c u (G u 55 v1 v2 v3 v4) (G' m p v1 v2 v3 v4)) (R : RP (some p) c m u) {v1 : Int32} : RF 1 (some p) VE c u (fb_Ma_tries_0 N G u 55 v1) (hb_Ma_tries_0 N G' m p v1) := by
  unfold fb_Ma_tries_0 hb_Ma_tries_0
  refine rf_bo (gR_M4 R) ?_
  refine rf_soF R.md (fun j32 h_j32 => ?_)
  refine rf_bo (gf_4 R h_j32) ?_
  refine rf_br ?_ ?_
  · exact (yb_Ma_tries_17 hG R)
  · exact (yb_Ma_tries_17 hG R)
theorem yg_Ma_tries {N : Nat} {p : Nat} : ∀ n, (∀ (c : Nat → Nat) (m : MS) (u : CS) (v1 : Int32) (v2 : Int32) (v3 : Int32) (v4 : Int32), RP (some p) c m u → RF 1 (some p) VE c u ((gg_Ma_tries N n) u 55 v1 v2 v3 v4) ((hg_Ma_tries N n) m p v1 v2 v3 v4)) := by
  intro n
  induction n with
  | zero => exact fun c m u v1 v2 v3 v4 R => rf_none
  | succ n ih => exact fun c m u v1 v2 v3 v4 R => yb_Ma_tries_21 (N := N) ih R
theorem ym_Ma_tries {N : Nat} {p : Nat} {c : Nat → Nat} {m : MS} {u : CS} (R : RP (some p) c m u) {v1 : Int32} : RF 1 (some p) VE c u (fm_Ma_tries N u 55 v1) (hm_Ma_tries N m p v1) := yb_Ma_tries_0 (N := N) (yg_Ma_tries (N := N) N) R
theorem yb_Ma_match_73 {N : Nat} {p : Nat} {c : Nat → Nat} {m : MS} {u : CS} (R : RP (some p) c m u) : RF 1 (some p) VE c u (fb_Ma_match_73 N () u) (hb_Ma_match_73 N () m p) := by
  unfold fb_Ma_match_73 hb_Ma_match_73
  exact rf_ret R rfl
theorem yb_Ma_match_0 {N : Nat} {p : Nat} {c : Nat → Nat} {m : MS} {u : CS} (R : RP (some p) c m u) : RF 1 (some p) VE c u (fb_Ma_match_0 N () u 55) (hb_Ma_match_0 N () m p) := by
  unfold fb_Ma_match_0 hb_Ma_match_0
  refine rf_bo (gR_M4 R) ?_
  refine rf_soF R.md (fun j2 h_j2 => ?_)
  refine rf_bo (gf_4 R h_j2) ?_
  refine rf_bo (rx_55_2 R) ?_
  refine rf_so ?_
  refine rf_bo (rx_43_0 R) ?_
  refine rf_bo (gR_M4 R) ?_
  refine rf_soF R.md (fun j9 h_j9 => ?_)
  refine rf_ck (io_F R h_j9) ?_
  refine rf_bx0 (rf_gz (ym_Fr_below R h_j9) (by omega)) (fun u8' u8 r8 R_u8 => ?_)
  refine rf_gw ?_
  refine rf_so ?_
  refine rf_wk (sx_44 R_u8) (fun w11' w11 R_w11 => ?_)
  refine rf_bo (gx_55_5 R_w11) ?_
  refine rf_ck (ox_55 R_w11) ?_
  refine rf_ck (all1 (okR_s R_w11 (by decide))) ?_
  refine rf_bx (rf_gw (ym_Ma_fit R_w11)) (by unfold zle; omega) (fun c_u13 u13' u13 r13 r13' R_u13 E_u13 v_u13 => ?_)
  cases v_u13
  refine rf_gw ?_
  refine rf_br ?_ ?_
  · refine rf_bo (gR_M4 R_u13) ?_
    refine rf_soF R_u13.md (fun j16 h_j16 => ?_)
    refine rf_w (wf_4 R_u13 h_j16) (fun w17' w17 R_w17 => ?_)
    refine rf_bo (gR_M4 R_w17) ?_
    refine rf_soF R_w17.md (fun j20 h_j20 => ?_)
    refine rf_ck (io_F R_w17 h_j20) ?_
    refine rf_bx0 (rf_gz (ym_Fr_below R_w17 h_j20) (by omega)) (fun u19' u19 r19 R_u19 => ?_)
    refine rf_gw ?_
    refine rf_ck (ox_55 R_u19) ?_
    refine rf_bx0 (rf_gz (ym_Ma_tell R_u19) (by omega)) (fun u21' u21 r21 R_u21 => ?_)
    refine rf_gw ?_
    exact (yb_Ma_match_73 R_u21)
  · refine rf_w (px_55_5 R_u13) (fun w14' w14 R_w14 => ?_)
    exact (yb_Ma_match_73 R_w14)
theorem ym_Ma_match {N : Nat} {p : Nat} {c : Nat → Nat} {m : MS} {u : CS} (R : RP (some p) c m u) : RF 1 (some p) VE c u (fm_Ma_match N u 55) (hm_Ma_match N m p) := yb_Ma_match_0 (N := N) R
theorem yb_Ma_guardFails_0 {N : Nat} {p : Nat} {c : Nat → Nat} {m : MS} {u : CS} (R : RP (some p) c m u) : RF 0 (some p) VE c u (fb_Ma_guardFails_0 N () u 55) (hb_Ma_guardFails_0 N () m p) := by
  unfold fb_Ma_guardFails_0 hb_Ma_guardFails_0
  refine rf_bo (gR_M4 R) ?_
  refine rf_bo (gx_55_14 R) ?_
  refine rf_soF R.md (fun j3 h_j3 => ?_)
  refine rf_w (wf_6 R h_j3) (fun w4' w4 R_w4 => ?_)
  refine rf_bo (gR_M4 R_w4) ?_
  refine rf_bo (gx_55_13 R_w4) ?_
  refine rf_soF R_w4.md (fun j8 h_j8 => ?_)
  refine rf_ck (io_F R_w4 h_j8) ?_
  refine rf_bx0 (ym_Fr_forget R_w4 h_j8) (fun u7' u7 r7 R_u7 => ?_)
  refine rf_bo (gx_55_12 R_u7) ?_
  refine rf_w (px_55_5 R_u7) (fun w10' w10 R_w10 => ?_)
  refine rf_w (px_55_12 R_w10) (fun w11' w11 R_w11 => ?_)
  exact rf_ret R_w11 rfl
theorem ym_Ma_guardFails {N : Nat} {p : Nat} {c : Nat → Nat} {m : MS} {u : CS} (R : RP (some p) c m u) : RF 0 (some p) VE c u (fm_Ma_guardFails N u 55) (hm_Ma_guardFails N m p) := yb_Ma_guardFails_0 (N := N) R
theorem yb_Fr_replace_0 {N : Nat} {o : Option Nat} {c : Nat → Nat} {m : MS} {u : CS} (R : RP o c m u) {v0 : Nat} {v0' : Nat} {v1 : Int32} {v2 : Int32} {v3 : Int32} (h_v0 : FVn c v0 v0') : RF 0 o VE c u (fb_Fr_replace_0 N () u v0 v1 v2 v3) (hb_Fr_replace_0 N () m v0' v1 v2 v3) := by
  unfold fb_Fr_replace_0 hb_Fr_replace_0
  refine rf_bo (gf_1 R h_v0) ?_
  refine rf_ck (io_F R h_v0) ?_
  refine rf_bx0 (ym_Fr_of R h_v0) (fun u2' u2 r2 R_u2 => ?_)
  refine rf_bo (gR_F5 R_u2 h_v0) ?_
  refine rf_bo (gf_6 R_u2 h_v0) ?_
  refine rf_bo (gR_F5 R_u2 h_v0) ?_
  refine rf_so ?_
  refine rf_so ?_
  refine rf_wk (cq_35 R_u2 h_v0.1) (fun w8' w8 R_w8 => ?_)
  refine rf_w (wf_6 R_w8 h_v0) (fun w9' w9 R_w9 => ?_)
  refine rf_bo (gf_1 R_w9 h_v0) ?_
  refine rf_ck (io_F R_w9 h_v0) ?_
  refine rf_bx0 (ym_Fr_of R_w9 h_v0) (fun u11' u11 r11 R_u11 => ?_)
  refine rf_w (wf_4 R_u11 h_v0) (fun w12' w12 R_w12 => ?_)
  refine rf_ck (io_F R_w12 h_v0) ?_
  refine rf_bx0 (ym_Fr_set R_w12 h_v0) (fun u13' u13 r13 R_u13 => ?_)
  refine rf_ck (io_F R_u13 h_v0) ?_
  refine rf_bx0 (ym_Fr_set R_u13 h_v0) (fun u14' u14 r14 R_u14 => ?_)
  refine rf_ck (io_F R_u14 h_v0) ?_
  refine rf_bx0 (ym_Fr_set R_u14 h_v0) (fun u15' u15 r15 R_u15 => ?_)
  exact rf_ret R_u15 rfl
theorem ym_Fr_replace {N : Nat} {o : Option Nat} {c : Nat → Nat} {m : MS} {u : CS} (R : RP o c m u) {v0 : Nat} {v0' : Nat} {v1 : Int32} {v2 : Int32} {v3 : Int32} (h_v0 : FVn c v0 v0') : RF 0 o VE c u (fm_Fr_replace N u v0 v1 v2 v3) (hm_Fr_replace N m v0' v1 v2 v3) := yb_Fr_replace_0 (N := N) R h_v0
theorem yb_Ma_enter_37 {N : Nat} {p : Nat} {c : Nat → Nat} {m : MS} {u : CS} (R : RP (some p) c m u) {v2 : Int32} : RF 0 (some p) VE c u (fb_Ma_enter_37 N () u 55 v2) (hb_Ma_enter_37 N () m p v2) := by
  unfold fb_Ma_enter_37 hb_Ma_enter_37
  refine rf_w (px_55_5 R) (fun w1' w1 R_w1 => ?_)
  exact rf_ret R_w1 rfl
theorem yb_Ma_enter_0 {N : Nat} {p : Nat} {c : Nat → Nat} {m : MS} {u : CS} (R : RP (some p) c m u) {v1 : Int32} {v2 : Int32} {v3 : Int32} {v4 : Int32} {v5 : Int32} : RF 0 (some p) VE c u (fb_Ma_enter_0 N () u 55 v1 v2 v3 v4 v5) (hb_Ma_enter_0 N () m p v1 v2 v3 v4 v5) := by
  unfold fb_Ma_enter_0 hb_Ma_enter_0
  refine rf_br ?_ ?_
  · refine rf_bo (gR_M4 R) ?_
    refine rf_soF R.md (fun j4 h_j4 => ?_)
    refine rf_ck (io_F R h_j4) ?_
    refine rf_bx0 (ym_Fr_setPlace R h_j4) (fun u3' u3 r3 R_u3 => ?_)
    refine rf_bo (gR_M4 R_u3) ?_
    refine rf_soF R_u3.md (fun j7 h_j7 => ?_)
    refine rf_ck (io_F R_u3 h_j7) ?_
    refine rf_bx0 (ym_Fr_open R_u3 h_j7) (fun u6' u6 r6 R_u6 => ?_)
    exact (yb_Ma_enter_37 R_u6)
  · refine rf_bo (gR_M4 R) ?_
    refine rf_soF R.md (fun j10 h_j10 => ?_)
    refine rf_ck (io_F R h_j10) ?_
    refine rf_bx0 (ym_Fr_replace R h_j10) (fun u9' u9 r9 R_u9 => ?_)
    exact (yb_Ma_enter_37 R_u9)
theorem ym_Ma_enter {N : Nat} {p : Nat} {c : Nat → Nat} {m : MS} {u : CS} (R : RP (some p) c m u) {v1 : Int32} {v2 : Int32} {v3 : Int32} {v4 : Int32} {v5 : Int32} : RF 0 (some p) VE c u (fm_Ma_enter N u 55 v1 v2 v3 v4 v5) (hm_Ma_enter N m p v1 v2 v3 v4 v5) := yb_Ma_enter_0 (N := N) R
theorem yb_Ma_call_70 {N : Nat} {p : Nat} {c : Nat → Nat} {m : MS} {u : CS} (R : RP (some p) c m u) : RF 0 (some p) VE c u (fb_Ma_call_70 N () u) (hb_Ma_call_70 N () m p) := by
  unfold fb_Ma_call_70 hb_Ma_call_70
  exact rf_ret R rfl
theorem yb_Ma_call_0 {N : Nat} {p : Nat} {c : Nat → Nat} {m : MS} {u : CS} (R : RP (some p) c m u) {v1 : Int32} {v2 : Int32} : RF 0 (some p) VE c u (fb_Ma_call_0 N () u 55 v1 v2) (hb_Ma_call_0 N () m p v1 v2) := by
  unfold fb_Ma_call_0 hb_Ma_call_0
  refine rf_bo (rx_55_0 R) ?_
  refine rf_bo (gx_55_5 R) ?_
  refine rf_so ?_
  refine rf_ck (ox_22 R) ?_
  refine rf_bx0 (ym_Co_at R) (fun u3' u3 r3 R_u3 => ?_)
  refine rf_ck (ox_55 R_u3) ?_
  refine rf_bx0 (ym_Ma_begins R_u3) (fun u5' u5 r5 R_u5 => ?_)
  refine rf_br ?_ ?_
  · exact (yb_Ma_call_70 R_u5)
  · refine rf_br ?_ ?_
    · exact (yb_Ma_call_70 R_u5)
    · refine rf_bo (rx_55_0 R_u5) ?_
      refine rf_so ?_
      refine rf_bo (gx_22_2 R_u5) ?_
      refine rf_br ?_ ?_
      · exact (yb_Ma_call_70 R_u5)
      · refine rf_bo (rx_55_0 R_u5) ?_
        refine rf_so ?_
        refine rf_bo (rx_22_8 R_u5) ?_
        refine rf_so ?_
        refine rf_ai (ax_29 R_u5) ?_
        refine rf_bo (rx_55_0 R_u5) ?_
        refine rf_bo (gx_55_5 R_u5) ?_
        refine rf_so ?_
        refine rf_ck (ox_22 R_u5) ?_
        refine rf_bx0 (ym_Co_at R_u5) (fun u16' u16 r16 R_u16 => ?_)
        refine rf_bo (gx_55_5 R_u16) ?_
        refine rf_ck (ox_55 R_u16) ?_
        refine rf_bx0 (ym_Ma_enter R_u16) (fun u19' u19 r19 R_u19 => ?_)
        exact (yb_Ma_call_70 R_u19)
theorem ym_Ma_call {N : Nat} {p : Nat} {c : Nat → Nat} {m : MS} {u : CS} (R : RP (some p) c m u) {v1 : Int32} {v2 : Int32} : RF 0 (some p) VE c u (fm_Ma_call N u 55 v1 v2) (hm_Ma_call N m p v1 v2) := yb_Ma_call_0 (N := N) R
theorem yb_Fr_takeOut_39 {N : Nat} {o : Option Nat} {c : Nat → Nat} {m : MS} {u : CS} (R : RP o c m u) : RF 0 o VE c u (fb_Fr_takeOut_39 N () u) (hb_Fr_takeOut_39 N () m) := by
  unfold fb_Fr_takeOut_39 hb_Fr_takeOut_39
  exact rf_ret R rfl
theorem yb_Fr_takeOut_0 {N : Nat} {o : Option Nat} {c : Nat → Nat} {m : MS} {u : CS} (R : RP o c m u) {v0 : Nat} {v0' : Nat} {v1 : Int32} (h_v0 : FVn c v0 v0') : RF 0 o VE c u (fb_Fr_takeOut_0 N () u v0 v1) (hb_Fr_takeOut_0 N () m v0' v1) := by
  unfold fb_Fr_takeOut_0 hb_Fr_takeOut_0
  refine rf_bo (gf_6 R h_v0) ?_
  refine rf_br ?_ ?_
  · exact (yb_Fr_takeOut_39 R)
  · refine rf_bo (gR_F5 R h_v0) ?_
    refine rf_bo (gR_F5 R h_v0) ?_
    refine rf_so ?_
    refine rf_so ?_
    refine rf_wk (cq_35 R h_v0.1) (fun w6' w6 R_w6 => ?_)
    refine rf_bo (gf_6 R_w6 h_v0) ?_
    refine rf_w (wf_6 R_w6 h_v0) (fun w8' w8 R_w8 => ?_)
    exact (yb_Fr_takeOut_39 R_w8)
theorem ym_Fr_takeOut {N : Nat} {o : Option Nat} {c : Nat → Nat} {m : MS} {u : CS} (R : RP o c m u) {v0 : Nat} {v0' : Nat} {v1 : Int32} (h_v0 : FVn c v0 v0') : RF 0 o VE c u (fm_Fr_takeOut N u v0 v1) (hm_Fr_takeOut N m v0' v1) := yb_Fr_takeOut_0 (N := N) R h_v0
theorem yb_Ma_apply_0 {N : Nat} {p : Nat} {c : Nat → Nat} {m : MS} {u : CS} (R : RP (some p) c m u) {v1 : Int32} {v2 : Int32} : RF 1 (some p) VE c u (fb_Ma_apply_0 N () u 55 v1 v2) (hb_Ma_apply_0 N () m p v1 v2) := by
  unfold fb_Ma_apply_0 hb_Ma_apply_0
  refine rf_bo (gR_M4 R) ?_
  refine rf_soF R.md (fun j3 h_j3 => ?_)
  refine rf_ck (io_F R h_j3) ?_
  refine rf_bx0 (rf_gz (ym_Fr_below R h_j3) (by omega)) (fun u2' u2 r2 R_u2 => ?_)
  refine rf_gw ?_
  refine rf_bx0 (rf_gz (ym_Te_tag R_u2) (by omega)) (fun u4' u4 r4 R_u4 => ?_)
  refine rf_gw ?_
  refine rf_br ?_ ?_
  · refine rf_bo (gR_M3 R_u4) ?_
    refine rf_soP R_u4.md (fun j6 h_j6 => ?_)
    refine rf_bo (gR_P2 R_u4 h_j6) ?_
    refine rf_so ?_
    refine rf_ai (aq_2 R_u4 h_j6.1) ?_
    refine rf_bo (rx_55_0 R_u4) ?_
    refine rf_so ?_
    refine rf_ck (ox_22 R_u4) ?_
    refine rf_bx0 (rf_gz (ym_Co_takes R_u4) (by omega)) (fun u11' u11 r11 R_u11 => ?_)
    refine rf_gw ?_
    refine rf_br ?_ ?_
    · refine rf_bo (rx_55_0 R_u11) ?_
      refine rf_bo (gx_55_5 R_u11) ?_
      refine rf_so ?_
      refine rf_ck (ox_22 R_u11) ?_
      refine rf_bx0 (rf_gz (ym_Co_at R_u11) (by omega)) (fun u15' u15 r15 R_u15 => ?_)
      refine rf_gw ?_
      refine rf_ck (ox_55 R_u15) ?_
      refine rf_bx0 (rf_gz (ym_Ma_begins R_u15) (by omega)) (fun u17' u17 r17 R_u17 => ?_)
      refine rf_gw ?_
      refine rf_br ?_ ?_
      · exact rf_ret R_u17 rfl
      · refine rf_bo (gR_M4 R_u17) ?_
        refine rf_soF R_u17.md (fun j20 h_j20 => ?_)
        refine rf_ck (io_F R_u17 h_j20) ?_
        refine rf_bx0 (rf_gz (ym_Fr_takeOut R_u17 h_j20) (by omega)) (fun u19' u19 r19 R_u19 => ?_)
        refine rf_gw ?_
        refine rf_bx0 (rf_gz (ym_Ma_functionOf R_u19) (by omega)) (fun u21' u21 r21 R_u21 => ?_)
        refine rf_gw ?_
        refine rf_ck (ox_55 R_u21) ?_
        refine rf_bx0 (rf_gz (ym_Ma_entryOf R_u21) (by omega)) (fun u22' u22 r22 R_u22 => ?_)
        refine rf_gw ?_
        refine rf_bo (gx_55_5 R_u22) ?_
        refine rf_ck (ox_55 R_u22) ?_
        refine rf_bx0 (rf_gz (ym_Ma_enter R_u22) (by omega)) (fun u24' u24 r24 R_u24 => ?_)
        refine rf_gw ?_
        refine rf_bo (gR_M4 R_u24) ?_
        refine rf_bo (gR_M3 R_u24) ?_
        refine rf_soP R_u24.md (fun j27 h_j27 => ?_)
        refine rf_bo (gR_P2 R_u24 h_j27) ?_
        refine rf_ck (ox_55 R_u24) ?_
        refine rf_ck (all1 (okR_s R_u24 (by decide))) ?_
        refine rf_bx (rf_gw (ym_Ma_hold R_u24 ⟨R_u24.md, rfl⟩ ⟨_, h_j27.1, rfl, rfl⟩)) (by unfold zle; omega) (fun c_u29 u29' u29 r29 r29' R_u29 E_u29 v_u29 => ?_)
        cases v_u29
        refine rf_gw ?_
        exact rf_ret R_u29 rfl
    · refine rf_bx0 (rf_gz (ym_Te_make R_u11) (by omega)) (fun u30' u30 r30 R_u30 => ?_)
      refine rf_gw ?_
      refine rf_ck (ox_55 R_u30) ?_
      refine rf_bx0 (rf_gz (ym_Ma_tell R_u30) (by omega)) (fun u31' u31 r31 R_u31 => ?_)
      refine rf_gw ?_
      exact rf_ret R_u31 rfl
  · refine rf_ck (ox_55 R_u4) ?_
    refine rf_bx0 (rf_gz (ym_Ma_tell R_u4) (by omega)) (fun u32' u32 r32 R_u32 => ?_)
    refine rf_gw ?_
    exact rf_ret R_u32 rfl
theorem ym_Ma_apply {N : Nat} {p : Nat} {c : Nat → Nat} {m : MS} {u : CS} (R : RP (some p) c m u) {v1 : Int32} {v2 : Int32} : RF 1 (some p) VE c u (fm_Ma_apply N u 55 v1 v2) (hm_Ma_apply N m p v1 v2) := yb_Ma_apply_0 (N := N) R
theorem yb_Fr_catchTo_34 {N : Nat} {o : Option Nat} {c : Nat → Nat} {m : MS} {u : CS} (R : RP o c m u) {v0 : Nat} {v0' : Nat} {v1 : Int32} {v2 : Int32} (h_v0 : FVn c v0 v0') : RF 1 o VE c u (fb_Fr_catchTo_34 N () u v0 v1 v2) (hb_Fr_catchTo_34 N () m v0' v1 v2) := by
  unfold fb_Fr_catchTo_34 hb_Fr_catchTo_34
  refine rf_bo (gR_F7 R h_v0) ?_
  refine rf_bo (gf_1 R h_v0) ?_
  refine rf_so ?_
  refine rf_wk (sq_37 R h_v0.1) (fun w4' w4 R_w4 => ?_)
  refine rf_bo (gR_F7 R_w4 h_v0) ?_
  refine rf_bo (gf_4 R_w4 h_v0) ?_
  refine rf_so ?_
  refine rf_wk (sq_37 R_w4 h_v0.1) (fun w8' w8 R_w8 => ?_)
  refine rf_bo (gR_F7 R_w8 h_v0) ?_
  refine rf_bo (gf_6 R_w8 h_v0) ?_
  refine rf_so ?_
  refine rf_wk (sq_37 R_w8 h_v0.1) (fun w12' w12 R_w12 => ?_)
  refine rf_bo (gR_F7 R_w12 h_v0) ?_
  refine rf_so ?_
  refine rf_wk (sq_37 R_w12 h_v0.1) (fun w15' w15 R_w15 => ?_)
  refine rf_bo (gf_8 R_w15 h_v0) ?_
  refine rf_w (wf_8 R_w15 h_v0) (fun w17' w17 R_w17 => ?_)
  exact rf_ret R_w17 rfl
theorem yb_Fr_catchTo_0 {N : Nat} {o : Option Nat} {c : Nat → Nat} {m : MS} {u : CS} (R : RP o c m u) {v0 : Nat} {v0' : Nat} {v1 : Int32} (h_v0 : FVn c v0 v0') : RF 1 o VE c u (fb_Fr_catchTo_0 N () u v0 v1) (hb_Fr_catchTo_0 N () m v0' v1) := by
  unfold fb_Fr_catchTo_0 hb_Fr_catchTo_0
  refine rf_bo (gf_8 R h_v0) ?_
  refine rf_bo (gR_F7 R h_v0) ?_
  refine rf_so ?_
  refine rf_bo (nq_37 R h_v0.1) ?_
  refine rf_br ?_ ?_
  · exact (yb_Fr_catchTo_34 R h_v0)
  · refine rf_bo (gR_F7 R h_v0) ?_
    refine rf_bo (gR_F7 R h_v0) ?_
    refine rf_so ?_
    refine rf_bo (nq_37 R h_v0.1) ?_
    refine rf_ck (all1 (okR_F R h_v0)) ?_
    refine rf_growI R h_v0 (k := 37) (l := 47) (by unfold GRK; omega) (by omega) (by unfold zle; omega) (fun c_w27 w27' w27 R_w27 E_w27 => ?_)
    replace h_v0 := E_w27.F h_v0
    exact (yb_Fr_catchTo_34 R_w27 h_v0)
theorem ym_Fr_catchTo {N : Nat} {o : Option Nat} {c : Nat → Nat} {m : MS} {u : CS} (R : RP o c m u) {v0 : Nat} {v0' : Nat} {v1 : Int32} (h_v0 : FVn c v0 v0') : RF 1 o VE c u (fm_Fr_catchTo N u v0 v1) (hm_Fr_catchTo N m v0' v1) := yb_Fr_catchTo_0 (N := N) R h_v0
theorem yb_Ma_await_104 {N : Nat} {p : Nat} {c : Nat → Nat} {m : MS} {u : CS} (R : RP (some p) c m u) : RF 0 (some p) VE c u (fb_Ma_await_104 N () u 55) (hb_Ma_await_104 N () m p) := by
  unfold fb_Ma_await_104 hb_Ma_await_104
  refine rf_bo (gx_55_5 R) ?_
  refine rf_w (px_55_5 R) (fun w2' w2 R_w2 => ?_)
  exact rf_ret R_w2 rfl
theorem yb_Ma_await_96 {N : Nat} {p : Nat} {c : Nat → Nat} {m : MS} {u : CS} (R : RP (some p) c m u) : RF 0 (some p) VE c u (fb_Ma_await_96 N () u 55) (hb_Ma_await_96 N () m p) := by
  unfold fb_Ma_await_96 hb_Ma_await_96
  refine rf_bo (gR_M4 R) ?_
  refine rf_soF R.md (fun j5 h_j5 => ?_)
  refine rf_ck (io_F R h_j5) ?_
  refine rf_bx0 (ym_Fr_drop R h_j5) (fun u4' u4 r4 R_u4 => ?_)
  exact (yb_Ma_await_104 R_u4)
theorem yb_Ma_await_72 {N : Nat} {p : Nat} {c : Nat → Nat} {m : MS} {u : CS} (R : RP (some p) c m u) {v2 : Int64} {v4 : Int32} : RF 0 (some p) VE c u (fb_Ma_await_72 N () u 55 v2 v4) (hb_Ma_await_72 N () m p v2 v4) := by
  unfold fb_Ma_await_72 hb_Ma_await_72
  refine rf_br ?_ ?_
  · exact (yb_Ma_await_96 R)
  · refine rf_bo (gR_M3 R) ?_
    refine rf_bo (rx_55_1 R) ?_
    refine rf_so ?_
    refine rf_bo (gx_47_4 R) ?_
    refine rf_soP R.md (fun j10 h_j10 => ?_)
    refine rf_w (lq_10 R h_j10) (fun w11' w11 R_w11 => ?_)
    exact (yb_Ma_await_96 R_w11)
theorem yb_Ma_await_48 {N : Nat} {p : Nat} {c : Nat → Nat} {m : MS} {u : CS} (R : RP (some p) c m u) {v2 : Int64} {t0 : Int32} : RF 0 (some p) VE c u (fb_Ma_await_48 N () u 55 v2 t0) (hb_Ma_await_48 N () m p v2 t0) := by
  unfold fb_Ma_await_48 hb_Ma_await_48
  refine rf_br ?_ ?_
  · refine rf_bx0 (ym_Ma_atom R) (fun u12' u12 r12 R_u12 => ?_)
    refine rf_br ?_ ?_
    · exact (yb_Ma_await_72 R_u12)
    · refine rf_ck (ox_55 R_u12) ?_
      refine rf_bx0 (ym_Ma_wrong R_u12) (fun u13' u13 r13 R_u13 => ?_)
      exact rf_ret R_u13 rfl
  · exact (yb_Ma_await_72 R)
theorem yb_Ma_await_47 {N : Nat} {p : Nat} {c : Nat → Nat} {m : MS} {u : CS} (R : RP (some p) c m u) {v2 : Int64} : RF 0 (some p) VE c u (fb_Ma_await_47 N () u 55 v2) (hb_Ma_await_47 N () m p v2) := by
  unfold fb_Ma_await_47 hb_Ma_await_47
  exact (yb_Ma_await_48 R)
theorem yb_Ma_await_0 {N : Nat} {p : Nat} {c : Nat → Nat} {m : MS} {u : CS} (R : RP (some p) c m u) {v1 : Int32} : RF 0 (some p) VE c u (fb_Ma_await_0 N () u 55 v1) (hb_Ma_await_0 N () m p v1) := by
  unfold fb_Ma_await_0 hb_Ma_await_0
  refine rf_bo (gR_M3 R) ?_
  refine rf_soP R.md (fun j15 h_j15 => ?_)
  refine rf_w (wq_8 R h_j15) (fun w16' w16 R_w16 => ?_)
  refine rf_bo (gR_M3 R_w16) ?_
  refine rf_soP R_w16.md (fun j18 h_j18 => ?_)
  refine rf_w (lq_10 R_w16 h_j18) (fun w19' w19 R_w19 => ?_)
  refine rf_br ?_ ?_
  · exact (yb_Ma_await_104 R_w19)
  · refine rf_bo (gR_M4 R_w19) ?_
    refine rf_soF R_w19.md (fun j22 h_j22 => ?_)
    refine rf_ck (io_F R_w19 h_j22) ?_
    refine rf_bx0 (ym_Fr_below R_w19 h_j22) (fun u21' u21 r21 R_u21 => ?_)
    refine rf_bx0 (ym_Te_tag R_u21) (fun u23' u23 r23 R_u23 => ?_)
    refine rf_br ?_ ?_
    · refine rf_br ?_ ?_
      · exact (yb_Ma_await_47 R_u23)
      · exact (yb_Ma_await_48 R_u23)
    · exact (yb_Ma_await_47 R_u23)
theorem ym_Ma_await {N : Nat} {p : Nat} {c : Nat → Nat} {m : MS} {u : CS} (R : RP (some p) c m u) {v1 : Int32} : RF 0 (some p) VE c u (fm_Ma_await N u 55 v1) (hm_Ma_await N m p v1) := yb_Ma_await_0 (N := N) R
theorem yb_Pr_takeMessage_53 {N : Nat} {o : Option Nat} {c : Nat → Nat} {m : MS} {u : CS} (R : RP o c m u) {v0 : Nat} {v0' : Nat} (h_v0 : PVn c v0 v0') : RF 0 o VE c u (fb_Pr_takeMessage_53 N () u v0) (hb_Pr_takeMessage_53 N () m v0') := by
  unfold fb_Pr_takeMessage_53 hb_Pr_takeMessage_53
  refine rf_w (wq_8 R h_v0) (fun w1' w1 R_w1 => ?_)
  refine rf_w (lq_10 R_w1 h_v0) (fun w2' w2 R_w2 => ?_)
  exact rf_ret R_w2 rfl
theorem yb_Pr_takeMessage_0 {N : Nat} {o : Option Nat} {c : Nat → Nat} {m : MS} {u : CS} (R : RP o c m u) {v0 : Nat} {v0' : Nat} (h_v0 : PVn c v0 v0') : RF 0 o VE c u (fb_Pr_takeMessage_0 N () u v0) (hb_Pr_takeMessage_0 N () m v0') := by
  unfold fb_Pr_takeMessage_0 hb_Pr_takeMessage_0
  refine rf_bo (gq_8 R h_v0) ?_
  refine rf_bo (gq_7 R h_v0) ?_
  refine rf_br ?_ ?_
  · exact (yb_Pr_takeMessage_53 R h_v0)
  · refine rf_bo (gR_P6 R h_v0) ?_
    refine rf_bo (gq_8 R h_v0) ?_
    refine rf_bo (gR_P6 R h_v0) ?_
    refine rf_bo (gq_8 R h_v0) ?_
    refine rf_bo (gq_7 R h_v0) ?_
    refine rf_bo (gq_8 R h_v0) ?_
    refine rf_so ?_
    refine rf_so ?_
    refine rf_wk (cq_6 R h_v0.1) (fun w13' w13 R_w13 => ?_)
    refine rf_bo (gq_7 R_w13 h_v0) ?_
    refine rf_w (wq_7 R_w13 h_v0) (fun w15' w15 R_w15 => ?_)
    exact (yb_Pr_takeMessage_53 R_w15 h_v0)
theorem ym_Pr_takeMessage {N : Nat} {o : Option Nat} {c : Nat → Nat} {m : MS} {u : CS} (R : RP o c m u) {v0 : Nat} {v0' : Nat} (h_v0 : PVn c v0 v0') : RF 0 o VE c u (fm_Pr_takeMessage N u v0) (hm_Pr_takeMessage N m v0') := yb_Pr_takeMessage_0 (N := N) R h_v0
theorem yb_Ma_returns_0 {N : Nat} {p : Nat} {c : Nat → Nat} {m : MS} {u : CS} (R : RP (some p) c m u) : RF 1 (some p) VE c u (fb_Ma_returns_0 N () u 55) (hb_Ma_returns_0 N () m p) := by
  unfold fb_Ma_returns_0 hb_Ma_returns_0
  refine rf_bo (gR_M4 R) ?_
  refine rf_soF R.md (fun j2 h_j2 => ?_)
  refine rf_bo (gf_1 R h_j2) ?_
  refine rf_br ?_ ?_
  · refine rf_bo (gR_M4 R) ?_
    refine rf_soF R.md (fun j6 h_j6 => ?_)
    refine rf_ck (io_F R h_j6) ?_
    refine rf_bx0 (rf_gz (ym_Fr_below R h_j6) (by omega)) (fun u5' u5 r5 R_u5 => ?_)
    refine rf_gw ?_
    refine rf_bo (gR_M4 R_u5) ?_
    refine rf_soF R_u5.md (fun j9 h_j9 => ?_)
    refine rf_ck (io_F R_u5 h_j9) ?_
    refine rf_bx0 (rf_gz (ym_Fr_leave R_u5 h_j9) (by omega)) (fun u8' u8 r8 R_u8 => ?_)
    refine rf_gw ?_
    refine rf_bo (gR_M4 R_u8) ?_
    refine rf_soF R_u8.md (fun j12 h_j12 => ?_)
    refine rf_ck (io_F R_u8 h_j12) ?_
    refine rf_ck (all1 (okR_s R_u8 (by decide))) ?_
    refine rf_bx (rf_gw (ym_Fr_push R_u8 h_j12)) (by unfold zle; omega) (fun c_u11 u11' u11 r11 r11' R_u11 E_u11 v_u11 => ?_)
    cases v_u11
    refine rf_gw ?_
    refine rf_bo (gR_M4 R_u11) ?_
    refine rf_soF R_u11.md (fun j15 h_j15 => ?_)
    refine rf_ck (io_F R_u11 h_j15) ?_
    refine rf_bx0 (rf_gz (ym_Fr_place R_u11 h_j15) (by omega)) (fun u14' u14 r14 R_u14 => ?_)
    refine rf_gw ?_
    refine rf_w (px_55_5 R_u14) (fun w16' w16 R_w16 => ?_)
    exact rf_ret R_w16 rfl
  · refine rf_bo (rx_55_1 R) ?_
    refine rf_bo (gR_M3 R) ?_
    refine rf_so ?_
    refine rf_ck (ox_47 R) ?_
    refine rf_bx0 (rf_gz (ym_Wl_endsBy R ⟨R.md, rfl⟩) (by omega)) (fun u19' u19 r19 R_u19 => ?_)
    refine rf_gw ?_
    exact rf_ret R_u19 rfl
theorem ym_Ma_returns {N : Nat} {p : Nat} {c : Nat → Nat} {m : MS} {u : CS} (R : RP (some p) c m u) : RF 1 (some p) VE c u (fm_Ma_returns N u 55) (hm_Ma_returns N m p) := yb_Ma_returns_0 (N := N) R
theorem yb_Ma_waitOrLeave_162 {N : Nat} {p : Nat} {c : Nat → Nat} {m : MS} {u : CS} (R : RP (some p) c m u) : RF 1 (some p) VE c u (fb_Ma_waitOrLeave_162 N () u) (hb_Ma_waitOrLeave_162 N () m p) := by
  unfold fb_Ma_waitOrLeave_162 hb_Ma_waitOrLeave_162
  exact rf_ret R rfl
theorem yb_Ma_waitOrLeave_59 {N : Nat} {p : Nat} {c : Nat → Nat} {m : MS} {u : CS} (R : RP (some p) c m u) {t1 : Int32} : RF 1 (some p) VE c u (fb_Ma_waitOrLeave_59 N () u 55 t1) (hb_Ma_waitOrLeave_59 N () m p t1) := by
  unfold fb_Ma_waitOrLeave_59 hb_Ma_waitOrLeave_59
  refine rf_ck (ox_55 R) ?_
  refine rf_bx0 (rf_gz (ym_Ma_await R) (by omega)) (fun u1' u1 r1 R_u1 => ?_)
  refine rf_gw ?_
  exact (yb_Ma_waitOrLeave_162 R_u1)
theorem yb_Ma_waitOrLeave_0 {N : Nat} {p : Nat} {c : Nat → Nat} {m : MS} {u : CS} (R : RP (some p) c m u) {v1 : Int32} {v2 : Int32} : RF 1 (some p) VE c u (fb_Ma_waitOrLeave_0 N () u 55 v1 v2) (hb_Ma_waitOrLeave_0 N () m p v1 v2) := by
  unfold fb_Ma_waitOrLeave_0 hb_Ma_waitOrLeave_0
  refine rf_br ?_ ?_
  · refine rf_br ?_ ?_
    · exact (yb_Ma_waitOrLeave_59 R)
    · exact (yb_Ma_waitOrLeave_59 R)
  · refine rf_br ?_ ?_
    · refine rf_ck (ox_55 R) ?_
      refine rf_bx0 (rf_gz (ym_Ma_nextMessage R) (by omega)) (fun u2' u2 r2 R_u2 => ?_)
      refine rf_gw ?_
      exact (yb_Ma_waitOrLeave_162 R_u2)
    · refine rf_br ?_ ?_
      · refine rf_bo (gR_M3 R) ?_
        refine rf_soP R.md (fun j5 h_j5 => ?_)
        refine rf_ck (io_P R h_j5) ?_
        refine rf_bx0 (rf_gz (ym_Pr_takeMessage R h_j5) (by omega)) (fun u4' u4 r4 R_u4 => ?_)
        refine rf_gw ?_
        refine rf_bo (gx_55_5 R_u4) ?_
        refine rf_w (px_55_5 R_u4) (fun w7' w7 R_w7 => ?_)
        exact (yb_Ma_waitOrLeave_162 R_w7)
      · refine rf_br ?_ ?_
        · refine rf_bo (gR_M3 R) ?_
          refine rf_soP R.md (fun j9 h_j9 => ?_)
          refine rf_bo (gq_8 R h_j9) ?_
          refine rf_w (wq_8 R h_j9) (fun w11' w11 R_w11 => ?_)
          refine rf_w (px_55_5 R_w11) (fun w12' w12 R_w12 => ?_)
          exact (yb_Ma_waitOrLeave_162 R_w12)
        · refine rf_br ?_ ?_
          · refine rf_ck (ox_55 R) ?_
            refine rf_ck (all1 (okR_s R (by decide))) ?_
            refine rf_bx (rf_gw (ym_Ma_returns R)) (by unfold zle; omega) (fun c_u13 u13' u13 r13 r13' R_u13 E_u13 v_u13 => ?_)
            cases v_u13
            refine rf_gw ?_
            exact (yb_Ma_waitOrLeave_162 R_u13)
          · refine rf_br ?_ ?_
            · refine rf_ck (ox_55 R) ?_
              refine rf_bx0 (rf_gz (ym_Ma_wrong R) (by omega)) (fun u14' u14 r14 R_u14 => ?_)
              refine rf_gw ?_
              exact (yb_Ma_waitOrLeave_162 R_u14)
            · refine rf_br ?_ ?_
              · refine rf_bo (gR_M4 R) ?_
                refine rf_soF R.md (fun j17 h_j17 => ?_)
                refine rf_ck (io_F R h_j17) ?_
                refine rf_bx0 (rf_gz (ym_Fr_below R h_j17) (by omega)) (fun u16' u16 r16 R_u16 => ?_)
                refine rf_gw ?_
                refine rf_ck (ox_55 R_u16) ?_
                refine rf_bx0 (rf_gz (ym_Ma_tell R_u16) (by omega)) (fun u18' u18 r18 R_u18 => ?_)
                refine rf_gw ?_
                exact (yb_Ma_waitOrLeave_162 R_u18)
              · refine rf_br ?_ ?_
                · refine rf_ck (ox_55 R) ?_
                  refine rf_bx0 (rf_gz (ym_Ma_wrong R) (by omega)) (fun u19' u19 r19 R_u19 => ?_)
                  refine rf_gw ?_
                  exact (yb_Ma_waitOrLeave_162 R_u19)
                · refine rf_w (px_55_8 R) (fun w20' w20 R_w20 => ?_)
                  exact (yb_Ma_waitOrLeave_162 R_w20)
theorem ym_Ma_waitOrLeave {N : Nat} {p : Nat} {c : Nat → Nat} {m : MS} {u : CS} (R : RP (some p) c m u) {v1 : Int32} {v2 : Int32} : RF 1 (some p) VE c u (fm_Ma_waitOrLeave N u 55 v1 v2) (hm_Ma_waitOrLeave N m p v1 v2) := yb_Ma_waitOrLeave_0 (N := N) R
theorem yb_Ma_flow_343 {N : Nat} {p : Nat} {c : Nat → Nat} {m : MS} {u : CS} (R : RP (some p) c m u) : RF 1 (some p) VE c u (fb_Ma_flow_343 N () u) (hb_Ma_flow_343 N () m p) := by
  unfold fb_Ma_flow_343 hb_Ma_flow_343
  exact rf_ret R rfl
theorem yb_Ma_flow_284 {N : Nat} {p : Nat} {c : Nat → Nat} {m : MS} {u : CS} (R : RP (some p) c m u) {t1 : Int32} {t2 : Int32} : RF 1 (some p) VE c u (fb_Ma_flow_284 N () u 55 t1 t2) (hb_Ma_flow_284 N () m p t1 t2) := by
  unfold fb_Ma_flow_284 hb_Ma_flow_284
  refine rf_ck (ox_55 R) ?_
  refine rf_bx (rf_gw (ym_Ma_apply R)) (by unfold zle; omega) (fun c_u1 u1' u1 r1 r1' R_u1 E_u1 v_u1 => ?_)
  cases v_u1
  refine rf_gw ?_
  exact (yb_Ma_flow_343 R_u1)
theorem yb_Ma_flow_265 {N : Nat} {p : Nat} {c : Nat → Nat} {m : MS} {u : CS} (R : RP (some p) c m u) {t1 : Int32} {t2 : Int32} : RF 1 (some p) VE c u (fb_Ma_flow_265 N () u 55 t1 t2) (hb_Ma_flow_265 N () m p t1 t2) := by
  unfold fb_Ma_flow_265 hb_Ma_flow_265
  refine rf_ck (ox_55 R) ?_
  refine rf_bx0 (rf_gz (ym_Ma_call R) (by omega)) (fun u2' u2 r2 R_u2 => ?_)
  refine rf_gw ?_
  exact (yb_Ma_flow_343 R_u2)
theorem yb_Ma_flow_0 {N : Nat} {p : Nat} {c : Nat → Nat} {m : MS} {u : CS} (R : RP (some p) c m u) {v1 : Int32} : RF 1 (some p) VE c u (fb_Ma_flow_0 N () u 55 v1) (hb_Ma_flow_0 N () m p v1) := by
  unfold fb_Ma_flow_0 hb_Ma_flow_0
  refine rf_bo (rx_55_0 R) ?_
  refine rf_bo (gx_55_5 R) ?_
  refine rf_so ?_
  refine rf_ck (ox_22 R) ?_
  refine rf_bx0 (rf_gz (ym_Co_at R) (by omega)) (fun u5' u5 r5 R_u5 => ?_)
  refine rf_gw ?_
  refine rf_br ?_ ?_
  · refine rf_w (px_55_5 R_u5) (fun w7' w7 R_w7 => ?_)
    exact (yb_Ma_flow_343 R_w7)
  · refine rf_br ?_ ?_
    · refine rf_ck (ox_55 R_u5) ?_
      refine rf_ck (all1 (okR_s R_u5 (by decide))) ?_
      refine rf_bx (rf_gw (ym_Ma_tries R_u5)) (by unfold zle; omega) (fun c_u8 u8' u8 r8 r8' R_u8 E_u8 v_u8 => ?_)
      cases v_u8
      refine rf_gw ?_
      exact (yb_Ma_flow_343 R_u8)
    · refine rf_br ?_ ?_
      · refine rf_ck (ox_55 R_u5) ?_
        refine rf_ck (all1 (okR_s R_u5 (by decide))) ?_
        refine rf_bx (rf_gw (ym_Ma_match R_u5)) (by unfold zle; omega) (fun c_u9 u9' u9 r9 r9' R_u9 E_u9 v_u9 => ?_)
        cases v_u9
        refine rf_gw ?_
        exact (yb_Ma_flow_343 R_u9)
      · refine rf_br ?_ ?_
        · refine rf_w (px_55_13 R_u5) (fun w10' w10 R_w10 => ?_)
          refine rf_bo (rx_55_0 R_w10) ?_
          refine rf_bo (gx_55_5 R_w10) ?_
          refine rf_so ?_
          refine rf_ck (ox_22 R_w10) ?_
          refine rf_bx0 (rf_gz (ym_Co_at R_w10) (by omega)) (fun u13' u13 r13 R_u13 => ?_)
          refine rf_gw ?_
          refine rf_w (px_55_12 R_u13) (fun w15' w15 R_w15 => ?_)
          refine rf_bo (gR_M4 R_w15) ?_
          refine rf_soF R_w15.md (fun j17 h_j17 => ?_)
          refine rf_bo (gf_6 R_w15 h_j17) ?_
          refine rf_w (px_55_14 R_w15) (fun w19' w19 R_w19 => ?_)
          refine rf_bo (gx_55_5 R_w19) ?_
          refine rf_w (px_55_5 R_w19) (fun w21' w21 R_w21 => ?_)
          exact (yb_Ma_flow_343 R_w21)
        · refine rf_br ?_ ?_
          · refine rf_bo (gR_M4 R_u5) ?_
            refine rf_soF R_u5.md (fun j24 h_j24 => ?_)
            refine rf_ck (io_F R_u5 h_j24) ?_
            refine rf_bx0 (rf_gz (ym_Fr_below R_u5 h_j24) (by omega)) (fun u23' u23 r23 R_u23 => ?_)
            refine rf_gw ?_
            refine rf_bx0 (rf_gz (ym_Ma_atom R_u23) (by omega)) (fun u25' u25 r25 R_u25 => ?_)
            refine rf_gw ?_
            refine rf_br ?_ ?_
            · refine rf_bo (gR_M4 R_u25) ?_
              refine rf_soF R_u25.md (fun j28 h_j28 => ?_)
              refine rf_ck (io_F R_u25 h_j28) ?_
              refine rf_bx0 (rf_gz (ym_Fr_drop R_u25 h_j28) (by omega)) (fun u27' u27 r27 R_u27 => ?_)
              refine rf_gw ?_
              refine rf_bo (gx_55_5 R_u27) ?_
              refine rf_w (px_55_5 R_u27) (fun w30' w30 R_w30 => ?_)
              exact (yb_Ma_flow_343 R_w30)
            · refine rf_ck (ox_55 R_u25) ?_
              refine rf_bx0 (rf_gz (ym_Ma_guardFails R_u25) (by omega)) (fun u31' u31 r31 R_u31 => ?_)
              refine rf_gw ?_
              exact (yb_Ma_flow_343 R_u31)
          · refine rf_br ?_ ?_
            · refine rf_w (px_55_12 R_u5) (fun w32' w32 R_w32 => ?_)
              refine rf_bo (gx_55_5 R_w32) ?_
              refine rf_w (px_55_5 R_w32) (fun w34' w34 R_w34 => ?_)
              exact (yb_Ma_flow_343 R_w34)
            · refine rf_br ?_ ?_
              · refine rf_bo (gR_M4 R_u5) ?_
                refine rf_soF R_u5.md (fun j37 h_j37 => ?_)
                refine rf_ck (io_F R_u5 h_j37) ?_
                refine rf_bx0 (rf_gz (ym_Fr_drop R_u5 h_j37) (by omega)) (fun u36' u36 r36 R_u36 => ?_)
                refine rf_gw ?_
                refine rf_bo (gR_M4 R_u36) ?_
                refine rf_bo (rx_55_0 R_u36) ?_
                refine rf_bo (gx_55_5 R_u36) ?_
                refine rf_so ?_
                refine rf_ck (ox_22 R_u36) ?_
                refine rf_bx0 (rf_gz (ym_Co_at R_u36) (by omega)) (fun u41' u41 r41 R_u41 => ?_)
                refine rf_gw ?_
                refine rf_soF R_u41.md (fun j44 h_j44 => ?_)
                refine rf_ck (io_F R_u41 h_j44) ?_
                refine rf_bx0 (rf_gz (ym_Fr_setLine R_u41 h_j44) (by omega)) (fun u43' u43 r43 R_u43 => ?_)
                refine rf_gw ?_
                refine rf_bo (gx_55_5 R_u43) ?_
                refine rf_w (px_55_5 R_u43) (fun w46' w46 R_w46 => ?_)
                exact (yb_Ma_flow_343 R_w46)
              · refine rf_br ?_ ?_
                · refine rf_br ?_ ?_
                  · exact (yb_Ma_flow_265 R_u5)
                  · exact (yb_Ma_flow_265 R_u5)
                · refine rf_br ?_ ?_
                  · refine rf_br ?_ ?_
                    · exact (yb_Ma_flow_265 R_u5)
                    · exact (yb_Ma_flow_265 R_u5)
                  · refine rf_br ?_ ?_
                    · refine rf_br ?_ ?_
                      · exact (yb_Ma_flow_284 R_u5)
                      · exact (yb_Ma_flow_284 R_u5)
                    · refine rf_br ?_ ?_
                      · refine rf_br ?_ ?_
                        · exact (yb_Ma_flow_284 R_u5)
                        · exact (yb_Ma_flow_284 R_u5)
                      · refine rf_br ?_ ?_
                        · refine rf_bo (gR_M4 R_u5) ?_
                          refine rf_soF R_u5.md (fun j49 h_j49 => ?_)
                          refine rf_ck (io_F R_u5 h_j49) ?_
                          refine rf_ck (all1 (okR_s R_u5 (by decide))) ?_
                          refine rf_bx (rf_gw (ym_Fr_catchTo R_u5 h_j49)) (by unfold zle; omega) (fun c_u48 u48' u48 r48 r48' R_u48 E_u48 v_u48 => ?_)
                          cases v_u48
                          refine rf_gw ?_
                          refine rf_bo (gx_55_5 R_u48) ?_
                          refine rf_w (px_55_5 R_u48) (fun w51' w51 R_w51 => ?_)
                          exact (yb_Ma_flow_343 R_w51)
                        · refine rf_br ?_ ?_
                          · refine rf_bo (gR_M4 R_u5) ?_
                            refine rf_soF R_u5.md (fun j53 h_j53 => ?_)
                            refine rf_bo (gf_8 R_u5 h_j53) ?_
                            refine rf_w (wf_8 R_u5 h_j53) (fun w55' w55 R_w55 => ?_)
                            refine rf_bo (gx_55_5 R_w55) ?_
                            refine rf_w (px_55_5 R_w55) (fun w57' w57 R_w57 => ?_)
                            exact (yb_Ma_flow_343 R_w57)
                          · refine rf_ck (ox_55 R_u5) ?_
                            refine rf_ck (all1 (okR_s R_u5 (by decide))) ?_
                            refine rf_bx (rf_gw (ym_Ma_waitOrLeave R_u5)) (by unfold zle; omega) (fun c_u58 u58' u58 r58 r58' R_u58 E_u58 v_u58 => ?_)
                            cases v_u58
                            refine rf_gw ?_
                            exact (yb_Ma_flow_343 R_u58)
theorem ym_Ma_flow {N : Nat} {p : Nat} {c : Nat → Nat} {m : MS} {u : CS} (R : RP (some p) c m u) {v1 : Int32} : RF 1 (some p) VE c u (fm_Ma_flow N u 55 v1) (hm_Ma_flow N m p v1) := yb_Ma_flow_0 (N := N) R
theorem yb_Ma_wrap_0 {N : Nat} {p : Nat} {c : Nat → Nat} {m : MS} {u : CS} (R : RP (some p) c m u) {v1 : Int32} : RF 2 (some p) VE c u (fb_Ma_wrap_0 N () u 55 v1) (hb_Ma_wrap_0 N () m p v1) := by
  unfold fb_Ma_wrap_0 hb_Ma_wrap_0
  refine rf_ck (ox_55 R) ?_
  refine rf_bx (rf_gz (ym_Ma_room R) (by omega)) (by unfold zle; omega) (fun c_u1 u1' u1 r1 r1' R_u1 E_u1 v_u1 => ?_)
  cases v_u1
  refine rf_gw ?_
  refine rf_br ?_ ?_
  · refine rf_ckk ?_
    exact rf_ret R_u1 rfl
  · refine rf_bo (gR_M3 R_u1) ?_
    refine rf_bo (gR_M4 R_u1) ?_
    refine rf_soF R_u1.md (fun j5 h_j5 => ?_)
    refine rf_ck (io_F R_u1 h_j5) ?_
    refine rf_bx0 (rf_gz (ym_Fr_below R_u1 h_j5) (by omega)) (fun u4' u4 r4 R_u4 => ?_)
    refine rf_gw ?_
    refine rf_soP R_u4.md (fun j7 h_j7 => ?_)
    refine rf_ck (io_P R_u4 h_j7) ?_
    refine rf_bx0 (rf_gz (ym_Pr_pair R_u4 h_j7) (by omega)) (fun u6' u6 r6 R_u6 => ?_)
    refine rf_gw ?_
    refine rf_ck (ox_55 R_u6) ?_
    refine rf_ck (all1 (okR_s R_u6 (by decide))) ?_
    refine rf_bx (rf_gw (ym_Ma_answer R_u6)) (by unfold zle; omega) (fun c_u8 u8' u8 r8 r8' R_u8 E_u8 v_u8 => ?_)
    cases v_u8
    refine rf_gw ?_
    refine rf_ckk ?_
    exact rf_ret R_u8 rfl
theorem ym_Ma_wrap {N : Nat} {p : Nat} {c : Nat → Nat} {m : MS} {u : CS} (R : RP (some p) c m u) {v1 : Int32} : RF 2 (some p) VE c u (fm_Ma_wrap N u 55 v1) (hm_Ma_wrap N m p v1) := yb_Ma_wrap_0 (N := N) R
theorem yb_Ma_raise_172 {N : Nat} {p : Nat} {c : Nat → Nat} {m : MS} {u : CS} (R : RP (some p) c m u) : RF 2 (some p) VE c u (fb_Ma_raise_172 N () u) (hb_Ma_raise_172 N () m p) := by
  unfold fb_Ma_raise_172 hb_Ma_raise_172
  exact rf_ret R rfl
theorem yb_Ma_raise_168 {N : Nat} {p : Nat} {c : Nat → Nat} {m : MS} {u : CS} (R : RP (some p) c m u) {t1 : Int32} : RF 2 (some p) VE c u (fb_Ma_raise_168 N () u 55 t1) (hb_Ma_raise_168 N () m p t1) := by
  unfold fb_Ma_raise_168 hb_Ma_raise_168
  refine rf_ck (ox_55 R) ?_
  refine rf_bx (rf_gw (ym_Ma_wrap R)) (by unfold zle; omega) (fun c_u1 u1' u1 r1 r1' R_u1 E_u1 v_u1 => ?_)
  cases v_u1
  refine rf_gw ?_
  exact (yb_Ma_raise_172 R_u1)
theorem yb_Ma_raise_110 {N : Nat} {p : Nat} {c : Nat → Nat} {m : MS} {u : CS} (R : RP (some p) c m u) {t0 : Int64} : RF 2 (some p) VE c u (fb_Ma_raise_110 N () u 55 t0) (hb_Ma_raise_110 N () m p t0) := by
  unfold fb_Ma_raise_110 hb_Ma_raise_110
  refine rf_bo (rx_55_1 R) ?_
  refine rf_bo (gR_M3 R) ?_
  refine rf_bo (gR_M3 R) ?_
  refine rf_so ?_
  refine rf_ck (ox_47 R) ?_
  refine rf_bx0 (rf_gz (ym_Wl_endsWith R ⟨R.md, rfl⟩ ⟨R.md, rfl⟩) (by omega)) (fun u5' u5 r5 R_u5 => ?_)
  refine rf_gw ?_
  exact rf_ret R_u5 rfl
theorem yb_Ma_raise_103 {N : Nat} {p : Nat} {c : Nat → Nat} {m : MS} {u : CS} (R : RP (some p) c m u) {t0 : Nat} {t0' : Nat} {t1 : Int32} (h_t0 : PVn c t0 t0') : RF 2 (some p) VE c u (fb_Ma_raise_103 N () u 55 (some t0) t1) (hb_Ma_raise_103 N () m p t0' t1) := by
  unfold fb_Ma_raise_103 hb_Ma_raise_103
  refine rf_bo (gJ_s10 R) ?_
  refine rf_so ?_
  refine rf_ck (io_P R h_t0) ?_
  refine rf_bx0 (rf_gz (ym_Pr_pair R h_t0) (by omega)) (fun u8' u8 r8 R_u8 => ?_)
  refine rf_gw ?_
  exact (yb_Ma_raise_110 R_u8)
theorem yb_Ma_raise_65 {N : Nat} {p : Nat} {c : Nat → Nat} {m : MS} {u : CS} (R : RP (some p) c m u) {v1 : Int32} : RF 2 (some p) VE c u (fb_Ma_raise_65 N () u 55 v1) (hb_Ma_raise_65 N () m p v1) := by
  unfold fb_Ma_raise_65 hb_Ma_raise_65
  refine rf_bo (gR_M4 R) ?_
  refine rf_soF R.md (fun j11 h_j11 => ?_)
  refine rf_bo (gf_8 R h_j11) ?_
  refine rf_br ?_ ?_
  · refine rf_br ?_ ?_
    · refine rf_bo (gJ_s10 R) ?_
      exact (yb_Ma_raise_110 R)
    · refine rf_bo (gR_M3 R) ?_
      refine rf_br ?_ ?_
      · exact (yb_Ma_raise_103 R ⟨R.md, rfl⟩)
      · exact (yb_Ma_raise_103 R ⟨R.md, rfl⟩)
  · refine rf_bo (gR_M4 R) ?_
    refine rf_soF R.md (fun j15 h_j15 => ?_)
    refine rf_ck (io_F R h_j15) ?_
    refine rf_bx0 (rf_gz (ym_Fr_unwind R h_j15) (by omega)) (fun u14' u14 r14 R_u14 => ?_)
    refine rf_gw ?_
    refine rf_w (px_55_5 R_u14) (fun w16' w16 R_w16 => ?_)
    refine rf_bo (gR_M4 R_w16) ?_
    refine rf_bo (gJ_s10 R_w16) ?_
    refine rf_soF R_w16.md (fun j20 h_j20 => ?_)
    refine rf_ck (io_F R_w16 h_j20) ?_
    refine rf_ck (all1 (okR_s R_w16 (by decide))) ?_
    refine rf_bx (rf_gw (ym_Fr_push R_w16 h_j20)) (by unfold zle; omega) (fun c_u19 u19' u19 r19 r19' R_u19 E_u19 v_u19 => ?_)
    cases v_u19
    refine rf_gw ?_
    refine rf_br ?_ ?_
    · exact (yb_Ma_raise_172 R_u19)
    · refine rf_br ?_ ?_
      · exact (yb_Ma_raise_168 R_u19)
      · exact (yb_Ma_raise_168 R_u19)
theorem yb_Ma_raise_0 {N : Nat} {p : Nat} {c : Nat → Nat} {m : MS} {u : CS} (R : RP (some p) c m u) : RF 2 (some p) VE c u (fb_Ma_raise_0 N () u 55) (hb_Ma_raise_0 N () m p) := by
  unfold fb_Ma_raise_0 hb_Ma_raise_0
  refine rf_bo (gx_55_9 R) ?_
  refine rf_w (px_55_9 R) (fun w24' w24 R_w24 => ?_)
  refine rf_bo (gx_55_12 R_w24) ?_
  refine rf_br ?_ ?_
  · refine rf_bo (gx_55_11 R_w24) ?_
    refine rf_br ?_ ?_
    · exact (yb_Ma_raise_65 R_w24)
    · refine rf_bo (gR_M4 R_w24) ?_
      refine rf_bo (gJ_s10 R_w24) ?_
      refine rf_soF R_w24.md (fun j30 h_j30 => ?_)
      refine rf_ck (io_F R_w24 h_j30) ?_
      refine rf_ck (all1 (okR_s R_w24 (by decide))) ?_
      refine rf_bx (rf_gw (ym_Fr_push R_w24 h_j30)) (by unfold zle; omega) (fun c_u29 u29' u29 r29 r29' R_u29 E_u29 v_u29 => ?_)
      cases v_u29
      refine rf_gw ?_
      refine rf_bo (gx_55_11 R_u29) ?_
      refine rf_ck (ox_55 R_u29) ?_
      refine rf_ck (all1 (okR_s R_u29 (by decide))) ?_
      refine rf_bx (rf_gw (ym_Ma_wrap R_u29)) (by unfold zle; omega) (fun c_u32 u32' u32 r32 r32' R_u32 E_u32 v_u32 => ?_)
      cases v_u32
      refine rf_gw ?_
      refine rf_br ?_ ?_
      · exact rf_ret R_u32 rfl
      · refine rf_bo (gR_M4 R_u32) ?_
        refine rf_soF R_u32.md (fun j35 h_j35 => ?_)
        refine rf_ck (io_F R_u32 h_j35) ?_
        refine rf_bx0 (rf_gz (ym_Fr_below R_u32 h_j35) (by omega)) (fun u34' u34 r34 R_u34 => ?_)
        refine rf_gw ?_
        refine rf_w (pL_s10 R_u34) (fun w36' w36 R_w36 => ?_)
        exact (yb_Ma_raise_65 R_w36)
  · refine rf_ck (ox_55 R_w24) ?_
    refine rf_bx0 (rf_gz (ym_Ma_guardFails R_w24) (by omega)) (fun u37' u37 r37 R_u37 => ?_)
    refine rf_gw ?_
    exact rf_ret R_u37 rfl
theorem ym_Ma_raise {N : Nat} {p : Nat} {c : Nat → Nat} {m : MS} {u : CS} (R : RP (some p) c m u) : RF 2 (some p) VE c u (fm_Ma_raise N u 55) (hm_Ma_raise N m p) := yb_Ma_raise_0 (N := N) R
theorem yb_Wl_tellWatchers_92 {N : Nat} {o : Option Nat} {c : Nat → Nat} {m : MS} {u : CS} {G : (CS → Nat → Option Nat → Int32 → Int32 → Option (CS × Unit))} {G' : (MS → Nat → Int32 → Int32 → Option (MS × Unit))} (hG : ∀ (c : Nat → Nat) (m : MS) (u : CS) (v1 : Nat) (v1' : Nat) (v2 : Int32) (v3 : Int32), RP o c m u → PVn c v1 v1' → RF 3 o VE c u (G u 47 (some v1) v2 v3) (G' m v1' v2 v3)) (R : RP o c m u) {v1 : Nat} {v1' : Nat} {v2 : Int32} {v3 : Int32} (h_v1 : PVn c v1 v1') : RF 3 o VE c u (fb_Wl_tellWatchers_92 N G u 47 (some v1) v2 v3) (hb_Wl_tellWatchers_92 N G' m v1' v2 v3) := by
  unfold fb_Wl_tellWatchers_92 hb_Wl_tellWatchers_92
  exact (hG _ _ _ _ _ _ _ R h_v1)
theorem yb_Wl_tellWatchers_70 {N : Nat} {o : Option Nat} {c : Nat → Nat} {m : MS} {u : CS} {G : (CS → Nat → Option Nat → Int32 → Int32 → Option (CS × Unit))} {G' : (MS → Nat → Int32 → Int32 → Option (MS × Unit))} (hG : ∀ (c : Nat → Nat) (m : MS) (u : CS) (v1 : Nat) (v1' : Nat) (v2 : Int32) (v3 : Int32), RP o c m u → PVn c v1 v1' → RF 3 o VE c u (G u 47 (some v1) v2 v3) (G' m v1' v2 v3)) (R : RP o c m u) {v1 : Nat} {v1' : Nat} {v2 : Int32} {v3 : Int32} (h_v1 : PVn c v1 v1') : RF 3 o VE c u (fb_Wl_tellWatchers_70 N G u 47 (some v1) v2 v3) (hb_Wl_tellWatchers_70 N G' m v1' v2 v3) := by
  unfold fb_Wl_tellWatchers_70 hb_Wl_tellWatchers_70
  refine rf_bo (rx_47_7 R) ?_
  refine rf_so ?_
  refine rf_ai (ax_49 R) ?_
  refine rf_so ?_
  refine rf_bo (gI_P0 R h_v1) ?_
  refine rf_br ?_ ?_
  · exact (yb_Wl_tellWatchers_92 hG R h_v1)
  · refine rf_ck (ox_47 R) ?_
    refine rf_bx0 (ym_Wl_keepWatch R) (fun u6' u6 r6 R_u6 => ?_)
    exact (yb_Wl_tellWatchers_92 hG R_u6 h_v1)
theorem yb_Wl_tellWatchers_4 {N : Nat} {o : Option Nat} {c : Nat → Nat} {m : MS} {u : CS} {G : (CS → Nat → Option Nat → Int32 → Int32 → Option (CS × Unit))} {G' : (MS → Nat → Int32 → Int32 → Option (MS × Unit))} (hG : ∀ (c : Nat → Nat) (m : MS) (u : CS) (v1 : Nat) (v1' : Nat) (v2 : Int32) (v3 : Int32), RP o c m u → PVn c v1 v1' → RF 3 o VE c u (G u 47 (some v1) v2 v3) (G' m v1' v2 v3)) (R : RP o c m u) {v1 : Nat} {v1' : Nat} {v2 : Int32} {v3 : Int32} (h_v1 : PVn c v1 v1') : RF 3 o VE c u (fb_Wl_tellWatchers_4 N G u 47 (some v1) v2 v3) (hb_Wl_tellWatchers_4 N G' m v1' v2 v3) := by
  unfold fb_Wl_tellWatchers_4 hb_Wl_tellWatchers_4
  refine rf_bo (gx_47_10 R) ?_
  refine rf_br ?_ ?_
  · refine rf_w (px_47_10 R) (fun w8' w8 R_w8 => ?_)
    exact rf_ret R_w8 rfl
  · refine rf_bo (rx_47_7 R) ?_
    refine rf_so ?_
    refine rf_ai (ax_49 R) ?_
    refine rf_ck (ox_47 R) ?_
    refine rf_bxP (ym_Wl_find R) (fun u12' u12 r12 r12' R_u12 h_r12 => ?_)
    refine rf_bo (rx_47_8 R_u12) ?_
    refine rf_so ?_
    refine rf_ai (ax_50 R_u12) ?_
    refine rf_so ?_
    refine rf_bo (gI_P0 R_u12 h_v1) ?_
    refine rf_br ?_ ?_
    · refine rf_br2 (PV_n h_r12) ?_ ?_
      · exact (yb_Wl_tellWatchers_70 hG R_u12 h_v1)
      · refine rf_so ?_
        refine rf_bo (gI_P0 R_u12 h_v1) ?_
        refine rf_bo (rx_47_9 R_u12) ?_
        refine rf_so ?_
        refine rf_ai (ax_51 R_u12) ?_
        refine rf_so ?_
        refine rf_bo (gJ_P16 R_u12 h_v1) ?_
        refine rf_so ?_
        refine rf_home R_u12 h_v1 (fun r26 h_r26 => ?_)
        refine rf_ck (ox_47 R_u12) ?_
        refine rf_opt h_r12 (fun r12_j r12_q e1_r12 e2_r12 h_r12j => ?_)
        subst e1_r12
        refine rf_bx (ym_Wl_post R_u12 h_r12j h_r26) (by unfold zle; omega) (fun c_u27 u27' u27 r27 r27' R_u27 E_u27 v_u27 => ?_)
        cases v_u27
        replace h_v1 := E_u27.P h_v1
        exact (yb_Wl_tellWatchers_92 hG R_u27 h_v1)
    · exact (yb_Wl_tellWatchers_70 hG R_u12 h_v1)
theorem yb_Wl_tellWatchers_0 {N : Nat} {o : Option Nat} {c : Nat → Nat} {m : MS} {u : CS} {G : (CS → Nat → Option Nat → Int32 → Int32 → Option (CS × Unit))} {G' : (MS → Nat → Int32 → Int32 → Option (MS × Unit))} (hG : ∀ (c : Nat → Nat) (m : MS) (u : CS) (v1 : Nat) (v1' : Nat) (v2 : Int32) (v3 : Int32), RP o c m u → PVn c v1 v1' → RF 3 o VE c u (G u 47 (some v1) v2 v3) (G' m v1' v2 v3)) (R : RP o c m u) {v1 : Nat} {v1' : Nat} (h_v1 : PVn c v1 v1') : RF 3 o VE c u (fb_Wl_tellWatchers_0 N G u 47 (some v1)) (hb_Wl_tellWatchers_0 N G' m v1') := by
  unfold fb_Wl_tellWatchers_0 hb_Wl_tellWatchers_0
  exact (hG _ _ _ _ _ _ _ R h_v1)
theorem yg_Wl_tellWatchers {N : Nat} {o : Option Nat} : ∀ n, (∀ (c : Nat → Nat) (m : MS) (u : CS) (v1 : Nat) (v1' : Nat) (v2 : Int32) (v3 : Int32), RP o c m u → PVn c v1 v1' → RF 3 o VE c u ((gg_Wl_tellWatchers N n) u 47 (some v1) v2 v3) ((hg_Wl_tellWatchers N n) m v1' v2 v3)) := by
  intro n
  induction n with
  | zero => exact fun c m u v1 v1' v2 v3 R h_v1 => rf_none
  | succ n ih => exact fun c m u v1 v1' v2 v3 R h_v1 => yb_Wl_tellWatchers_4 (N := N) ih R h_v1
theorem ym_Wl_tellWatchers {N : Nat} {o : Option Nat} {c : Nat → Nat} {m : MS} {u : CS} (R : RP o c m u) {v1 : Nat} {v1' : Nat} (h_v1 : PVn c v1 v1') : RF 3 o VE c u (fm_Wl_tellWatchers N u 47 (some v1)) (hm_Wl_tellWatchers N m v1') := yb_Wl_tellWatchers_0 (N := N) (yg_Wl_tellWatchers (N := N) N) R h_v1
theorem yb_Wl_settle_104 {N : Nat} {o : Option Nat} {c : Nat → Nat} {m : MS} {u : CS} {G : (CS → Nat → Option (CS × Unit)) × (CS → Nat → Option Nat → Int32 → Option (CS × Unit))} {G' : (MS → Option (MS × Unit)) × (MS → Nat → Int32 → Option (MS × Unit))} (hG1 : ∀ (c : Nat → Nat) (m : MS) (u : CS), RP o c m u → RF 3 o VE c u (G.1 u 47) (G'.1 m)) (hG2 : ∀ (c : Nat → Nat) (m : MS) (u : CS) (v1 : Nat) (v1' : Nat) (v2 : Int32), RP o c m u → PVn c v1 v1' → RF 3 o VE c u (G.2 u 47 (some v1) v2) (G'.2 m v1' v2)) (R : RP o c m u) : RF 3 o VE c u (fb_Wl_settle_104 N G u 47) (hb_Wl_settle_104 N G' m) := by
  unfold fb_Wl_settle_104 hb_Wl_settle_104
  refine rf_bo (gx_47_16 R) ?_
  refine rf_w (px_47_16 R) (fun w2' w2 R_w2 => ?_)
  exact (hG1 _ _ _ R_w2)
theorem yb_Wl_settle_88 {N : Nat} {o : Option Nat} {c : Nat → Nat} {m : MS} {u : CS} {G : (CS → Nat → Option (CS × Unit)) × (CS → Nat → Option Nat → Int32 → Option (CS × Unit))} {G' : (MS → Option (MS × Unit)) × (MS → Nat → Int32 → Option (MS × Unit))} (hG1 : ∀ (c : Nat → Nat) (m : MS) (u : CS), RP o c m u → RF 3 o VE c u (G.1 u 47) (G'.1 m)) (hG2 : ∀ (c : Nat → Nat) (m : MS) (u : CS) (v1 : Nat) (v1' : Nat) (v2 : Int32), RP o c m u → PVn c v1 v1' → RF 3 o VE c u (G.2 u 47 (some v1) v2) (G'.2 m v1' v2)) (R : RP o c m u) {v1 : Nat} {v1' : Nat} {v2 : Int32} (h_v1 : PVn c v1 v1') : RF 3 o VE c u (fb_Wl_settle_88 N G u 47 (some v1) v2) (hb_Wl_settle_88 N G' m v1' v2) := by
  unfold fb_Wl_settle_88 hb_Wl_settle_88
  exact (hG2 _ _ _ _ _ _ R h_v1)
theorem yb_Wl_settle_40 {N : Nat} {o : Option Nat} {c : Nat → Nat} {m : MS} {u : CS} {G : (CS → Nat → Option (CS × Unit)) × (CS → Nat → Option Nat → Int32 → Option (CS × Unit))} {G' : (MS → Option (MS × Unit)) × (MS → Nat → Int32 → Option (MS × Unit))} (hG1 : ∀ (c : Nat → Nat) (m : MS) (u : CS), RP o c m u → RF 3 o VE c u (G.1 u 47) (G'.1 m)) (hG2 : ∀ (c : Nat → Nat) (m : MS) (u : CS) (v1 : Nat) (v1' : Nat) (v2 : Int32), RP o c m u → PVn c v1 v1' → RF 3 o VE c u (G.2 u 47 (some v1) v2) (G'.2 m v1' v2)) (R : RP o c m u) {v1 : Nat} {v1' : Nat} {v2 : Int32} (h_v1 : PVn c v1 v1') : RF 3 o VE c u (fb_Wl_settle_40 N G u 47 (some v1) v2) (hb_Wl_settle_40 N G' m v1' v2) := by
  unfold fb_Wl_settle_40 hb_Wl_settle_40
  refine rf_so ?_
  refine rf_bo (gq_15 R h_v1) ?_
  refine rf_br ?_ ?_
  · refine rf_so ?_
    refine rf_w (wq_15 R h_v1) (fun w6' w6 R_w6 => ?_)
    refine rf_ck (ox_47 R_w6) ?_
    refine rf_bx (ym_Wl_tellWatchers R_w6 h_v1) (by unfold zle; omega) (fun c_u7 u7' u7 r7 r7' R_u7 E_u7 v_u7 => ?_)
    cases v_u7
    exact (yb_Wl_settle_104 hG1 hG2 R_u7)
  · refine rf_so ?_
    refine rf_bo (gR_P14 R h_v1) ?_
    refine rf_so ?_
    refine rf_ai (aq_14 R h_v1.1) ?_
    refine rf_ck (ox_47 R) ?_
    refine rf_bxP (ym_Wl_find R) (fun u12' u12 r12 r12' R_u12 h_r12 => ?_)
    refine rf_br2 (PV_n h_r12) ?_ ?_
    · exact (yb_Wl_settle_88 hG1 hG2 R_u12 h_v1)
    · refine rf_so ?_
      refine rf_bo (gI_P0 R_u12 h_v1) ?_
      refine rf_boQ h_r12 (fun j16 j16' e1_j16 e2_j16 h_j16 => ?_)
      subst e1_j16
      refine rf_so ?_
      refine rf_ck (io_P R_u12 h_j16) ?_
      refine rf_bx0 (ym_Pr_removeLink R_u12 h_j16) (fun u15' u15 r15 R_u15 => ?_)
      refine rf_so ?_
      refine rf_bo (gI_P0 R_u15 h_v1) ?_
      refine rf_so ?_
      refine rf_bo (gJ_P16 R_u15 h_v1) ?_
      refine rf_so ?_
      refine rf_home R_u15 h_v1 (fun r22 h_r22 => ?_)
      refine rf_ck (ox_47 R_u15) ?_
      refine rf_bx (ym_Wl_signal R_u15 h_j16 h_r22) (by unfold zle; omega) (fun c_u23 u23' u23 r23 r23' R_u23 E_u23 v_u23 => ?_)
      cases v_u23
      replace h_v1 := E_u23.P h_v1
      exact (yb_Wl_settle_88 hG1 hG2 R_u23 h_v1)
theorem yb_Wl_settle_0 {N : Nat} {o : Option Nat} {c : Nat → Nat} {m : MS} {u : CS} {G : (CS → Nat → Option (CS × Unit)) × (CS → Nat → Option Nat → Int32 → Option (CS × Unit))} {G' : (MS → Option (MS × Unit)) × (MS → Nat → Int32 → Option (MS × Unit))} (hG1 : ∀ (c : Nat → Nat) (m : MS) (u : CS), RP o c m u → RF 3 o VE c u (G.1 u 47) (G'.1 m)) (hG2 : ∀ (c : Nat → Nat) (m : MS) (u : CS) (v1 : Nat) (v1' : Nat) (v2 : Int32), RP o c m u → PVn c v1 v1' → RF 3 o VE c u (G.2 u 47 (some v1) v2) (G'.2 m v1' v2)) (R : RP o c m u) : RF 3 o VE c u (fb_Wl_settle_0 N G u 47) (hb_Wl_settle_0 N G' m) := by
  unfold fb_Wl_settle_0 hb_Wl_settle_0
  refine rf_bo (gx_47_16 R) ?_
  refine rf_bo (gx_47_15 R) ?_
  refine rf_br ?_ ?_
  · exact rf_ret R rfl
  · refine rf_bo (rx_47_1 R) ?_
    refine rf_bo (rx_47_14 R) ?_
    refine rf_bo (gx_47_16 R) ?_
    refine rf_so ?_
    refine rf_ai (ax_54 R) ?_
    refine rf_so ?_
    refine rf_aP R (fun r32 h_r32 => ?_)
    refine rf_br2 (PV_n h_r32) ?_ ?_
    · exact (yb_Wl_settle_104 hG1 hG2 R)
    · refine rf_boQ h_r32 (fun j33 j33' e1_j33 e2_j33 h_j33 => ?_)
      subst e1_j33
      refine rf_so ?_
      refine rf_w (wq_12 R h_j33) (fun w34' w34 R_w34 => ?_)
      exact (hG2 _ _ _ _ _ _ R_w34 h_j33)
theorem yg_Wl_settle {N : Nat} {o : Option Nat} : ∀ n, (∀ (c : Nat → Nat) (m : MS) (u : CS), RP o c m u → RF 3 o VE c u ((gg_Wl_settle N n).1 u 47) ((hg_Wl_settle N n).1 m)) ∧ (∀ (c : Nat → Nat) (m : MS) (u : CS) (v1 : Nat) (v1' : Nat) (v2 : Int32), RP o c m u → PVn c v1 v1' → RF 3 o VE c u ((gg_Wl_settle N n).2 u 47 (some v1) v2) ((hg_Wl_settle N n).2 m v1' v2)) := by
  intro n
  induction n with
  | zero => exact ⟨fun c m u R => rf_none, fun c m u v1 v1' v2 R h_v1 => rf_none⟩
  | succ n ih => exact ⟨fun c m u R => yb_Wl_settle_0 (N := N) ih.1 ih.2 R, fun c m u v1 v1' v2 R h_v1 => yb_Wl_settle_40 (N := N) ih.1 ih.2 R h_v1⟩
theorem ym_Wl_settle {N : Nat} {o : Option Nat} {c : Nat → Nat} {m : MS} {u : CS} (R : RP o c m u) : RF 3 o VE c u (fm_Wl_settle N u 47) (hm_Wl_settle N m) := yb_Wl_settle_0 (N := N) (yg_Wl_settle (N := N) N).1 (yg_Wl_settle (N := N) N).2 R
theorem yb_Ma_goOn_219 {N : Nat} {p : Nat} {c : Nat → Nat} {m : MS} {u : CS} {G : (CS → Nat → Int32 → Option (CS × Int32))} {G' : (MS → Nat → Int32 → Option (MS × Int32))} (hG : ∀ (c : Nat → Nat) (m : MS) (u : CS) (v3 : Int32), RP (some p) c m u → RF 2 (some p) VE c u (G u 55 v3) (G' m p v3)) (R : RP (some p) c m u) : RF 2 (some p) VE c u (fb_Ma_goOn_219 N G u 55) (hb_Ma_goOn_219 N G' m p) := by
  unfold fb_Ma_goOn_219 hb_Ma_goOn_219
  refine rf_bo (gR_M4 R) ?_
  refine rf_bo (gx_55_5 R) ?_
  refine rf_soF R.md (fun j4 h_j4 => ?_)
  refine rf_ck (io_F R h_j4) ?_
  refine rf_bx0 (rf_gz (ym_Fr_setPlace R h_j4) (by omega)) (fun u3' u3 r3 R_u3 => ?_)
  refine rf_gw ?_
  refine rf_bo (gx_55_6 R_u3) ?_
  exact rf_ret R_u3 rfl
theorem yb_Ma_goOn_206 {N : Nat} {p : Nat} {c : Nat → Nat} {m : MS} {u : CS} {G : (CS → Nat → Int32 → Option (CS × Int32))} {G' : (MS → Nat → Int32 → Option (MS × Int32))} (hG : ∀ (c : Nat → Nat) (m : MS) (u : CS) (v3 : Int32), RP (some p) c m u → RF 2 (some p) VE c u (G u 55 v3) (G' m p v3)) (R : RP (some p) c m u) {v3 : Int32} : RF 2 (some p) VE c u (fb_Ma_goOn_206 N G u 55 v3) (hb_Ma_goOn_206 N G' m p v3) := by
  unfold fb_Ma_goOn_206 hb_Ma_goOn_206
  refine rf_bo (rx_55_1 R) ?_
  refine rf_so ?_
  refine rf_ck (ox_47 R) ?_
  refine rf_bx (rf_gz (ym_Wl_settle R) (by omega)) (by unfold zle; omega) (fun c_u7 u7' u7 r7 r7' R_u7 E_u7 v_u7 => ?_)
  cases v_u7
  refine rf_gw ?_
  exact (hG _ _ _ _ R_u7)
theorem yb_Ma_goOn_195 {N : Nat} {p : Nat} {c : Nat → Nat} {m : MS} {u : CS} {G : (CS → Nat → Int32 → Option (CS × Int32))} {G' : (MS → Nat → Int32 → Option (MS × Int32))} (hG : ∀ (c : Nat → Nat) (m : MS) (u : CS) (v3 : Int32), RP (some p) c m u → RF 2 (some p) VE c u (G u 55 v3) (G' m p v3)) (R : RP (some p) c m u) {v3 : Int32} : RF 2 (some p) VE c u (fb_Ma_goOn_195 N G u 55 v3) (hb_Ma_goOn_195 N G' m p v3) := by
  unfold fb_Ma_goOn_195 hb_Ma_goOn_195
  refine rf_bo (gx_55_9 R) ?_
  refine rf_br ?_ ?_
  · exact (yb_Ma_goOn_206 hG R)
  · refine rf_ck (ox_55 R) ?_
    refine rf_ck (all1 (okR_s R (by decide))) ?_
    refine rf_bx (rf_gw (ym_Ma_raise R)) (by unfold zle; omega) (fun c_u10 u10' u10 r10 r10' R_u10 E_u10 v_u10 => ?_)
    cases v_u10
    refine rf_gw ?_
    exact (yb_Ma_goOn_206 hG R_u10)
theorem yb_Ma_goOn_67 {N : Nat} {p : Nat} {c : Nat → Nat} {m : MS} {u : CS} {G : (CS → Nat → Int32 → Option (CS × Int32))} {G' : (MS → Nat → Int32 → Option (MS × Int32))} (hG : ∀ (c : Nat → Nat) (m : MS) (u : CS) (v3 : Int32), RP (some p) c m u → RF 2 (some p) VE c u (G u 55 v3) (G' m p v3)) (R : RP (some p) c m u) {v3 : Int32} : RF 2 (some p) VE c u (fb_Ma_goOn_67 N G u 55 v3) (hb_Ma_goOn_67 N G' m p v3) := by
  unfold fb_Ma_goOn_67 hb_Ma_goOn_67
  refine rf_br ?_ ?_
  · exact (yb_Ma_goOn_219 hG R)
  · refine rf_bo (gR_M3 R) ?_
    refine rf_soP R.md (fun j12 h_j12 => ?_)
    refine rf_bo (gq_9 R h_j12) ?_
    refine rf_br ?_ ?_
    · refine rf_bo (gx_55_8 R) ?_
      refine rf_br ?_ ?_
      · refine rf_bo (rx_55_0 R) ?_
        refine rf_bo (gx_55_5 R) ?_
        refine rf_so ?_
        refine rf_ck (ox_22 R) ?_
        refine rf_bx0 (rf_gz (ym_Co_at R) (by omega)) (fun u17' u17 r17 R_u17 => ?_)
        refine rf_gw ?_
        refine rf_br ?_ ?_
        · refine rf_bo (rx_55_0 R_u17) ?_
          refine rf_bo (gx_55_5 R_u17) ?_
          refine rf_so ?_
          refine rf_ck (ox_22 R_u17) ?_
          refine rf_bx0 (rf_gz (ym_Co_at R_u17) (by omega)) (fun u29' u29 r29 R_u29 => ?_)
          refine rf_gw ?_
          refine rf_ck (ox_55 R_u29) ?_
          refine rf_ck (all1 (okR_s R_u29 (by decide))) ?_
          refine rf_bx (rf_gw (ym_Ma_predefined R_u29)) (by unfold zle; omega) (fun c_u31 u31' u31 r31 r31' R_u31 E_u31 v_u31 => ?_)
          cases v_u31
          refine rf_gw ?_
          exact (yb_Ma_goOn_195 hG R_u31)
        · refine rf_br ?_ ?_
          · refine rf_bo (rx_55_0 R_u17) ?_
            refine rf_bo (gx_55_5 R_u17) ?_
            refine rf_so ?_
            refine rf_ck (ox_22 R_u17) ?_
            refine rf_bx0 (rf_gz (ym_Co_at R_u17) (by omega)) (fun u24' u24 r24 R_u24 => ?_)
            refine rf_gw ?_
            refine rf_ck (ox_55 R_u24) ?_
            refine rf_ck (all1 (okR_s R_u24 (by decide))) ?_
            refine rf_bx (rf_gw (ym_Ma_toward R_u24)) (by unfold zle; omega) (fun c_u26 u26' u26 r26 r26' R_u26 E_u26 v_u26 => ?_)
            cases v_u26
            refine rf_gw ?_
            exact (yb_Ma_goOn_195 hG R_u26)
          · refine rf_br ?_ ?_
            · refine rf_br ?_ ?_
              · refine rf_ck (ox_55 R_u17) ?_
                refine rf_ck (all1 (okR_s R_u17 (by decide))) ?_
                refine rf_bx (rf_gw (ym_Ma_flow R_u17)) (by unfold zle; omega) (fun c_u19 u19' u19 r19 r19' R_u19 E_u19 v_u19 => ?_)
                cases v_u19
                refine rf_gw ?_
                exact (yb_Ma_goOn_195 hG R_u19)
              · refine rf_ck (ox_55 R_u17) ?_
                refine rf_ck (all1 (okR_s R_u17 (by decide))) ?_
                refine rf_bx (rf_gw (ym_Ma_value R_u17)) (by unfold zle; omega) (fun c_u20 u20' u20 r20 r20' R_u20 E_u20 v_u20 => ?_)
                cases v_u20
                refine rf_gw ?_
                exact (yb_Ma_goOn_195 hG R_u20)
            · refine rf_ck (ox_55 R_u17) ?_
              refine rf_ck (all1 (okR_s R_u17 (by decide))) ?_
              refine rf_bx (rf_gw (ym_Ma_making R_u17)) (by unfold zle; omega) (fun c_u21 u21' u21 r21 r21' R_u21 E_u21 v_u21 => ?_)
              cases v_u21
              refine rf_gw ?_
              exact (yb_Ma_goOn_195 hG R_u21)
      · exact (yb_Ma_goOn_219 hG R)
    · exact (yb_Ma_goOn_219 hG R)
theorem yb_Ma_goOn_0 {N : Nat} {c : Nat → Nat} {m : MS} {u : CS} {G : (CS → Nat → Int32 → Option (CS × Int32))} {G' : (MS → Nat → Int32 → Option (MS × Int32))} (hG : ∀ (p : Nat), ∀ (c : Nat → Nat) (m : MS) (u : CS) (v3 : Int32), RP (some p) c m u → RF 2 (some p) VE c u (G u 55 v3) (G' m p v3)) (R : RP none c m u) {v1 : Nat} {v1' : Nat} {v2 : Int32} (h_v1 : PVn c v1 v1') : RF 2 none VE c u (fb_Ma_goOn_0 N G u 55 (some v1) v2) (hb_Ma_goOn_0 N G' m v1' v2) := by
  unfold fb_Ma_goOn_0 hb_Ma_goOn_0
  refine rf_take R h_v1 (fun w35 R_w35 => ?_)
  refine rf_bo (gR_M4 R_w35) ?_
  refine rf_soF R_w35.md (fun j38 h_j38 => ?_)
  refine rf_ck (io_F R_w35 h_j38) ?_
  refine rf_bx0 (rf_gz (ym_Fr_place R_w35 h_j38) (by omega)) (fun u37' u37 r37 R_u37 => ?_)
  refine rf_gw ?_
  refine rf_w (px_55_5 R_u37) (fun w39' w39 R_w39 => ?_)
  refine rf_w (px_55_6 R_w39) (fun w40' w40 R_w40 => ?_)
  refine rf_w (px_55_7 R_w40) (fun w41' w41 R_w41 => ?_)
  refine rf_w (px_55_8 R_w41) (fun w42' w42 R_w42 => ?_)
  refine rf_w (px_55_9 R_w42) (fun w43' w43 R_w43 => ?_)
  refine rf_w (px_55_12 R_w43) (fun w44' w44 R_w44 => ?_)
  refine rf_bo (gR_M3 R_w44) ?_
  refine rf_soP R_w44.md (fun j46 h_j46 => ?_)
  refine rf_w (wq_9 R_w44 h_j46) (fun w47' w47 R_w47 => ?_)
  refine rf_bo (gR_M4 R_w47) ?_
  refine rf_soF R_w47.md (fun j49 h_j49 => ?_)
  refine rf_w (wf_9 R_w47 h_j49) (fun w50' w50 R_w50 => ?_)
  exact (hG _ _ _ _ _ R_w50)
theorem yg_Ma_goOn {N : Nat} {p : Nat} : ∀ n, (∀ (c : Nat → Nat) (m : MS) (u : CS) (v3 : Int32), RP (some p) c m u → RF 2 (some p) VE c u ((gg_Ma_goOn N n) u 55 v3) ((hg_Ma_goOn N n) m p v3)) := by
  intro n
  induction n with
  | zero => exact fun c m u v3 R => rf_none
  | succ n ih => exact fun c m u v3 R => yb_Ma_goOn_67 (N := N) ih R
theorem ym_Ma_goOn {N : Nat} {c : Nat → Nat} {m : MS} {u : CS} (R : RP none c m u) {v1 : Nat} {v1' : Nat} {v2 : Int32} (h_v1 : PVn c v1 v1') : RF 2 none VE c u (fm_Ma_goOn N u 55 (some v1) v2) (hm_Ma_goOn N m v1' v2) := yb_Ma_goOn_0 (N := N) (fun p => yg_Ma_goOn (N := N) (p := p) N) R h_v1
