set_option maxRecDepth 100000
theorem yb_Wl_keepWatch_0 {N : Nat} {o : Option Nat} {c : Nat → Nat} {m : MS} {u : CS} (R : RP o c m u) {v1 : Int32} {v2 : Int32} : RF 0 o VE c u (fb_Wl_keepWatch_0 N () u 47 v1 v2) (hb_Wl_keepWatch_0 N () m v1 v2) := by
  unfold fb_Wl_keepWatch_0 hb_Wl_keepWatch_0
  refine rf_bo (rx_47_7 R) ?_
  refine rf_bo (rx_47_7 R) ?_
  refine rf_so ?_
  refine rf_ai (ax_49 R) ?_
  refine rf_so ?_
  refine rf_wk (sx_49 R) (fun w6' w6 R_w6 => ?_)
  refine rf_bo (rx_47_8 R_w6) ?_
  refine rf_bo (rx_47_8 R_w6) ?_
  refine rf_so ?_
  refine rf_ai (ax_50 R_w6) ?_
  refine rf_so ?_
  refine rf_wk (sx_50 R_w6) (fun w12' w12 R_w12 => ?_)
  refine rf_bo (rx_47_9 R_w12) ?_
  refine rf_bo (rx_47_9 R_w12) ?_
  refine rf_so ?_
  refine rf_ai (ax_51 R_w12) ?_
  refine rf_so ?_
  refine rf_wk (sx_51 R_w12) (fun w18' w18 R_w18 => ?_)
  exact rf_ret R_w18 rfl
theorem ym_Wl_keepWatch {N : Nat} {o : Option Nat} {c : Nat → Nat} {m : MS} {u : CS} (R : RP o c m u) {v1 : Int32} {v2 : Int32} : RF 0 o VE c u (fm_Wl_keepWatch N u 47 v1 v2) (hm_Wl_keepWatch N m v1 v2) := yb_Wl_keepWatch_0 (N := N) R
theorem yb_Wl_removeWatch_46 {N : Nat} {o : Option Nat} {c : Nat → Nat} {m : MS} {u : CS} {G : (CS → Nat → Int32 → Int32 → Int32 → Int32 → Option (CS × Unit))} {G' : (MS → Int32 → Int32 → Int32 → Int32 → Option (MS × Unit))} (hG : ∀ (c : Nat → Nat) (m : MS) (u : CS) (v1 : Int32) (v2 : Int32) (v3 : Int32) (v4 : Int32), RP o c m u → RF 0 o VE c u (G u 47 v1 v2 v3 v4) (G' m v1 v2 v3 v4)) (R : RP o c m u) {v1 : Int32} {v2 : Int32} {v3 : Int32} {v4 : Int32} : RF 0 o VE c u (fb_Wl_removeWatch_46 N G u 47 v1 v2 v3 v4) (hb_Wl_removeWatch_46 N G' m v1 v2 v3 v4) := by
  unfold fb_Wl_removeWatch_46 hb_Wl_removeWatch_46
  exact (hG _ _ _ _ _ _ _ R)
theorem yb_Wl_removeWatch_36 {N : Nat} {o : Option Nat} {c : Nat → Nat} {m : MS} {u : CS} {G : (CS → Nat → Int32 → Int32 → Int32 → Int32 → Option (CS × Unit))} {G' : (MS → Int32 → Int32 → Int32 → Int32 → Option (MS × Unit))} (hG : ∀ (c : Nat → Nat) (m : MS) (u : CS) (v1 : Int32) (v2 : Int32) (v3 : Int32) (v4 : Int32), RP o c m u → RF 0 o VE c u (G u 47 v1 v2 v3 v4) (G' m v1 v2 v3 v4)) (R : RP o c m u) {v1 : Int32} {v2 : Int32} {v3 : Int32} {v4 : Int32} : RF 0 o VE c u (fb_Wl_removeWatch_36 N G u 47 v1 v2 v3 v4) (hb_Wl_removeWatch_36 N G' m v1 v2 v3 v4) := by
  unfold fb_Wl_removeWatch_36 hb_Wl_removeWatch_36
  refine rf_ck (ox_47 R) ?_
  refine rf_bx0 (ym_Wl_keepWatch R) (fun u1' u1 r1 R_u1 => ?_)
  exact (yb_Wl_removeWatch_46 hG R_u1)
theorem yb_Wl_removeWatch_5 {N : Nat} {o : Option Nat} {c : Nat → Nat} {m : MS} {u : CS} {G : (CS → Nat → Int32 → Int32 → Int32 → Int32 → Option (CS × Unit))} {G' : (MS → Int32 → Int32 → Int32 → Int32 → Option (MS × Unit))} (hG : ∀ (c : Nat → Nat) (m : MS) (u : CS) (v1 : Int32) (v2 : Int32) (v3 : Int32) (v4 : Int32), RP o c m u → RF 0 o VE c u (G u 47 v1 v2 v3 v4) (G' m v1 v2 v3 v4)) (R : RP o c m u) {v1 : Int32} {v2 : Int32} {v3 : Int32} {v4 : Int32} : RF 0 o VE c u (fb_Wl_removeWatch_5 N G u 47 v1 v2 v3 v4) (hb_Wl_removeWatch_5 N G' m v1 v2 v3 v4) := by
  unfold fb_Wl_removeWatch_5 hb_Wl_removeWatch_5
  refine rf_bo (gx_47_10 R) ?_
  refine rf_br ?_ ?_
  · refine rf_w (px_47_10 R) (fun w3' w3 R_w3 => ?_)
    exact rf_ret R_w3 rfl
  · refine rf_bo (rx_47_7 R) ?_
    refine rf_so ?_
    refine rf_ai (ax_49 R) ?_
    refine rf_br ?_ ?_
    · refine rf_bo (rx_47_9 R) ?_
      refine rf_so ?_
      refine rf_ai (ax_51 R) ?_
      refine rf_br ?_ ?_
      · exact (yb_Wl_removeWatch_46 hG R)
      · exact (yb_Wl_removeWatch_36 hG R)
    · exact (yb_Wl_removeWatch_36 hG R)
theorem yb_Wl_removeWatch_0 {N : Nat} {o : Option Nat} {c : Nat → Nat} {m : MS} {u : CS} {G : (CS → Nat → Int32 → Int32 → Int32 → Int32 → Option (CS × Unit))} {G' : (MS → Int32 → Int32 → Int32 → Int32 → Option (MS × Unit))} (hG : ∀ (c : Nat → Nat) (m : MS) (u : CS) (v1 : Int32) (v2 : Int32) (v3 : Int32) (v4 : Int32), RP o c m u → RF 0 o VE c u (G u 47 v1 v2 v3 v4) (G' m v1 v2 v3 v4)) (R : RP o c m u) {v1 : Int32} {v2 : Int32} : RF 0 o VE c u (fb_Wl_removeWatch_0 N G u 47 v1 v2) (hb_Wl_removeWatch_0 N G' m v1 v2) := by
  unfold fb_Wl_removeWatch_0 hb_Wl_removeWatch_0
  exact (hG _ _ _ _ _ _ _ R)
theorem yg_Wl_removeWatch {N : Nat} {o : Option Nat} : ∀ n, (∀ (c : Nat → Nat) (m : MS) (u : CS) (v1 : Int32) (v2 : Int32) (v3 : Int32) (v4 : Int32), RP o c m u → RF 0 o VE c u ((gg_Wl_removeWatch N n) u 47 v1 v2 v3 v4) ((hg_Wl_removeWatch N n) m v1 v2 v3 v4)) := by
  intro n
  induction n with
  | zero => exact fun c m u v1 v2 v3 v4 R => rf_none
  | succ n ih => exact fun c m u v1 v2 v3 v4 R => yb_Wl_removeWatch_5 (N := N) ih R
theorem ym_Wl_removeWatch {N : Nat} {o : Option Nat} {c : Nat → Nat} {m : MS} {u : CS} (R : RP o c m u) {v1 : Int32} {v2 : Int32} : RF 0 o VE c u (fm_Wl_removeWatch N u 47 v1 v2) (hm_Wl_removeWatch N m v1 v2) := yb_Wl_removeWatch_0 (N := N) (yg_Wl_removeWatch (N := N) N) R
theorem yb_Pr_comes_29 {N : Nat} {o : Option Nat} {c : Nat → Nat} {m : MS} {u : CS} (R : RP o c m u) : RF 0 o VE c u (fb_Pr_comes_29 N () u) (hb_Pr_comes_29 N () m) := by
  unfold fb_Pr_comes_29 hb_Pr_comes_29
  exact rf_ret R rfl
theorem yb_Pr_comes_0 {N : Nat} {o : Option Nat} {c : Nat → Nat} {m : MS} {u : CS} (R : RP o c m u) {v0 : Nat} {v0' : Nat} {v1 : Int64} (h_v0 : PVn c v0 v0') : RF 0 o VE c u (fb_Pr_comes_0 N () u v0 v1) (hb_Pr_comes_0 N () m v0' v1) := by
  unfold fb_Pr_comes_0 hb_Pr_comes_0
  refine rf_bo (gq_7 R h_v0) ?_
  refine rf_br ?_ ?_
  · exact (yb_Pr_comes_29 R)
  · refine rf_bo (gR_P6 R h_v0) ?_
    refine rf_bo (gq_7 R h_v0) ?_
    refine rf_so ?_
    refine rf_wk (sq_6 R h_v0.1) (fun w5' w5 R_w5 => ?_)
    refine rf_bo (gq_7 R_w5 h_v0) ?_
    refine rf_w (wq_7 R_w5 h_v0) (fun w7' w7 R_w7 => ?_)
    exact (yb_Pr_comes_29 R_w7)
theorem ym_Pr_comes {N : Nat} {o : Option Nat} {c : Nat → Nat} {m : MS} {u : CS} (R : RP o c m u) {v0 : Nat} {v0' : Nat} {v1 : Int64} (h_v0 : PVn c v0 v0') : RF 0 o VE c u (fm_Pr_comes N u v0 v1) (hm_Pr_comes N m v0' v1) := yb_Pr_comes_0 (N := N) R h_v0
theorem yb_Pr_seekLink_2 {N : Nat} {o : Option Nat} {c : Nat → Nat} {m : MS} {u : CS} {G : (CS → Nat → Int32 → Int32 → Option (CS × Int32))} {G' : (MS → Nat → Int32 → Int32 → Option (MS × Int32))} (hG : ∀ (c : Nat → Nat) (m : MS) (u : CS) (v0 : Nat) (v0' : Nat) (v1 : Int32) (v2 : Int32), RP o c m u → PVn c v0 v0' → RF 0 o VE c u (G u v0 v1 v2) (G' m v0' v1 v2)) (R : RP o c m u) {v0 : Nat} {v0' : Nat} {v1 : Int32} {v2 : Int32} (h_v0 : PVn c v0 v0') : RF 0 o VE c u (fb_Pr_seekLink_2 N G u v0 v1 v2) (hb_Pr_seekLink_2 N G' m v0' v1 v2) := by
  unfold fb_Pr_seekLink_2 hb_Pr_seekLink_2
  refine rf_bo (gq_15 R h_v0) ?_
  refine rf_br ?_ ?_
  · exact rf_ret R rfl
  · refine rf_bo (gR_P14 R h_v0) ?_
    refine rf_so ?_
    refine rf_ai (aq_14 R h_v0.1) ?_
    refine rf_br ?_ ?_
    · exact rf_ret R rfl
    · exact (hG _ _ _ _ _ _ _ R h_v0)
theorem yb_Pr_seekLink_0 {N : Nat} {o : Option Nat} {c : Nat → Nat} {m : MS} {u : CS} {G : (CS → Nat → Int32 → Int32 → Option (CS × Int32))} {G' : (MS → Nat → Int32 → Int32 → Option (MS × Int32))} (hG : ∀ (c : Nat → Nat) (m : MS) (u : CS) (v0 : Nat) (v0' : Nat) (v1 : Int32) (v2 : Int32), RP o c m u → PVn c v0 v0' → RF 0 o VE c u (G u v0 v1 v2) (G' m v0' v1 v2)) (R : RP o c m u) {v0 : Nat} {v0' : Nat} {v1 : Int32} (h_v0 : PVn c v0 v0') : RF 0 o VE c u (fb_Pr_seekLink_0 N G u v0 v1) (hb_Pr_seekLink_0 N G' m v0' v1) := by
  unfold fb_Pr_seekLink_0 hb_Pr_seekLink_0
  exact (hG _ _ _ _ _ _ _ R h_v0)
theorem yg_Pr_seekLink {N : Nat} {o : Option Nat} : ∀ n, (∀ (c : Nat → Nat) (m : MS) (u : CS) (v0 : Nat) (v0' : Nat) (v1 : Int32) (v2 : Int32), RP o c m u → PVn c v0 v0' → RF 0 o VE c u ((gg_Pr_seekLink N n) u v0 v1 v2) ((hg_Pr_seekLink N n) m v0' v1 v2)) := by
  intro n
  induction n with
  | zero => exact fun c m u v0 v0' v1 v2 R h_v0 => rf_none
  | succ n ih => exact fun c m u v0 v0' v1 v2 R h_v0 => yb_Pr_seekLink_2 (N := N) ih R h_v0
theorem ym_Pr_seekLink {N : Nat} {o : Option Nat} {c : Nat → Nat} {m : MS} {u : CS} (R : RP o c m u) {v0 : Nat} {v0' : Nat} {v1 : Int32} (h_v0 : PVn c v0 v0') : RF 0 o VE c u (fm_Pr_seekLink N u v0 v1) (hm_Pr_seekLink N m v0' v1) := yb_Pr_seekLink_0 (N := N) (yg_Pr_seekLink (N := N) N) R h_v0
theorem yb_Pr_addLink_29 {N : Nat} {o : Option Nat} {c : Nat → Nat} {m : MS} {u : CS} (R : RP o c m u) : RF 0 o VE c u (fb_Pr_addLink_29 N () u) (hb_Pr_addLink_29 N () m) := by
  unfold fb_Pr_addLink_29 hb_Pr_addLink_29
  exact rf_ret R rfl
theorem yb_Pr_addLink_0 {N : Nat} {o : Option Nat} {c : Nat → Nat} {m : MS} {u : CS} (R : RP o c m u) {v0 : Nat} {v0' : Nat} {v1 : Int32} (h_v0 : PVn c v0 v0') : RF 0 o VE c u (fb_Pr_addLink_0 N () u v0 v1) (hb_Pr_addLink_0 N () m v0' v1) := by
  unfold fb_Pr_addLink_0 hb_Pr_addLink_0
  refine rf_bo (gq_15 R h_v0) ?_
  refine rf_br ?_ ?_
  · exact (yb_Pr_addLink_29 R)
  · refine rf_bo (gR_P14 R h_v0) ?_
    refine rf_bo (gq_15 R h_v0) ?_
    refine rf_so ?_
    refine rf_wk (sq_14 R h_v0.1) (fun w5' w5 R_w5 => ?_)
    refine rf_bo (gq_15 R_w5 h_v0) ?_
    refine rf_w (wq_15 R_w5 h_v0) (fun w7' w7 R_w7 => ?_)
    exact (yb_Pr_addLink_29 R_w7)
theorem ym_Pr_addLink {N : Nat} {o : Option Nat} {c : Nat → Nat} {m : MS} {u : CS} (R : RP o c m u) {v0 : Nat} {v0' : Nat} {v1 : Int32} (h_v0 : PVn c v0 v0') : RF 0 o VE c u (fm_Pr_addLink N u v0 v1) (hm_Pr_addLink N m v0' v1) := yb_Pr_addLink_0 (N := N) R h_v0
theorem yb_Wl_addWatch_50 {N : Nat} {o : Option Nat} {c : Nat → Nat} {m : MS} {u : CS} (R : RP o c m u) : RF 0 o VE c u (fb_Wl_addWatch_50 N () u) (hb_Wl_addWatch_50 N () m) := by
  unfold fb_Wl_addWatch_50 hb_Wl_addWatch_50
  exact rf_ret R rfl
theorem yb_Wl_addWatch_0 {N : Nat} {o : Option Nat} {c : Nat → Nat} {m : MS} {u : CS} (R : RP o c m u) {v1 : Int32} {v2 : Int32} {v3 : Int32} : RF 0 o VE c u (fb_Wl_addWatch_0 N () u 47 v1 v2 v3) (hb_Wl_addWatch_0 N () m v1 v2 v3) := by
  unfold fb_Wl_addWatch_0 hb_Wl_addWatch_0
  refine rf_bo (gx_47_10 R) ?_
  refine rf_br ?_ ?_
  · exact (yb_Wl_addWatch_50 R)
  · refine rf_bo (rx_47_7 R) ?_
    refine rf_bo (gx_47_10 R) ?_
    refine rf_so ?_
    refine rf_wk (sx_49 R) (fun w5' w5 R_w5 => ?_)
    refine rf_bo (rx_47_8 R_w5) ?_
    refine rf_bo (gx_47_10 R_w5) ?_
    refine rf_so ?_
    refine rf_wk (sx_50 R_w5) (fun w9' w9 R_w9 => ?_)
    refine rf_bo (rx_47_9 R_w9) ?_
    refine rf_bo (gx_47_10 R_w9) ?_
    refine rf_so ?_
    refine rf_wk (sx_51 R_w9) (fun w13' w13 R_w13 => ?_)
    refine rf_bo (gx_47_10 R_w13) ?_
    refine rf_w (px_47_10 R_w13) (fun w15' w15 R_w15 => ?_)
    exact (yb_Wl_addWatch_50 R_w15)
theorem ym_Wl_addWatch {N : Nat} {o : Option Nat} {c : Nat → Nat} {m : MS} {u : CS} (R : RP o c m u) {v1 : Int32} {v2 : Int32} {v3 : Int32} : RF 0 o VE c u (fm_Wl_addWatch N u 47 v1 v2 v3) (hm_Wl_addWatch N m v1 v2 v3) := yb_Wl_addWatch_0 (N := N) R
theorem yb_Ma_endList_20 {N : Nat} {p : Nat} {c : Nat → Nat} {m : MS} {u : CS} (R : RP (some p) c m u) {v1 : Int32} {v2 : Int32} : RF 0 (some p) VE c u (fb_Ma_endList_20 N () u 55 v1 v2) (hb_Ma_endList_20 N () m p v1 v2) := by
  unfold fb_Ma_endList_20 hb_Ma_endList_20
  refine rf_bo (gR_M3 R) ?_
  refine rf_soP R.md (fun j2 h_j2 => ?_)
  refine rf_w (wq_4 R h_j2) (fun w3' w3 R_w3 => ?_)
  exact rf_ret R_w3 rfl
theorem yb_Ma_endList_0 {N : Nat} {p : Nat} {c : Nat → Nat} {m : MS} {u : CS} (R : RP (some p) c m u) {v1 : Int32} {v2 : Int32} {v3 : Int64} : RF 0 (some p) VE c u (fb_Ma_endList_0 N () u 55 v1 v2 v3) (hb_Ma_endList_0 N () m p v1 v2 v3) := by
  unfold fb_Ma_endList_0 hb_Ma_endList_0
  refine rf_br ?_ ?_
  · exact (yb_Ma_endList_20 R)
  · refine rf_bo (gR_M3 R) ?_
    refine rf_soP R.md (fun j5 h_j5 => ?_)
    refine rf_bo (gR_P2 R h_j5) ?_
    refine rf_so ?_
    refine rf_wk (sq_2 R h_j5.1) (fun w8' w8 R_w8 => ?_)
    exact (yb_Ma_endList_20 R_w8)
theorem ym_Ma_endList {N : Nat} {p : Nat} {c : Nat → Nat} {m : MS} {u : CS} (R : RP (some p) c m u) {v1 : Int32} {v2 : Int32} {v3 : Int64} : RF 0 (some p) VE c u (fm_Ma_endList N u 55 v1 v2 v3) (hm_Ma_endList N m p v1 v2 v3) := yb_Ma_endList_0 (N := N) R
theorem yb_Fr_termOf_7 {N : Nat} {o : Option Nat} {c : Nat → Nat} {m : MS} {u : CS} {G : (CS → Nat → Int32 → Int32 → Option (CS × Int64))} {G' : (MS → Nat → Int32 → Int32 → Option (MS × Int64))} (hG : ∀ (c : Nat → Nat) (m : MS) (u : CS) (v0 : Nat) (v0' : Nat) (v1 : Int32) (v2 : Int32), RP o c m u → FVn c v0 v0' → RF 0 o VE c u (G u v0 v1 v2) (G' m v0' v1 v2)) (R : RP o c m u) {v0 : Nat} {v0' : Nat} {v1 : Int32} {v2 : Int32} (h_v0 : FVn c v0 v0') : RF 0 o VE c u (fb_Fr_termOf_7 N G u v0 v1 v2) (hb_Fr_termOf_7 N G' m v0' v1 v2) := by
  unfold fb_Fr_termOf_7 hb_Fr_termOf_7
  refine rf_br ?_ ?_
  · exact rf_ret R rfl
  · refine rf_bo (gR_F2 R h_v0) ?_
    refine rf_so ?_
    refine rf_ai (aq_32 R h_v0.1) ?_
    refine rf_br ?_ ?_
    · refine rf_bo (gR_F3 R h_v0) ?_
      refine rf_so ?_
      refine rf_ai (aq_33 R h_v0.1) ?_
      exact rf_ret R rfl
    · exact (hG _ _ _ _ _ _ _ R h_v0)
theorem yb_Fr_termOf_0 {N : Nat} {o : Option Nat} {c : Nat → Nat} {m : MS} {u : CS} {G : (CS → Nat → Int32 → Int32 → Option (CS × Int64))} {G' : (MS → Nat → Int32 → Int32 → Option (MS × Int64))} (hG : ∀ (c : Nat → Nat) (m : MS) (u : CS) (v0 : Nat) (v0' : Nat) (v1 : Int32) (v2 : Int32), RP o c m u → FVn c v0 v0' → RF 0 o VE c u (G u v0 v1 v2) (G' m v0' v1 v2)) (R : RP o c m u) {v0 : Nat} {v0' : Nat} {v1 : Int32} (h_v0 : FVn c v0 v0') : RF 0 o VE c u (fb_Fr_termOf_0 N G u v0 v1) (hb_Fr_termOf_0 N G' m v0' v1) := by
  unfold fb_Fr_termOf_0 hb_Fr_termOf_0
  refine rf_bo (gf_4 R h_v0) ?_
  exact (hG _ _ _ _ _ _ _ R h_v0)
theorem yg_Fr_termOf {N : Nat} {o : Option Nat} : ∀ n, (∀ (c : Nat → Nat) (m : MS) (u : CS) (v0 : Nat) (v0' : Nat) (v1 : Int32) (v2 : Int32), RP o c m u → FVn c v0 v0' → RF 0 o VE c u ((gg_Fr_termOf N n) u v0 v1 v2) ((hg_Fr_termOf N n) m v0' v1 v2)) := by
  intro n
  induction n with
  | zero => exact fun c m u v0 v0' v1 v2 R h_v0 => rf_none
  | succ n ih => exact fun c m u v0 v0' v1 v2 R h_v0 => yb_Fr_termOf_7 (N := N) ih R h_v0
theorem ym_Fr_termOf {N : Nat} {o : Option Nat} {c : Nat → Nat} {m : MS} {u : CS} (R : RP o c m u) {v0 : Nat} {v0' : Nat} {v1 : Int32} (h_v0 : FVn c v0 v0') : RF 0 o VE c u (fm_Fr_termOf N u v0 v1) (hm_Fr_termOf N m v0' v1) := yb_Fr_termOf_0 (N := N) (yg_Fr_termOf (N := N) N) R h_v0
theorem yb_Ma_sizes_5 {N : Nat} {p : Nat} {c : Nat → Nat} {m : MS} {u : CS} {G : (CS → Nat → Int32 → Int32 → Int32 → Option (CS × Int32))} {G' : (MS → Nat → Int32 → Int32 → Int32 → Option (MS × Int32))} (hG : ∀ (c : Nat → Nat) (m : MS) (u : CS) (v1 : Int32) (v3 : Int32) (v4 : Int32), RP (some p) c m u → RF 0 (some p) VE c u (G u 55 v1 v3 v4) (G' m p v1 v3 v4)) (R : RP (some p) c m u) {v1 : Int32} {v3 : Int32} {v4 : Int32} : RF 0 (some p) VE c u (fb_Ma_sizes_5 N G u 55 v1 v3 v4) (hb_Ma_sizes_5 N G' m p v1 v3 v4) := by
  unfold fb_Ma_sizes_5 hb_Ma_sizes_5
  refine rf_br ?_ ?_
  · exact rf_ret R rfl
  · refine rf_bo (rx_55_2 R) ?_
    refine rf_bo (gR_M3 R) ?_
    refine rf_soP R.md (fun j3 h_j3 => ?_)
    refine rf_bo (gR_P2 R h_j3) ?_
    refine rf_bo (gR_M4 R) ?_
    refine rf_soF R.md (fun j7 h_j7 => ?_)
    refine rf_ck (io_F R h_j7) ?_
    refine rf_bx0 (ym_Fr_below R h_j7) (fun u6' u6 r6 R_u6 => ?_)
    refine rf_so ?_
    refine rf_ck (ox_43 R_u6) ?_
    refine rf_bx0 (ym_Te_size R_u6 ⟨_, h_j3.1, rfl, rfl⟩) (fun u8' u8 r8 R_u8 => ?_)
    exact (hG _ _ _ _ _ _ R_u8)
theorem yb_Ma_sizes_0 {N : Nat} {p : Nat} {c : Nat → Nat} {m : MS} {u : CS} {G : (CS → Nat → Int32 → Int32 → Int32 → Option (CS × Int32))} {G' : (MS → Nat → Int32 → Int32 → Int32 → Option (MS × Int32))} (hG : ∀ (c : Nat → Nat) (m : MS) (u : CS) (v1 : Int32) (v3 : Int32) (v4 : Int32), RP (some p) c m u → RF 0 (some p) VE c u (G u 55 v1 v3 v4) (G' m p v1 v3 v4)) (R : RP (some p) c m u) {v1 : Int32} {v2 : Int32} : RF 0 (some p) VE c u (fb_Ma_sizes_0 N G u 55 v1 v2) (hb_Ma_sizes_0 N G' m p v1 v2) := by
  unfold fb_Ma_sizes_0 hb_Ma_sizes_0
  exact (hG _ _ _ _ _ _ R)
theorem yg_Ma_sizes {N : Nat} {p : Nat} : ∀ n, (∀ (c : Nat → Nat) (m : MS) (u : CS) (v1 : Int32) (v3 : Int32) (v4 : Int32), RP (some p) c m u → RF 0 (some p) VE c u ((gg_Ma_sizes N n) u 55 v1 v3 v4) ((hg_Ma_sizes N n) m p v1 v3 v4)) := by
  intro n
  induction n with
  | zero => exact fun c m u v1 v3 v4 R => rf_none
  | succ n ih => exact fun c m u v1 v3 v4 R => yb_Ma_sizes_5 (N := N) ih R
theorem ym_Ma_sizes {N : Nat} {p : Nat} {c : Nat → Nat} {m : MS} {u : CS} (R : RP (some p) c m u) {v1 : Int32} {v2 : Int32} : RF 0 (some p) VE c u (fm_Ma_sizes N u 55 v1 v2) (hm_Ma_sizes N m p v1 v2) := yb_Ma_sizes_0 (N := N) (yg_Ma_sizes (N := N) N) R
theorem yb_Wo_order_94 {N : Nat} {o : Option Nat} {c : Nat → Nat} {m : MS} {u : CS} {G : (CS → Nat → Int32 → Int32 → Int32 → Int32 → Int32 → Option (CS × Int32))} {G' : (MS → Nat → Int32 → Int32 → Int32 → Int32 → Int32 → Option (MS × Int32))} (hG : ∀ (c : Nat → Nat) (m : MS) (u : CS) (v0 : Nat) (v1 : Int32) (v2 : Int32) (v3 : Int32) (v4 : Int32) (v5 : Int32), RP o c m u → isWd v0 → RF 0 o VE c u (G u v0 v1 v2 v3 v4 v5) (G' m v0 v1 v2 v3 v4 v5)) (R : RP o c m u) {v3 : Int32} {v4 : Int32} : RF 0 o VE c u (fb_Wo_order_94 N G u v3 v4) (hb_Wo_order_94 N G' m v3 v4) := by
  unfold fb_Wo_order_94 hb_Wo_order_94
  exact rf_ret R rfl
theorem yb_Wo_order_36 {N : Nat} {o : Option Nat} {c : Nat → Nat} {m : MS} {u : CS} {G : (CS → Nat → Int32 → Int32 → Int32 → Int32 → Int32 → Option (CS × Int32))} {G' : (MS → Nat → Int32 → Int32 → Int32 → Int32 → Int32 → Option (MS × Int32))} (hG : ∀ (c : Nat → Nat) (m : MS) (u : CS) (v0 : Nat) (v1 : Int32) (v2 : Int32) (v3 : Int32) (v4 : Int32) (v5 : Int32), RP o c m u → isWd v0 → RF 0 o VE c u (G u v0 v1 v2 v3 v4 v5) (G' m v0 v1 v2 v3 v4 v5)) (R : RP o c m u) {v0 : Nat} {v1 : Int32} {v2 : Int32} {v3 : Int32} {v4 : Int32} {v5 : Int32} (h_v0 : isWd v0) : RF 0 o VE c u (fb_Wo_order_36 N G u v0 v1 v2 v3 v4 v5) (hb_Wo_order_36 N G' m v0 v1 v2 v3 v4 v5) := by
  unfold fb_Wo_order_36 hb_Wo_order_36
  refine rf_br ?_ ?_
  · exact (yb_Wo_order_94 hG R)
  · refine rf_br ?_ ?_
    · exact (yb_Wo_order_94 hG R)
    · refine rf_bo (gr_W0 R h_v0) ?_
      refine rf_bo (gr_W1 R h_v0) ?_
      refine rf_so ?_
      refine rf_ai (ai_W R h_v0) ?_
      refine rf_so ?_
      refine rf_ai (ai_B R (By_w h_v0)) ?_
      refine rf_bo (gr_W0 R h_v0) ?_
      refine rf_bo (gr_W1 R h_v0) ?_
      refine rf_so ?_
      refine rf_ai (ai_W R h_v0) ?_
      refine rf_so ?_
      refine rf_ai (ai_B R (By_w h_v0)) ?_
      refine rf_br ?_ ?_
      · exact (hG _ _ _ _ _ _ _ _ _ R h_v0)
      · exact rf_ret R rfl
theorem yb_Wo_order_0 {N : Nat} {o : Option Nat} {c : Nat → Nat} {m : MS} {u : CS} {G : (CS → Nat → Int32 → Int32 → Int32 → Int32 → Int32 → Option (CS × Int32))} {G' : (MS → Nat → Int32 → Int32 → Int32 → Int32 → Int32 → Option (MS × Int32))} (hG : ∀ (c : Nat → Nat) (m : MS) (u : CS) (v0 : Nat) (v1 : Int32) (v2 : Int32) (v3 : Int32) (v4 : Int32) (v5 : Int32), RP o c m u → isWd v0 → RF 0 o VE c u (G u v0 v1 v2 v3 v4 v5) (G' m v0 v1 v2 v3 v4 v5)) (R : RP o c m u) {v0 : Nat} {v1 : Int32} {v2 : Int32} (h_v0 : isWd v0) : RF 0 o VE c u (fb_Wo_order_0 N G u v0 v1 v2) (hb_Wo_order_0 N G' m v0 v1 v2) := by
  unfold fb_Wo_order_0 hb_Wo_order_0
  refine rf_bo (gr_W1 R h_v0) ?_
  refine rf_so ?_
  refine rf_ai (ai_W R h_v0) ?_
  refine rf_bo (gr_W1 R h_v0) ?_
  refine rf_so ?_
  refine rf_ai (ai_W R h_v0) ?_
  refine rf_bo (gr_W1 R h_v0) ?_
  refine rf_so ?_
  refine rf_ai (ai_W R h_v0) ?_
  refine rf_bo (gr_W1 R h_v0) ?_
  refine rf_so ?_
  refine rf_ai (ai_W R h_v0) ?_
  exact (hG _ _ _ _ _ _ _ _ _ R h_v0)
theorem yg_Wo_order {N : Nat} {o : Option Nat} : ∀ n, (∀ (c : Nat → Nat) (m : MS) (u : CS) (v0 : Nat) (v1 : Int32) (v2 : Int32) (v3 : Int32) (v4 : Int32) (v5 : Int32), RP o c m u → isWd v0 → RF 0 o VE c u ((gg_Wo_order N n) u v0 v1 v2 v3 v4 v5) ((hg_Wo_order N n) m v0 v1 v2 v3 v4 v5)) := by
  intro n
  induction n with
  | zero => exact fun c m u v0 v1 v2 v3 v4 v5 R h_v0 => rf_none
  | succ n ih => exact fun c m u v0 v1 v2 v3 v4 v5 R h_v0 => yb_Wo_order_36 (N := N) ih R h_v0
theorem ym_Wo_order {N : Nat} {o : Option Nat} {c : Nat → Nat} {m : MS} {u : CS} (R : RP o c m u) {v0 : Nat} {v1 : Int32} {v2 : Int32} (h_v0 : isWd v0) : RF 0 o VE c u (fm_Wo_order N u v0 v1 v2) (hm_Wo_order N m v0 v1 v2) := yb_Wo_order_0 (N := N) (yg_Wo_order (N := N) N) R h_v0
theorem yb_Te_partsOf_28 {N : Nat} {o : Option Nat} {c : Nat → Nat} {m : MS} {u : CS} (R : RP o c m u) {t0 : Int32} : RF 0 o VE c u (fb_Te_partsOf_28 N () u t0) (hb_Te_partsOf_28 N () m t0) := by
  unfold fb_Te_partsOf_28 hb_Te_partsOf_28
  exact rf_ret R rfl
theorem yb_Te_partsOf_0 {N : Nat} {o : Option Nat} {c : Nat → Nat} {m : MS} {u : CS} (R : RP o c m u) {v0 : Int64} {v2 : Int32} : RF 0 o VE c u (fb_Te_partsOf_0 N () u v0 v2) (hb_Te_partsOf_0 N () m v0 v2) := by
  unfold fb_Te_partsOf_0 hb_Te_partsOf_0
  refine rf_bx0 (ym_Te_tag R) (fun u1' u1 r1 R_u1 => ?_)
  refine rf_br ?_ ?_
  · exact (yb_Te_partsOf_28 R_u1)
  · refine rf_br ?_ ?_
    · exact (yb_Te_partsOf_28 R_u1)
    · exact (yb_Te_partsOf_28 R_u1)
theorem ym_Te_partsOf {N : Nat} {o : Option Nat} {c : Nat → Nat} {m : MS} {u : CS} (R : RP o c m u) {v0 : Int64} {v2 : Int32} : RF 0 o VE c u (fm_Te_partsOf N u v0 v2) (hm_Te_partsOf N m v0 v2) := yb_Te_partsOf_0 (N := N) R
theorem yb_Ma_holds_119 {N : Nat} {o : Option Nat} {c : Nat → Nat} {m : MS} {u : CS} (R : RP o c m u) {t0 : Int32} : RF 0 o VE c u (fb_Ma_holds_119 N () u t0) (hb_Ma_holds_119 N () m t0) := by
  unfold fb_Ma_holds_119 hb_Ma_holds_119
  refine rf_ckk ?_
  exact rf_ret R rfl
theorem yb_Ma_holds_109 {N : Nat} {o : Option Nat} {c : Nat → Nat} {m : MS} {u : CS} (R : RP o c m u) {t0 : Int32} : RF 0 o VE c u (fb_Ma_holds_109 N () u t0) (hb_Ma_holds_109 N () m t0) := by
  unfold fb_Ma_holds_109 hb_Ma_holds_109
  refine rf_ckk ?_
  exact rf_ret R rfl
theorem yb_Ma_holds_99 {N : Nat} {o : Option Nat} {c : Nat → Nat} {m : MS} {u : CS} (R : RP o c m u) {t0 : Int32} : RF 0 o VE c u (fb_Ma_holds_99 N () u t0) (hb_Ma_holds_99 N () m t0) := by
  unfold fb_Ma_holds_99 hb_Ma_holds_99
  refine rf_ckk ?_
  exact rf_ret R rfl
theorem yb_Ma_holds_89 {N : Nat} {o : Option Nat} {c : Nat → Nat} {m : MS} {u : CS} (R : RP o c m u) {t0 : Int32} : RF 0 o VE c u (fb_Ma_holds_89 N () u t0) (hb_Ma_holds_89 N () m t0) := by
  unfold fb_Ma_holds_89 hb_Ma_holds_89
  refine rf_ckk ?_
  exact rf_ret R rfl
theorem yb_Ma_holds_79 {N : Nat} {o : Option Nat} {c : Nat → Nat} {m : MS} {u : CS} (R : RP o c m u) {t0 : Int32} : RF 0 o VE c u (fb_Ma_holds_79 N () u t0) (hb_Ma_holds_79 N () m t0) := by
  unfold fb_Ma_holds_79 hb_Ma_holds_79
  refine rf_ckk ?_
  exact rf_ret R rfl
theorem yb_Ma_holds_69 {N : Nat} {o : Option Nat} {c : Nat → Nat} {m : MS} {u : CS} (R : RP o c m u) {t0 : Int32} : RF 0 o VE c u (fb_Ma_holds_69 N () u t0) (hb_Ma_holds_69 N () m t0) := by
  unfold fb_Ma_holds_69 hb_Ma_holds_69
  refine rf_ckk ?_
  exact rf_ret R rfl
theorem yb_Ma_holds_0 {N : Nat} {o : Option Nat} {c : Nat → Nat} {m : MS} {u : CS} (R : RP o c m u) {v0 : Int32} {v1 : Int32} : RF 0 o VE c u (fb_Ma_holds_0 N () u v0 v1) (hb_Ma_holds_0 N () m v0 v1) := by
  unfold fb_Ma_holds_0 hb_Ma_holds_0
  refine rf_br ?_ ?_
  · refine rf_br ?_ ?_
    · exact (yb_Ma_holds_89 R)
    · exact (yb_Ma_holds_89 R)
  · refine rf_br ?_ ?_
    · refine rf_br ?_ ?_
      · exact (yb_Ma_holds_109 R)
      · exact (yb_Ma_holds_109 R)
    · refine rf_br ?_ ?_
      · refine rf_br ?_ ?_
        · exact (yb_Ma_holds_119 R)
        · exact (yb_Ma_holds_119 R)
      · refine rf_br ?_ ?_
        · refine rf_br ?_ ?_
          · exact (yb_Ma_holds_119 R)
          · exact (yb_Ma_holds_119 R)
        · refine rf_br ?_ ?_
          · refine rf_br ?_ ?_
            · exact (yb_Ma_holds_119 R)
            · exact (yb_Ma_holds_119 R)
          · refine rf_br ?_ ?_
            · refine rf_br ?_ ?_
              · exact (yb_Ma_holds_119 R)
              · exact (yb_Ma_holds_119 R)
            · refine rf_br ?_ ?_
              · refine rf_br ?_ ?_
                · exact (yb_Ma_holds_119 R)
                · exact (yb_Ma_holds_119 R)
              · refine rf_br ?_ ?_
                · refine rf_br ?_ ?_
                  · exact (yb_Ma_holds_119 R)
                  · exact (yb_Ma_holds_119 R)
                · refine rf_br ?_ ?_
                  · refine rf_br ?_ ?_
                    · exact (yb_Ma_holds_69 R)
                    · exact (yb_Ma_holds_69 R)
                  · refine rf_br ?_ ?_
                    · refine rf_br ?_ ?_
                      · exact (yb_Ma_holds_79 R)
                      · exact (yb_Ma_holds_79 R)
                    · refine rf_br ?_ ?_
                      · refine rf_br ?_ ?_
                        · exact (yb_Ma_holds_99 R)
                        · exact (yb_Ma_holds_99 R)
                      · refine rf_br ?_ ?_
                        · exact (yb_Ma_holds_119 R)
                        · exact (yb_Ma_holds_119 R)
theorem ym_Ma_holds {N : Nat} {o : Option Nat} {c : Nat → Nat} {m : MS} {u : CS} (R : RP o c m u) {v0 : Int32} {v1 : Int32} : RF 0 o VE c u (fm_Ma_holds N u v0 v1) (hm_Ma_holds N m v0 v1) := yb_Ma_holds_0 (N := N) R
theorem yb_Ma_fitsString_107 {N : Nat} {p : Nat} {c : Nat → Nat} {m : MS} {u : CS} {G : (CS → Nat → Int32 → Int64 → Int32 → Int32 → Option (CS × Int32))} {G' : (MS → Nat → Int32 → Int64 → Int32 → Int32 → Option (MS × Int32))} (hG : ∀ (c : Nat → Nat) (m : MS) (u : CS) (v1 : Int32) (v4 : Int64) (v6 : Int32) (v7 : Int32), RP (some p) c m u → RF 0 (some p) VE c u (G u 55 v1 v4 v6 v7) (G' m p v1 v4 v6 v7)) (R : RP (some p) c m u) {t0 : Int32} : RF 0 (some p) VE c u (fb_Ma_fitsString_107 N G u t0) (hb_Ma_fitsString_107 N G' m p t0) := by
  unfold fb_Ma_fitsString_107 hb_Ma_fitsString_107
  refine rf_ckk ?_
  exact rf_ret R rfl
theorem yb_Ma_fitsString_18 {N : Nat} {p : Nat} {c : Nat → Nat} {m : MS} {u : CS} {G : (CS → Nat → Int32 → Int64 → Int32 → Int32 → Option (CS × Int32))} {G' : (MS → Nat → Int32 → Int64 → Int32 → Int32 → Option (MS × Int32))} (hG : ∀ (c : Nat → Nat) (m : MS) (u : CS) (v1 : Int32) (v4 : Int64) (v6 : Int32) (v7 : Int32), RP (some p) c m u → RF 0 (some p) VE c u (G u 55 v1 v4 v6 v7) (G' m p v1 v4 v6 v7)) (R : RP (some p) c m u) {v1 : Int32} {v4 : Int64} {v6 : Int32} {v7 : Int32} : RF 0 (some p) VE c u (fb_Ma_fitsString_18 N G u 55 v1 v4 v6 v7) (hb_Ma_fitsString_18 N G' m p v1 v4 v6 v7) := by
  unfold fb_Ma_fitsString_18 hb_Ma_fitsString_18
  refine rf_br ?_ ?_
  · refine rf_bx0 (ym_Te_tag R) (fun u1' u1 r1 R_u1 => ?_)
    refine rf_br ?_ ?_
    · exact (yb_Ma_fitsString_107 hG R_u1)
    · exact (yb_Ma_fitsString_107 hG R_u1)
  · refine rf_bx0 (ym_Te_tag R) (fun u2' u2 r2 R_u2 => ?_)
    refine rf_br ?_ ?_
    · refine rf_bo (gR_M3 R_u2) ?_
      refine rf_soP R_u2.md (fun j4 h_j4 => ?_)
      refine rf_bo (gR_P2 R_u2 h_j4) ?_
      refine rf_so ?_
      refine rf_ai (aq_2 R_u2 h_j4.1) ?_
      refine rf_bo (rx_55_0 R_u2) ?_
      refine rf_so ?_
      refine rf_ck (ox_22 R_u2) ?_
      refine rf_bx0 (ym_Co_at R_u2) (fun u9' u9 r9 R_u9 => ?_)
      refine rf_bx0 (ym_Te_make R_u9) (fun u11' u11 r11 R_u11 => ?_)
      refine rf_br ?_ ?_
      · refine rf_bo (gR_M3 R_u11) ?_
        refine rf_soP R_u11.md (fun j13 h_j13 => ?_)
        refine rf_bo (gR_P2 R_u11 h_j13) ?_
        refine rf_so ?_
        refine rf_ai (aq_2 R_u11 h_j13.1) ?_
        exact (hG _ _ _ _ _ _ _ R_u11)
      · refine rf_ckk ?_
        exact rf_ret R_u11 rfl
    · refine rf_ckk ?_
      exact rf_ret R_u2 rfl
theorem yb_Ma_fitsString_0 {N : Nat} {p : Nat} {c : Nat → Nat} {m : MS} {u : CS} {G : (CS → Nat → Int32 → Int64 → Int32 → Int32 → Option (CS × Int32))} {G' : (MS → Nat → Int32 → Int64 → Int32 → Int32 → Option (MS × Int32))} (hG : ∀ (c : Nat → Nat) (m : MS) (u : CS) (v1 : Int32) (v4 : Int64) (v6 : Int32) (v7 : Int32), RP (some p) c m u → RF 0 (some p) VE c u (G u 55 v1 v4 v6 v7) (G' m p v1 v4 v6 v7)) (R : RP (some p) c m u) {v1 : Int32} {v2 : Int64} : RF 0 (some p) VE c u (fb_Ma_fitsString_0 N G u 55 v1 v2) (hb_Ma_fitsString_0 N G' m p v1 v2) := by
  unfold fb_Ma_fitsString_0 hb_Ma_fitsString_0
  refine rf_bo (rx_55_0 R) ?_
  refine rf_so ?_
  refine rf_ck (ox_22 R) ?_
  refine rf_bx0 (ym_Co_at R) (fun u18' u18 r18 R_u18 => ?_)
  exact (hG _ _ _ _ _ _ _ R_u18)
theorem yg_Ma_fitsString {N : Nat} {p : Nat} : ∀ n, (∀ (c : Nat → Nat) (m : MS) (u : CS) (v1 : Int32) (v4 : Int64) (v6 : Int32) (v7 : Int32), RP (some p) c m u → RF 0 (some p) VE c u ((gg_Ma_fitsString N n) u 55 v1 v4 v6 v7) ((hg_Ma_fitsString N n) m p v1 v4 v6 v7)) := by
  intro n
  induction n with
  | zero => exact fun c m u v1 v4 v6 v7 R => rf_none
  | succ n ih => exact fun c m u v1 v4 v6 v7 R => yb_Ma_fitsString_18 (N := N) ih R
theorem ym_Ma_fitsString {N : Nat} {p : Nat} {c : Nat → Nat} {m : MS} {u : CS} (R : RP (some p) c m u) {v1 : Int32} {v2 : Int64} : RF 0 (some p) VE c u (fm_Ma_fitsString N u 55 v1 v2) (hm_Ma_fitsString N m p v1 v2) := yb_Ma_fitsString_0 (N := N) (yg_Ma_fitsString (N := N) N) R
theorem yb_Fr_setLine_0 {N : Nat} {o : Option Nat} {c : Nat → Nat} {m : MS} {u : CS} (R : RP o c m u) {v0 : Nat} {v0' : Nat} {v1 : Int32} (h_v0 : FVn c v0 v0') : RF 0 o VE c u (fb_Fr_setLine_0 N () u v0 v1) (hb_Fr_setLine_0 N () m v0' v1) := by
  unfold fb_Fr_setLine_0 hb_Fr_setLine_0
  refine rf_ck (io_F R h_v0) ?_
  refine rf_bx0 (ym_Fr_set R h_v0) (fun u1' u1 r1 R_u1 => ?_)
  exact rf_ret R_u1 rfl
theorem ym_Fr_setLine {N : Nat} {o : Option Nat} {c : Nat → Nat} {m : MS} {u : CS} (R : RP o c m u) {v0 : Nat} {v0' : Nat} {v1 : Int32} (h_v0 : FVn c v0 v0') : RF 0 o VE c u (fm_Fr_setLine N u v0 v1) (hm_Fr_setLine N m v0' v1) := yb_Fr_setLine_0 (N := N) R h_v0
theorem yb_Ma_begins_57 {N : Nat} {p : Nat} {c : Nat → Nat} {m : MS} {u : CS} (R : RP (some p) c m u) : RF 0 (some p) VE c u (fb_Ma_begins_57 N () u 55) (hb_Ma_begins_57 N () m p) := by
  unfold fb_Ma_begins_57 hb_Ma_begins_57
  refine rf_bo (gx_55_6 R) ?_
  refine rf_w (px_55_6 R) (fun w2' w2 R_w2 => ?_)
  refine rf_bo (gR_M3 R_w2) ?_
  refine rf_soP R_w2.md (fun j4 h_j4 => ?_)
  refine rf_bo (gq_13 R_w2 h_j4) ?_
  refine rf_w (wq_13 R_w2 h_j4) (fun w6' w6 R_w6 => ?_)
  refine rf_bo (rx_55_1 R_w6) ?_
  refine rf_so ?_
  refine rf_bo (gx_47_6 R_w6) ?_
  refine rf_w (px_47_6 R_w6) (fun w10' w10 R_w10 => ?_)
  refine rf_ckk ?_
  exact rf_ret R_w10 rfl
theorem yb_Ma_begins_0 {N : Nat} {p : Nat} {c : Nat → Nat} {m : MS} {u : CS} (R : RP (some p) c m u) {v1 : Int32} {v2 : Int32} : RF 0 (some p) VE c u (fb_Ma_begins_0 N () u 55 v1 v2) (hb_Ma_begins_0 N () m p v1 v2) := by
  unfold fb_Ma_begins_0 hb_Ma_begins_0
  refine rf_bo (gx_55_6 R) ?_
  refine rf_bo (gx_55_7 R) ?_
  refine rf_br ?_ ?_
  · refine rf_br ?_ ?_
    · refine rf_bo (gR_M4 R) ?_
      refine rf_soF R.md (fun j14 h_j14 => ?_)
      refine rf_bo (gf_1 R h_j14) ?_
      refine rf_br ?_ ?_
      · exact (yb_Ma_begins_57 R)
      · refine rf_bo (rx_55_1 R) ?_
        refine rf_bo (gR_M3 R) ?_
        refine rf_so ?_
        refine rf_ck (ox_47 R) ?_
        refine rf_bx0 (ym_Wl_endsBy R ⟨R.md, rfl⟩) (fun u18' u18 r18 R_u18 => ?_)
        refine rf_ckk ?_
        exact rf_ret R_u18 rfl
    · exact (yb_Ma_begins_57 R)
  · refine rf_w (px_55_8 R) (fun w20' w20 R_w20 => ?_)
    refine rf_bo (gR_M4 R_w20) ?_
    refine rf_soF R_w20.md (fun j22 h_j22 => ?_)
    refine rf_w (wf_9 R_w20 h_j22) (fun w23' w23 R_w23 => ?_)
    refine rf_ckk ?_
    exact rf_ret R_w23 rfl
theorem ym_Ma_begins {N : Nat} {p : Nat} {c : Nat → Nat} {m : MS} {u : CS} (R : RP (some p) c m u) {v1 : Int32} {v2 : Int32} : RF 0 (some p) VE c u (fm_Ma_begins N u 55 v1 v2) (hm_Ma_begins N m p v1 v2) := yb_Ma_begins_0 (N := N) R
theorem yb_Fr_setPlace_0 {N : Nat} {o : Option Nat} {c : Nat → Nat} {m : MS} {u : CS} (R : RP o c m u) {v0 : Nat} {v0' : Nat} {v1 : Int32} (h_v0 : FVn c v0 v0') : RF 0 o VE c u (fb_Fr_setPlace_0 N () u v0 v1) (hb_Fr_setPlace_0 N () m v0' v1) := by
  unfold fb_Fr_setPlace_0 hb_Fr_setPlace_0
  refine rf_ck (io_F R h_v0) ?_
  refine rf_bx0 (ym_Fr_set R h_v0) (fun u1' u1 r1 R_u1 => ?_)
  exact rf_ret R_u1 rfl
theorem ym_Fr_setPlace {N : Nat} {o : Option Nat} {c : Nat → Nat} {m : MS} {u : CS} (R : RP o c m u) {v0 : Nat} {v0' : Nat} {v1 : Int32} (h_v0 : FVn c v0 v0') : RF 0 o VE c u (fm_Fr_setPlace N u v0 v1) (hm_Fr_setPlace N m v0' v1) := yb_Fr_setPlace_0 (N := N) R h_v0
theorem yb_Ma_nextMessage_78 {N : Nat} {p : Nat} {c : Nat → Nat} {m : MS} {u : CS} (R : RP (some p) c m u) : RF 0 (some p) VE c u (fb_Ma_nextMessage_78 N () u) (hb_Ma_nextMessage_78 N () m p) := by
  unfold fb_Ma_nextMessage_78 hb_Ma_nextMessage_78
  exact rf_ret R rfl
theorem yb_Ma_nextMessage_0 {N : Nat} {p : Nat} {c : Nat → Nat} {m : MS} {u : CS} (R : RP (some p) c m u) {v1 : Int32} : RF 0 (some p) VE c u (fb_Ma_nextMessage_0 N () u 55 v1) (hb_Ma_nextMessage_0 N () m p v1) := by
  unfold fb_Ma_nextMessage_0 hb_Ma_nextMessage_0
  refine rf_bo (gR_M3 R) ?_
  refine rf_soP R.md (fun j2 h_j2 => ?_)
  refine rf_bo (gq_8 R h_j2) ?_
  refine rf_bo (gR_M3 R) ?_
  refine rf_soP R.md (fun j5 h_j5 => ?_)
  refine rf_bo (gq_7 R h_j5) ?_
  refine rf_br ?_ ?_
  · refine rf_bo (rx_55_1 R) ?_
    refine rf_bo (gR_M3 R) ?_
    refine rf_so ?_
    refine rf_ck (ox_47 R) ?_
    refine rf_bx0 (ym_Wl_isReady R ⟨R.md, rfl⟩) (fun u9' u9 r9 R_u9 => ?_)
    refine rf_br ?_ ?_
    · refine rf_bo (gR_M3 R_u9) ?_
      refine rf_soP R_u9.md (fun j12 h_j12 => ?_)
      refine rf_w (wq_9 R_u9 h_j12) (fun w13' w13 R_w13 => ?_)
      exact (yb_Ma_nextMessage_78 R_w13)
    · refine rf_bo (gR_M3 R_u9) ?_
      refine rf_soP R_u9.md (fun j15 h_j15 => ?_)
      refine rf_w (wq_8 R_u9 h_j15) (fun w16' w16 R_w16 => ?_)
      refine rf_bo (gR_M3 R_w16) ?_
      refine rf_soP R_w16.md (fun j18 h_j18 => ?_)
      refine rf_w (lq_10 R_w16 h_j18) (fun w19' w19 R_w19 => ?_)
      refine rf_w (px_55_5 R_w19) (fun w20' w20 R_w20 => ?_)
      exact (yb_Ma_nextMessage_78 R_w20)
  · refine rf_bo (gx_55_5 R) ?_
    refine rf_w (px_55_5 R) (fun w22' w22 R_w22 => ?_)
    exact (yb_Ma_nextMessage_78 R_w22)
theorem ym_Ma_nextMessage {N : Nat} {p : Nat} {c : Nat → Nat} {m : MS} {u : CS} (R : RP (some p) c m u) {v1 : Int32} : RF 0 (some p) VE c u (fm_Ma_nextMessage N u 55 v1) (hm_Ma_nextMessage N m p v1) := yb_Ma_nextMessage_0 (N := N) R
theorem yb_Fr_leave_0 {N : Nat} {o : Option Nat} {c : Nat → Nat} {m : MS} {u : CS} (R : RP o c m u) {v0 : Nat} {v0' : Nat} (h_v0 : FVn c v0 v0') : RF 0 o VE c u (fb_Fr_leave_0 N () u v0) (hb_Fr_leave_0 N () m v0') := by
  unfold fb_Fr_leave_0 hb_Fr_leave_0
  refine rf_bo (gf_1 R h_v0) ?_
  refine rf_ck (io_F R h_v0) ?_
  refine rf_bx0 (ym_Fr_of R h_v0) (fun u2' u2 r2 R_u2 => ?_)
  refine rf_w (wf_6 R_u2 h_v0) (fun w3' w3 R_w3 => ?_)
  refine rf_bo (gf_1 R_w3 h_v0) ?_
  refine rf_ck (io_F R_w3 h_v0) ?_
  refine rf_bx0 (ym_Fr_of R_w3 h_v0) (fun u5' u5 r5 R_u5 => ?_)
  refine rf_w (wf_4 R_u5 h_v0) (fun w6' w6 R_w6 => ?_)
  refine rf_bo (gf_1 R_w6 h_v0) ?_
  refine rf_w (wf_1 R_w6 h_v0) (fun w8' w8 R_w8 => ?_)
  exact rf_ret R_w8 rfl
theorem ym_Fr_leave {N : Nat} {o : Option Nat} {c : Nat → Nat} {m : MS} {u : CS} (R : RP o c m u) {v0 : Nat} {v0' : Nat} (h_v0 : FVn c v0 v0') : RF 0 o VE c u (fm_Fr_leave N u v0) (hm_Fr_leave N m v0') := yb_Fr_leave_0 (N := N) R h_v0
theorem yb_Pr_pair_0 {N : Nat} {o : Option Nat} {c : Nat → Nat} {m : MS} {u : CS} (R : RP o c m u) {v0 : Nat} {v0' : Nat} {v1 : Int32} {v2 : Int64} (h_v0 : PVn c v0 v0') : RF 0 o VE c u (fb_Pr_pair_0 N () u v0 v1 v2) (hb_Pr_pair_0 N () m v0' v1 v2) := by
  unfold fb_Pr_pair_0 hb_Pr_pair_0
  refine rf_bo (gq_4 R h_v0) ?_
  refine rf_br ?_ ?_
  · refine rf_bo (gq_4 R h_v0) ?_
    refine rf_bo (gR_P2 R h_v0) ?_
    refine rf_bx0 (ym_Te_make R) (fun u4' u4 r4 R_u4 => ?_)
    refine rf_so ?_
    refine rf_wk (sq_2 R_u4 h_v0.1) (fun w6' w6 R_w6 => ?_)
    refine rf_bo (gR_P2 R_w6 h_v0) ?_
    refine rf_bx0 (ym_Te_make R_w6) (fun u8' u8 r8 R_u8 => ?_)
    refine rf_so ?_
    refine rf_wk (sq_2 R_u8 h_v0.1) (fun w10' w10 R_w10 => ?_)
    refine rf_bo (gR_P2 R_w10 h_v0) ?_
    refine rf_so ?_
    refine rf_wk (sq_2 R_w10 h_v0.1) (fun w13' w13 R_w13 => ?_)
    refine rf_bo (gq_4 R_w13 h_v0) ?_
    refine rf_w (wq_4 R_w13 h_v0) (fun w15' w15 R_w15 => ?_)
    refine rf_bx0 (ym_Te_make R_w15) (fun u16' u16 r16 R_u16 => ?_)
    exact rf_ret R_u16 rfl
  · exact rf_ret R rfl
theorem ym_Pr_pair {N : Nat} {o : Option Nat} {c : Nat → Nat} {m : MS} {u : CS} (R : RP o c m u) {v0 : Nat} {v0' : Nat} {v1 : Int32} {v2 : Int64} (h_v0 : PVn c v0 v0') : RF 0 o VE c u (fm_Pr_pair N u v0 v1 v2) (hm_Pr_pair N m v0' v1 v2) := yb_Pr_pair_0 (N := N) R h_v0
theorem yb_Fr_unwind_0 {N : Nat} {o : Option Nat} {c : Nat → Nat} {m : MS} {u : CS} (R : RP o c m u) {v0 : Nat} {v0' : Nat} (h_v0 : FVn c v0 v0') : RF 0 o VE c u (fb_Fr_unwind_0 N () u v0) (hb_Fr_unwind_0 N () m v0') := by
  unfold fb_Fr_unwind_0 hb_Fr_unwind_0
  refine rf_bo (gf_8 R h_v0) ?_
  refine rf_br ?_ ?_
  · exact rf_ret R rfl
  · refine rf_bo (gf_8 R h_v0) ?_
    refine rf_w (wf_8 R h_v0) (fun w3' w3 R_w3 => ?_)
    refine rf_bo (gf_8 R_w3 h_v0) ?_
    refine rf_bo (gR_F7 R_w3 h_v0) ?_
    refine rf_so ?_
    refine rf_ai (aq_37 R_w3 h_v0.1) ?_
    refine rf_w (wf_1 R_w3 h_v0) (fun w8' w8 R_w8 => ?_)
    refine rf_bo (gR_F7 R_w8 h_v0) ?_
    refine rf_so ?_
    refine rf_ai (aq_37 R_w8 h_v0.1) ?_
    refine rf_w (wf_4 R_w8 h_v0) (fun w12' w12 R_w12 => ?_)
    refine rf_bo (gR_F7 R_w12 h_v0) ?_
    refine rf_so ?_
    refine rf_ai (aq_37 R_w12 h_v0.1) ?_
    refine rf_w (wf_6 R_w12 h_v0) (fun w16' w16 R_w16 => ?_)
    refine rf_bo (gR_F7 R_w16 h_v0) ?_
    refine rf_so ?_
    refine rf_ai (aq_37 R_w16 h_v0.1) ?_
    exact rf_ret R_w16 rfl
theorem ym_Fr_unwind {N : Nat} {o : Option Nat} {c : Nat → Nat} {m : MS} {u : CS} (R : RP o c m u) {v0 : Nat} {v0' : Nat} (h_v0 : FVn c v0 v0') : RF 0 o VE c u (fm_Fr_unwind N u v0) (hm_Fr_unwind N m v0') := yb_Fr_unwind_0 (N := N) R h_v0
theorem yb_Wl_watchesOf_28 {N : Nat} {o : Option Nat} {c : Nat → Nat} {m : MS} {u : CS} {G : (CS → Nat → Int32 → Int32 → Int32 → Option (CS × Int32))} {G' : (MS → Int32 → Int32 → Int32 → Option (MS × Int32))} (hG : ∀ (c : Nat → Nat) (m : MS) (u : CS) (v1 : Int32) (v2 : Int32) (v3 : Int32), RP o c m u → RF 0 o VE c u (G u 47 v1 v2 v3) (G' m v1 v2 v3)) (R : RP o c m u) {v1 : Int32} {v3 : Int32} {t0 : Int32} {t1 : Int32} : RF 0 o VE c u (fb_Wl_watchesOf_28 N G u 47 v1 v3 t0 t1) (hb_Wl_watchesOf_28 N G' m v1 v3 t0 t1) := by
  unfold fb_Wl_watchesOf_28 hb_Wl_watchesOf_28
  exact (hG _ _ _ _ _ _ R)
theorem yb_Wl_watchesOf_4 {N : Nat} {o : Option Nat} {c : Nat → Nat} {m : MS} {u : CS} {G : (CS → Nat → Int32 → Int32 → Int32 → Option (CS × Int32))} {G' : (MS → Int32 → Int32 → Int32 → Option (MS × Int32))} (hG : ∀ (c : Nat → Nat) (m : MS) (u : CS) (v1 : Int32) (v2 : Int32) (v3 : Int32), RP o c m u → RF 0 o VE c u (G u 47 v1 v2 v3) (G' m v1 v2 v3)) (R : RP o c m u) {v1 : Int32} {v2 : Int32} {v3 : Int32} : RF 0 o VE c u (fb_Wl_watchesOf_4 N G u 47 v1 v2 v3) (hb_Wl_watchesOf_4 N G' m v1 v2 v3) := by
  unfold fb_Wl_watchesOf_4 hb_Wl_watchesOf_4
  refine rf_bo (gx_47_10 R) ?_
  refine rf_br ?_ ?_
  · exact rf_ret R rfl
  · refine rf_bo (rx_47_7 R) ?_
    refine rf_so ?_
    refine rf_ai (ax_49 R) ?_
    refine rf_br ?_ ?_
    · exact (yb_Wl_watchesOf_28 hG R)
    · exact (yb_Wl_watchesOf_28 hG R)
theorem yb_Wl_watchesOf_0 {N : Nat} {o : Option Nat} {c : Nat → Nat} {m : MS} {u : CS} {G : (CS → Nat → Int32 → Int32 → Int32 → Option (CS × Int32))} {G' : (MS → Int32 → Int32 → Int32 → Option (MS × Int32))} (hG : ∀ (c : Nat → Nat) (m : MS) (u : CS) (v1 : Int32) (v2 : Int32) (v3 : Int32), RP o c m u → RF 0 o VE c u (G u 47 v1 v2 v3) (G' m v1 v2 v3)) (R : RP o c m u) {v1 : Int32} : RF 0 o VE c u (fb_Wl_watchesOf_0 N G u 47 v1) (hb_Wl_watchesOf_0 N G' m v1) := by
  unfold fb_Wl_watchesOf_0 hb_Wl_watchesOf_0
  exact (hG _ _ _ _ _ _ R)
theorem yg_Wl_watchesOf {N : Nat} {o : Option Nat} : ∀ n, (∀ (c : Nat → Nat) (m : MS) (u : CS) (v1 : Int32) (v2 : Int32) (v3 : Int32), RP o c m u → RF 0 o VE c u ((gg_Wl_watchesOf N n) u 47 v1 v2 v3) ((hg_Wl_watchesOf N n) m v1 v2 v3)) := by
  intro n
  induction n with
  | zero => exact fun c m u v1 v2 v3 R => rf_none
  | succ n ih => exact fun c m u v1 v2 v3 R => yb_Wl_watchesOf_4 (N := N) ih R
theorem ym_Wl_watchesOf {N : Nat} {o : Option Nat} {c : Nat → Nat} {m : MS} {u : CS} (R : RP o c m u) {v1 : Int32} : RF 0 o VE c u (fm_Wl_watchesOf N u 47 v1) (hm_Wl_watchesOf N m v1) := yb_Wl_watchesOf_0 (N := N) (yg_Wl_watchesOf (N := N) N) R
theorem yb_Fr_namesIn_25 {N : Nat} {o : Option Nat} {c : Nat → Nat} {m : MS} {u : CS} (R : RP o c m u) {v0 : Nat} {v0' : Nat} {v1 : Int32} {t0 : Int32} (h_v0 : FVn c v0 v0') : RF 0 o VE c u (fb_Fr_namesIn_25 N () u v0 v1 t0) (hb_Fr_namesIn_25 N () m v0' v1 t0) := by
  unfold fb_Fr_namesIn_25 hb_Fr_namesIn_25
  refine rf_ck (io_F R h_v0) ?_
  refine rf_bx0 (ym_Fr_of R h_v0) (fun u1' u1 r1 R_u1 => ?_)
  exact rf_ret R_u1 rfl
theorem yb_Fr_namesIn_0 {N : Nat} {o : Option Nat} {c : Nat → Nat} {m : MS} {u : CS} (R : RP o c m u) {v0 : Nat} {v0' : Nat} {v1 : Int32} (h_v0 : FVn c v0 v0') : RF 0 o VE c u (fb_Fr_namesIn_0 N () u v0 v1) (hb_Fr_namesIn_0 N () m v0' v1) := by
  unfold fb_Fr_namesIn_0 hb_Fr_namesIn_0
  refine rf_bo (gf_1 R h_v0) ?_
  refine rf_br ?_ ?_
  · refine rf_bo (gf_4 R h_v0) ?_
    exact (yb_Fr_namesIn_25 R h_v0)
  · refine rf_ck (io_F R h_v0) ?_
    refine rf_bx0 (ym_Fr_of R h_v0) (fun u4' u4 r4 R_u4 => ?_)
    exact (yb_Fr_namesIn_25 R_u4 h_v0)
theorem ym_Fr_namesIn {N : Nat} {o : Option Nat} {c : Nat → Nat} {m : MS} {u : CS} (R : RP o c m u) {v0 : Nat} {v0' : Nat} {v1 : Int32} (h_v0 : FVn c v0 v0') : RF 0 o VE c u (fm_Fr_namesIn N u v0 v1) (hm_Fr_namesIn N m v0' v1) := yb_Fr_namesIn_0 (N := N) R h_v0
theorem yb_Fr_waitsIn_25 {N : Nat} {o : Option Nat} {c : Nat → Nat} {m : MS} {u : CS} (R : RP o c m u) {v0 : Nat} {v0' : Nat} {v1 : Int32} {t0 : Int32} (h_v0 : FVn c v0 v0') : RF 0 o VE c u (fb_Fr_waitsIn_25 N () u v0 v1 t0) (hb_Fr_waitsIn_25 N () m v0' v1 t0) := by
  unfold fb_Fr_waitsIn_25 hb_Fr_waitsIn_25
  refine rf_ck (io_F R h_v0) ?_
  refine rf_bx0 (ym_Fr_of R h_v0) (fun u1' u1 r1 R_u1 => ?_)
  exact rf_ret R_u1 rfl
theorem yb_Fr_waitsIn_0 {N : Nat} {o : Option Nat} {c : Nat → Nat} {m : MS} {u : CS} (R : RP o c m u) {v0 : Nat} {v0' : Nat} {v1 : Int32} (h_v0 : FVn c v0 v0') : RF 0 o VE c u (fb_Fr_waitsIn_0 N () u v0 v1) (hb_Fr_waitsIn_0 N () m v0' v1) := by
  unfold fb_Fr_waitsIn_0 hb_Fr_waitsIn_0
  refine rf_bo (gf_1 R h_v0) ?_
  refine rf_br ?_ ?_
  · refine rf_bo (gf_6 R h_v0) ?_
    exact (yb_Fr_waitsIn_25 R h_v0)
  · refine rf_ck (io_F R h_v0) ?_
    refine rf_bx0 (ym_Fr_of R h_v0) (fun u4' u4 r4 R_u4 => ?_)
    exact (yb_Fr_waitsIn_25 R_u4 h_v0)
theorem ym_Fr_waitsIn {N : Nat} {o : Option Nat} {c : Nat → Nat} {m : MS} {u : CS} (R : RP o c m u) {v0 : Nat} {v0' : Nat} {v1 : Int32} (h_v0 : FVn c v0 v0') : RF 0 o VE c u (fm_Fr_waitsIn N u v0 v1) (hm_Fr_waitsIn N m v0' v1) := yb_Fr_waitsIn_0 (N := N) R h_v0
theorem yb_H_shown_12 {N : Nat} {c : Nat → Nat} {m : MS} {u : CS} (R : RP none c m u) : RF 0 none VE c u (fb_H_shown_12 N () u) (hb_H_shown_12 N () m) := by
  unfold fb_H_shown_12 hb_H_shown_12
  exact rf_ret R rfl
theorem yb_H_shown_0 {N : Nat} {c : Nat → Nat} {m : MS} {u : CS} (R : RP none c m u) {v1 : Int32} : RF 0 none VE c u (fb_H_shown_0 N () u 0 v1) (hb_H_shown_0 N () m v1) := by
  unfold fb_H_shown_0 hb_H_shown_0
  refine rf_br ?_ ?_
  · exact (yb_H_shown_12 R)
  · refine rf_bo (gx_0_9 R) ?_
    refine rf_br ?_ ?_
    · refine rf_bo (rx_0_8 R) ?_
      refine rf_so ?_
      refine rf_ai (ax_56 R) ?_
      exact rf_ret R rfl
    · exact (yb_H_shown_12 R)
theorem ym_H_shown {N : Nat} {c : Nat → Nat} {m : MS} {u : CS} (R : RP none c m u) {v1 : Int32} : RF 0 none VE c u (fm_H_shown N u 0 v1) (hm_H_shown N m v1) := yb_H_shown_0 (N := N) R
theorem yb_H_printed_32 {N : Nat} {c : Nat → Nat} {m : MS} {u : CS} (R : RP none c m u) : RF 0 none VE c u (fb_H_printed_32 N () u) (hb_H_printed_32 N () m) := by
  unfold fb_H_printed_32 hb_H_printed_32
  exact rf_ret R rfl
theorem yb_H_printed_0 {N : Nat} {c : Nat → Nat} {m : MS} {u : CS} (R : RP none c m u) {v1 : Int32} {v2 : Int32} : RF 0 none VE c u (fb_H_printed_0 N () u 0 v1 v2) (hb_H_printed_0 N () m v1 v2) := by
  unfold fb_H_printed_0 hb_H_printed_0
  refine rf_br ?_ ?_
  · exact (yb_H_printed_32 R)
  · refine rf_bo (rx_0_6 R) ?_
    refine rf_so ?_
    refine rf_bo (gx_47_13 R) ?_
    refine rf_br ?_ ?_
    · exact (yb_H_printed_32 R)
    · refine rf_br ?_ ?_
      · exact (yb_H_printed_32 R)
      · refine rf_bo (rx_0_6 R) ?_
        refine rf_so ?_
        refine rf_bo (rx_47_12 R) ?_
        refine rf_so ?_
        refine rf_ai (ax_53 R) ?_
        refine rf_br ?_ ?_
        · refine rf_bo (rx_0_6 R) ?_
          refine rf_so ?_
          refine rf_bo (rx_47_11 R) ?_
          refine rf_so ?_
          refine rf_ai (ax_52 R) ?_
          exact rf_ret R rfl
        · exact (yb_H_printed_32 R)
theorem ym_H_printed {N : Nat} {c : Nat → Nat} {m : MS} {u : CS} (R : RP none c m u) {v1 : Int32} {v2 : Int32} : RF 0 none VE c u (fm_H_printed N u 0 v1 v2) (hm_H_printed N m v1 v2) := yb_H_printed_0 (N := N) R
theorem yb_JS_coder_14 {N : Nat} {o : Option Nat} {c : Nat → Nat} {m : MS} {u : CS} (R : RP o c m u) {t0 : Int32} : RF 0 o VE c u (fb_JS_coder_14 N () u t0) (hb_JS_coder_14 N () m t0) := by
  unfold fb_JS_coder_14 hb_JS_coder_14
  refine rf_ckk ?_
  exact rf_ret R rfl
theorem yb_JS_coder_0 {N : Nat} {o : Option Nat} {c : Nat → Nat} {m : MS} {u : CS} (R : RP o c m u) {v0 : Nat} : RF 0 o VE c u (fb_JS_coder_0 N () u v0) (hb_JS_coder_0 N () m v0) := by
  unfold fb_JS_coder_0 hb_JS_coder_0
  refine rf_br ?_ ?_
  · exact (yb_JS_coder_14 R)
  · refine rf_ckk ?_
    exact (yb_JS_coder_14 R)
theorem ym_JS_coder {N : Nat} {o : Option Nat} {c : Nat → Nat} {m : MS} {u : CS} (R : RP o c m u) {v0 : Nat} : RF 0 o VE c u (fm_JS_coder N u v0) (hm_JS_coder N m v0) := yb_JS_coder_0 (N := N) R
theorem yb_JS_length_0 {N : Nat} {o : Option Nat} {c : Nat → Nat} {m : MS} {u : CS} (R : RP o c m u) {v0 : Nat} : RF 0 o VE c u (fb_JS_length_0 N () u v0) (hb_JS_length_0 N () m v0) := by
  unfold fb_JS_length_0 hb_JS_length_0
  refine rf_ckk ?_
  refine rf_ckk ?_
  refine rf_ckk ?_
  refine rf_bx0 (ym_JS_coder R) (fun u1' u1 r1 R_u1 => ?_)
  exact rf_ret R_u1 rfl
theorem ym_JS_length {N : Nat} {o : Option Nat} {c : Nat → Nat} {m : MS} {u : CS} (R : RP o c m u) {v0 : Nat} : RF 0 o VE c u (fm_JS_length N u v0) (hm_JS_length N m v0) := yb_JS_length_0 (N := N) R
theorem yb_JS_isLatin1_18 {N : Nat} {o : Option Nat} {c : Nat → Nat} {m : MS} {u : CS} (R : RP o c m u) {t0 : Int32} : RF 0 o VE c u (fb_JS_isLatin1_18 N () u t0) (hb_JS_isLatin1_18 N () m t0) := by
  unfold fb_JS_isLatin1_18 hb_JS_isLatin1_18
  refine rf_ckk ?_
  exact rf_ret R rfl
theorem yb_JS_isLatin1_17 {N : Nat} {o : Option Nat} {c : Nat → Nat} {m : MS} {u : CS} (R : RP o c m u) : RF 0 o VE c u (fb_JS_isLatin1_17 N () u) (hb_JS_isLatin1_17 N () m) := by
  unfold fb_JS_isLatin1_17 hb_JS_isLatin1_17
  exact (yb_JS_isLatin1_18 R)
theorem yb_JS_isLatin1_0 {N : Nat} {o : Option Nat} {c : Nat → Nat} {m : MS} {u : CS} (R : RP o c m u) {v0 : Nat} : RF 0 o VE c u (fb_JS_isLatin1_0 N () u v0) (hb_JS_isLatin1_0 N () m v0) := by
  unfold fb_JS_isLatin1_0 hb_JS_isLatin1_0
  refine rf_br ?_ ?_
  · exact (yb_JS_isLatin1_17 R)
  · refine rf_ckk ?_
    refine rf_br ?_ ?_
    · exact (yb_JS_isLatin1_18 R)
    · exact (yb_JS_isLatin1_17 R)
theorem ym_JS_isLatin1 {N : Nat} {o : Option Nat} {c : Nat → Nat} {m : MS} {u : CS} (R : RP o c m u) {v0 : Nat} : RF 0 o VE c u (fm_JS_isLatin1 N u v0) (hm_JS_isLatin1 N m v0) := yb_JS_isLatin1_0 (N := N) R
theorem yb_JP_checkIndex_9 {N : Nat} {o : Option Nat} {c : Nat → Nat} {m : MS} {u : CS} (R : RP o c m u) {v0 : Int32} {v1 : Int32} {v2 : Nat} : RF 0 o VE c u (fb_JP_checkIndex_9 N () u v0 v1 v2) (hb_JP_checkIndex_9 N () m v0 v1 v2) := by
  unfold fb_JP_checkIndex_9 hb_JP_checkIndex_9
  exact rf_none
theorem yb_JP_checkIndex_0 {N : Nat} {o : Option Nat} {c : Nat → Nat} {m : MS} {u : CS} (R : RP o c m u) {v0 : Int32} {v1 : Int32} {v2 : Nat} : RF 0 o VE c u (fb_JP_checkIndex_0 N () u v0 v1 v2) (hb_JP_checkIndex_0 N () m v0 v1 v2) := by
  unfold fb_JP_checkIndex_0 hb_JP_checkIndex_0
  refine rf_br ?_ ?_
  · exact (yb_JP_checkIndex_9 R)
  · refine rf_br ?_ ?_
    · exact rf_ret R rfl
    · exact (yb_JP_checkIndex_9 R)
theorem ym_JP_checkIndex {N : Nat} {o : Option Nat} {c : Nat → Nat} {m : MS} {u : CS} (R : RP o c m u) {v0 : Int32} {v1 : Int32} {v2 : Nat} : RF 0 o VE c u (fm_JP_checkIndex N u v0 v1 v2) (hm_JP_checkIndex N m v0 v1 v2) := yb_JP_checkIndex_0 (N := N) R
theorem yb_JS_checkIndex_0 {N : Nat} {o : Option Nat} {c : Nat → Nat} {m : MS} {u : CS} (R : RP o c m u) {v0 : Int32} {v1 : Int32} : RF 0 o VE c u (fb_JS_checkIndex_0 N () u v0 v1) (hb_JS_checkIndex_0 N () m v0 v1) := by
  unfold fb_JS_checkIndex_0 hb_JS_checkIndex_0
  refine rf_bx0 (ym_JP_checkIndex R) (fun u1' u1 r1 R_u1 => ?_)
  exact rf_ret R_u1 rfl
theorem ym_JS_checkIndex {N : Nat} {o : Option Nat} {c : Nat → Nat} {m : MS} {u : CS} (R : RP o c m u) {v0 : Int32} {v1 : Int32} : RF 0 o VE c u (fm_JS_checkIndex N u v0 v1) (hm_JS_checkIndex N m v0 v1) := yb_JS_checkIndex_0 (N := N) R
theorem yb_JL_charAt_0 {N : Nat} {o : Option Nat} {c : Nat → Nat} {m : MS} {u : CS} (R : RP o c m u) {v0 : Nat} {v1 : Int32} : RF 0 o VE c u (fb_JL_charAt_0 N () u v0 v1) (hb_JL_charAt_0 N () m v0 v1) := by
  unfold fb_JL_charAt_0 hb_JL_charAt_0
  refine rf_ckk ?_
  refine rf_bx0 (ym_JS_checkIndex R) (fun u1' u1 r1 R_u1 => ?_)
  refine rf_ckk ?_
  refine rf_ckk ?_
  refine rf_ckk ?_
  exact rf_ret R_u1 rfl
theorem ym_JL_charAt {N : Nat} {o : Option Nat} {c : Nat → Nat} {m : MS} {u : CS} (R : RP o c m u) {v0 : Nat} {v1 : Int32} : RF 0 o VE c u (fm_JL_charAt N u v0 v1) (hm_JL_charAt N m v0 v1) := yb_JL_charAt_0 (N := N) R
theorem yb_JS_charAt_0 {N : Nat} {o : Option Nat} {c : Nat → Nat} {m : MS} {u : CS} (R : RP o c m u) {v0 : Nat} {v1 : Int32} : RF 0 o VE c u (fb_JS_charAt_0 N () u v0 v1) (hb_JS_charAt_0 N () m v0 v1) := by
  unfold fb_JS_charAt_0 hb_JS_charAt_0
  refine rf_ckk ?_
  refine rf_bx0 (ym_JS_isLatin1 R) (fun u1' u1 r1 R_u1 => ?_)
  refine rf_br ?_ ?_
  · refine rf_ckk ?_
    exact rf_none
  · refine rf_ckk ?_
    refine rf_bx0 (ym_JL_charAt R_u1) (fun u2' u2 r2 R_u2 => ?_)
    refine rf_ckk ?_
    exact rf_ret R_u2 rfl
theorem ym_JS_charAt {N : Nat} {o : Option Nat} {c : Nat → Nat} {m : MS} {u : CS} (R : RP o c m u) {v0 : Nat} {v1 : Int32} : RF 0 o VE c u (fm_JS_charAt N u v0 v1) (hm_JS_charAt N m v0 v1) := yb_JS_charAt_0 (N := N) R
theorem yb_JI_compare_19 {N : Nat} {o : Option Nat} {c : Nat → Nat} {m : MS} {u : CS} (R : RP o c m u) {t0 : Int32} : RF 0 o VE c u (fb_JI_compare_19 N () u t0) (hb_JI_compare_19 N () m t0) := by
  unfold fb_JI_compare_19 hb_JI_compare_19
  exact rf_ret R rfl
theorem yb_JI_compare_0 {N : Nat} {o : Option Nat} {c : Nat → Nat} {m : MS} {u : CS} (R : RP o c m u) {v0 : Int32} {v1 : Int32} : RF 0 o VE c u (fb_JI_compare_0 N () u v0 v1) (hb_JI_compare_0 N () m v0 v1) := by
  unfold fb_JI_compare_0 hb_JI_compare_0
  refine rf_br ?_ ?_
  · refine rf_br ?_ ?_
    · exact (yb_JI_compare_19 R)
    · exact (yb_JI_compare_19 R)
  · exact (yb_JI_compare_19 R)
theorem ym_JI_compare {N : Nat} {o : Option Nat} {c : Nat → Nat} {m : MS} {u : CS} (R : RP o c m u) {v0 : Int32} {v1 : Int32} : RF 0 o VE c u (fm_JI_compare N u v0 v1) (hm_JI_compare N m v0 v1) := yb_JI_compare_0 (N := N) R
theorem yb_To_number_107 {N : Nat} {o : Option Nat} {c : Nat → Nat} {m : MS} {u : CS} {G : (CS → Nat → Int64 → Option (CS × Int32))} {G' : (MS → Int64 → Option (MS × Int32))} (hG : ∀ (c : Nat → Nat) (m : MS) (u : CS) (v1 : Int64), RP o c m u → RF 0 o VE c u (G u 4 v1) (G' m v1)) (R : RP o c m u) {t0 : Int32} : RF 0 o VE c u (fb_To_number_107 N G u t0) (hb_To_number_107 N G' m t0) := by
  unfold fb_To_number_107 hb_To_number_107
  exact rf_ret R rfl
theorem yb_To_number_101 {N : Nat} {o : Option Nat} {c : Nat → Nat} {m : MS} {u : CS} {G : (CS → Nat → Int64 → Option (CS × Int32))} {G' : (MS → Int64 → Option (MS × Int32))} (hG : ∀ (c : Nat → Nat) (m : MS) (u : CS) (v1 : Int64), RP o c m u → RF 0 o VE c u (G u 4 v1) (G' m v1)) (R : RP o c m u) : RF 0 o VE c u (fb_To_number_101 N G u) (hb_To_number_101 N G' m) := by
  unfold fb_To_number_101 hb_To_number_101
  exact (yb_To_number_107 hG R)
theorem yb_To_number_68 {N : Nat} {o : Option Nat} {c : Nat → Nat} {m : MS} {u : CS} {G : (CS → Nat → Int64 → Option (CS × Int32))} {G' : (MS → Int64 → Option (MS × Int32))} (hG : ∀ (c : Nat → Nat) (m : MS) (u : CS) (v1 : Int64), RP o c m u → RF 0 o VE c u (G u 4 v1) (G' m v1)) (R : RP o c m u) {v1 : Int64} : RF 0 o VE c u (fb_To_number_68 N G u 4 v1) (hb_To_number_68 N G' m v1) := by
  unfold fb_To_number_68 hb_To_number_68
  refine rf_bo (rx_4_3 R) ?_
  refine rf_bo (gx_4_5 R) ?_
  refine rf_so ?_
  refine rf_wk (sx_7 R) (fun w4' w4 R_w4 => ?_)
  refine rf_br ?_ ?_
  · exact (yb_To_number_101 hG R_w4)
  · refine rf_bo (gx_4_9 R_w4) ?_
    refine rf_ck (ox_4 R_w4) ?_
    refine rf_bx0 (ym_To_signAt R_w4) (fun u6' u6 r6 R_u6 => ?_)
    refine rf_bx0 (ym_To_isWordly R_u6) (fun u7' u7 r7 R_u7 => ?_)
    refine rf_br ?_ ?_
    · exact (yb_To_number_107 hG R_u7)
    · exact (yb_To_number_101 hG R_u7)
theorem yb_To_number_2 {N : Nat} {o : Option Nat} {c : Nat → Nat} {m : MS} {u : CS} {G : (CS → Nat → Int64 → Option (CS × Int32))} {G' : (MS → Int64 → Option (MS × Int32))} (hG : ∀ (c : Nat → Nat) (m : MS) (u : CS) (v1 : Int64), RP o c m u → RF 0 o VE c u (G u 4 v1) (G' m v1)) (R : RP o c m u) {v1 : Int64} : RF 0 o VE c u (fb_To_number_2 N G u 4 v1) (hb_To_number_2 N G' m v1) := by
  unfold fb_To_number_2 hb_To_number_2
  refine rf_bo (gx_4_9 R) ?_
  refine rf_bo (gx_4_1 R) ?_
  refine rf_br ?_ ?_
  · exact (yb_To_number_68 hG R)
  · refine rf_bo (rx_4_0 R) ?_
    refine rf_bo (gx_4_9 R) ?_
    refine rf_so ?_
    refine rf_ai (ax_5 R) ?_
    refine rf_bx0 (ym_To_isDigit R) (fun u14' u14 r14 R_u14 => ?_)
    refine rf_br ?_ ?_
    · exact (yb_To_number_68 hG R_u14)
    · refine rf_bo (rx_4_0 R_u14) ?_
      refine rf_bo (gx_4_9 R_u14) ?_
      refine rf_so ?_
      refine rf_ai (ax_5 R_u14) ?_
      refine rf_lt ?_
      refine rf_bo (gx_4_9 R_u14) ?_
      refine rf_w (px_4_9 R_u14) (fun w21' w21 R_w21 => ?_)
      exact (hG _ _ _ _ R_w21)
theorem yb_To_number_0 {N : Nat} {o : Option Nat} {c : Nat → Nat} {m : MS} {u : CS} {G : (CS → Nat → Int64 → Option (CS × Int32))} {G' : (MS → Int64 → Option (MS × Int32))} (hG : ∀ (c : Nat → Nat) (m : MS) (u : CS) (v1 : Int64), RP o c m u → RF 0 o VE c u (G u 4 v1) (G' m v1)) (R : RP o c m u) : RF 0 o VE c u (fb_To_number_0 N G u 4) (hb_To_number_0 N G' m) := by
  unfold fb_To_number_0 hb_To_number_0
  exact (hG _ _ _ _ R)
theorem yg_To_number {N : Nat} {o : Option Nat} : ∀ n, (∀ (c : Nat → Nat) (m : MS) (u : CS) (v1 : Int64), RP o c m u → RF 0 o VE c u ((gg_To_number N n) u 4 v1) ((hg_To_number N n) m v1)) := by
  intro n
  induction n with
  | zero => exact fun c m u v1 R => rf_none
  | succ n ih => exact fun c m u v1 R => yb_To_number_2 (N := N) ih R
theorem ym_To_number {N : Nat} {o : Option Nat} {c : Nat → Nat} {m : MS} {u : CS} (R : RP o c m u) : RF 0 o VE c u (fm_To_number N u 4) (hm_To_number N m) := yb_To_number_0 (N := N) (yg_To_number (N := N) N) R
theorem yb_Wo_find_51 {N : Nat} {o : Option Nat} {c : Nat → Nat} {m : MS} {u : CS} (R : RP o c m u) : RF 0 o VE c u (fb_Wo_find_51 N () u) (hb_Wo_find_51 N () m) := by
  unfold fb_Wo_find_51 hb_Wo_find_51
  exact rf_ret R rfl
theorem yb_Wo_find_0 {N : Nat} {o : Option Nat} {c : Nat → Nat} {m : MS} {u : CS} (R : RP o c m u) {v0 : Nat} {v1 : Nat} {v2 : Int32} {v3 : Int32} (h_v0 : isWd v0) (h_v1 : isBy v1) : RF 0 o VE c u (fb_Wo_find_0 N () u v0 (some v1) v2 v3) (hb_Wo_find_0 N () m v0 v1 v2 v3) := by
  unfold fb_Wo_find_0 hb_Wo_find_0
  refine rf_ck (io_W R h_v0) ?_
  refine rf_bx0 (ym_Wo_seek R h_v0 h_v1) (fun u1' u1 r1 R_u1 => ?_)
  refine rf_br ?_ ?_
  · refine rf_bo (gi_W2 R_u1 h_v0) ?_
    refine rf_bo (gr_W1 R_u1 h_v0) ?_
    refine rf_so ?_
    refine rf_bo (na_W R_u1 h_v0) ?_
    refine rf_br ?_ ?_
    · exact (yb_Wo_find_51 R_u1)
    · refine rf_bo (gr_W1 R_u1 h_v0) ?_
      refine rf_bo (gi_W2 R_u1 h_v0) ?_
      refine rf_so ?_
      refine rf_ai (ai_W R_u1 h_v0) ?_
      refine rf_bo (gr_W0 R_u1 h_v0) ?_
      refine rf_so ?_
      refine rf_bo (na_B R_u1 (By_w h_v0)) ?_
      refine rf_br ?_ ?_
      · refine rf_bo (gr_W0 R_u1 h_v0) ?_
        refine rf_bo (gr_W1 R_u1 h_v0) ?_
        refine rf_bo (gi_W2 R_u1 h_v0) ?_
        refine rf_so ?_
        refine rf_ai (ai_W R_u1 h_v0) ?_
        refine rf_so ?_
        refine rf_so ?_
        refine rf_wk (cp_B R_u1 h_v1 (By_w h_v0)) (fun w20' w20 R_w20 => ?_)
        refine rf_bo (gr_W1 R_w20 h_v0) ?_
        refine rf_bo (gi_W2 R_w20 h_v0) ?_
        refine rf_bo (gr_W1 R_w20 h_v0) ?_
        refine rf_bo (gi_W2 R_w20 h_v0) ?_
        refine rf_so ?_
        refine rf_ai (ai_W R_w20 h_v0) ?_
        refine rf_so ?_
        refine rf_wk (si_W R_w20 h_v0) (fun w28' w28 R_w28 => ?_)
        refine rf_bo (gi_W2 R_w28 h_v0) ?_
        refine rf_w (pf_W2 R_w28 h_v0) (fun w30' w30 R_w30 => ?_)
        refine rf_bo (gi_W2 R_w30 h_v0) ?_
        exact rf_ret R_w30 rfl
      · exact (yb_Wo_find_51 R_u1)
  · exact rf_ret R_u1 rfl
theorem ym_Wo_find {N : Nat} {o : Option Nat} {c : Nat → Nat} {m : MS} {u : CS} (R : RP o c m u) {v0 : Nat} {v1 : Nat} {v2 : Int32} {v3 : Int32} (h_v0 : isWd v0) (h_v1 : isBy v1) : RF 0 o VE c u (fm_Wo_find N u v0 (some v1) v2 v3) (hm_Wo_find N m v0 v1 v2 v3) := yb_Wo_find_0 (N := N) R h_v0 h_v1
theorem yb_To_word_44 {N : Nat} {o : Option Nat} {c : Nat → Nat} {m : MS} {u : CS} {G : (CS → Nat → Int32 → Int32 → Option (CS × Int32))} {G' : (MS → Int32 → Int32 → Option (MS × Int32))} (hG : ∀ (c : Nat → Nat) (m : MS) (u : CS) (v1 : Int32) (v2 : Int32), RP o c m u → RF 0 o VE c u (G u 4 v1 v2) (G' m v1 v2)) (R : RP o c m u) {v1 : Int32} {v2 : Int32} : RF 0 o VE c u (fb_To_word_44 N G u 4 v1 v2) (hb_To_word_44 N G' m v1 v2) := by
  unfold fb_To_word_44 hb_To_word_44
  refine rf_bo (gx_4_9 R) ?_
  refine rf_br ?_ ?_
  · refine rf_br ?_ ?_
    · refine rf_bo (rx_4_6 R) ?_
      refine rf_bo (rx_4_0 R) ?_
      refine rf_so ?_
      refine rf_ck (ox_9 R) ?_
      refine rf_bx0 (ym_Wo_seek R (by unfold isWd; omega) By_5) (fun u4' u4 r4 R_u4 => ?_)
      refine rf_br ?_ ?_
      · refine rf_bo (rx_4_3 R_u4) ?_
        refine rf_bo (gx_4_5 R_u4) ?_
        refine rf_bo (rx_4_7 R_u4) ?_
        refine rf_bo (rx_4_0 R_u4) ?_
        refine rf_so ?_
        refine rf_ck (ox_1 R_u4) ?_
        refine rf_bx0 (ym_Wo_find R_u4 (by unfold isWd; omega) By_5) (fun u10' u10 r10 R_u10 => ?_)
        refine rf_so ?_
        refine rf_wk (sx_7 R_u10) (fun w13' w13 R_w13 => ?_)
        exact rf_ret R_w13 rfl
      · exact rf_ret R_u4 rfl
    · refine rf_bo (rx_4_3 R) ?_
      refine rf_bo (gx_4_5 R) ?_
      refine rf_bo (rx_4_8 R) ?_
      refine rf_bo (rx_4_0 R) ?_
      refine rf_so ?_
      refine rf_ck (ox_12 R) ?_
      refine rf_bx0 (ym_Wo_find R (by unfold isWd; omega) By_5) (fun u18' u18 r18 R_u18 => ?_)
      refine rf_so ?_
      refine rf_wk (sx_7 R_u18) (fun w21' w21 R_w21 => ?_)
      exact rf_ret R_w21 rfl
  · exact rf_ret R rfl
theorem yb_To_word_5 {N : Nat} {o : Option Nat} {c : Nat → Nat} {m : MS} {u : CS} {G : (CS → Nat → Int32 → Int32 → Option (CS × Int32))} {G' : (MS → Int32 → Int32 → Option (MS × Int32))} (hG : ∀ (c : Nat → Nat) (m : MS) (u : CS) (v1 : Int32) (v2 : Int32), RP o c m u → RF 0 o VE c u (G u 4 v1 v2) (G' m v1 v2)) (R : RP o c m u) {v1 : Int32} {v2 : Int32} : RF 0 o VE c u (fb_To_word_5 N G u 4 v1 v2) (hb_To_word_5 N G' m v1 v2) := by
  unfold fb_To_word_5 hb_To_word_5
  refine rf_bo (gx_4_9 R) ?_
  refine rf_bo (gx_4_1 R) ?_
  refine rf_br ?_ ?_
  · exact (yb_To_word_44 hG R)
  · refine rf_bo (rx_4_0 R) ?_
    refine rf_bo (gx_4_9 R) ?_
    refine rf_so ?_
    refine rf_ai (ax_5 R) ?_
    refine rf_bx0 (ym_To_isWordly R) (fun u28' u28 r28 R_u28 => ?_)
    refine rf_br ?_ ?_
    · exact (yb_To_word_44 hG R_u28)
    · refine rf_bo (gx_4_9 R_u28) ?_
      refine rf_w (px_4_9 R_u28) (fun w30' w30 R_w30 => ?_)
      exact (hG _ _ _ _ _ R_w30)
theorem yb_To_word_0 {N : Nat} {o : Option Nat} {c : Nat → Nat} {m : MS} {u : CS} {G : (CS → Nat → Int32 → Int32 → Option (CS × Int32))} {G' : (MS → Int32 → Int32 → Option (MS × Int32))} (hG : ∀ (c : Nat → Nat) (m : MS) (u : CS) (v1 : Int32) (v2 : Int32), RP o c m u → RF 0 o VE c u (G u 4 v1 v2) (G' m v1 v2)) (R : RP o c m u) {v1 : Int32} : RF 0 o VE c u (fb_To_word_0 N G u 4 v1) (hb_To_word_0 N G' m v1) := by
  unfold fb_To_word_0 hb_To_word_0
  refine rf_bo (gx_4_9 R) ?_
  exact (hG _ _ _ _ _ R)
theorem yg_To_word {N : Nat} {o : Option Nat} : ∀ n, (∀ (c : Nat → Nat) (m : MS) (u : CS) (v1 : Int32) (v2 : Int32), RP o c m u → RF 0 o VE c u ((gg_To_word N n) u 4 v1 v2) ((hg_To_word N n) m v1 v2)) := by
  intro n
  induction n with
  | zero => exact fun c m u v1 v2 R => rf_none
  | succ n ih => exact fun c m u v1 v2 R => yb_To_word_5 (N := N) ih R
theorem ym_To_word {N : Nat} {o : Option Nat} {c : Nat → Nat} {m : MS} {u : CS} (R : RP o c m u) {v1 : Int32} : RF 0 o VE c u (fm_To_word N u 4 v1) (hm_To_word N m v1) := yb_To_word_0 (N := N) (yg_To_word (N := N) N) R
