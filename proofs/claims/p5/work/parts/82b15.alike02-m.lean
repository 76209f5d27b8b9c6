section
set_option maxRecDepth 100000
theorem yb_Wl_keepWatch_0 {N : Nat} {o : Option Nat} {c : Nat → Nat} {m : MS} {u : CS} (R : RP o c m u) {v1 : Int32} {v2 : Int32} : RF 0 o VE c u (fb_Wl_keepWatch_0 N () u 47 v1 v2) (hb_Wl_keepWatch_0 N () m v1 v2) := by
  unfold fb_Wl_keepWatch_0 hb_Wl_keepWatch_0
  refine rf_bo (rx_47_7 R) ?_
  refine rf_bo (rx_47_7 R) ?_
  refine rf_so ?_
  refine rf_ai (ax_49 R) ?_
  refine rf_so ?_
  refine rf_wk (sx_49 R) (fun w6' w6 R_w6 => ?_)
  refine rf_bo (rx_47_8 R_w6) ?_
  refine rf_bo (rx_47_8 R_w6) ?_
  refine rf_so ?_
  refine rf_ai (ax_50 R_w6) ?_
  refine rf_so ?_
  refine rf_wk (sx_50 R_w6) (fun w12' w12 R_w12 => ?_)
  refine rf_bo (rx_47_9 R_w12) ?_
  refine rf_bo (rx_47_9 R_w12) ?_
  refine rf_so ?_
  refine rf_ai (ax_51 R_w12) ?_
  refine rf_so ?_
  refine rf_wk (sx_51 R_w12) (fun w18' w18 R_w18 => ?_)
  exact rf_ret R_w18 rfl
theorem ym_Wl_keepWatch {N : Nat} {o : Option Nat} {c : Nat → Nat} {m : MS} {u : CS} (R : RP o c m u) {v1 : Int32} {v2 : Int32} : RF 0 o VE c u (fm_Wl_keepWatch N u 47 v1 v2) (hm_Wl_keepWatch N m v1 v2) := yb_Wl_keepWatch_0 (N := N) R
theorem yb_Wl_removeWatch_46 {N : Nat} {o : Option Nat} {c : Nat → Nat} {m : MS} {u : CS} {G : (CS → Nat → Int32 → Int32 → Int32 → Int32 → Option (CS × Unit))} {G' : (MS → Int32 → Int32 → Int32 → Int32 → Option (MS × Unit))} (hG : ∀ (c : Nat → Nat) (m : MS) (u : CS) (v1 : Int32) (v2 : Int32) (v3 : Int32) (v4 : Int32), RP o c m u → RF 0 o VE c u (G u 47 v1 v2 v3 v4) (G' m v1 v2 v3 v4)) (R : RP o c m u) {v1 : Int32} {v2 : Int32} {v3 : Int32} {v4 : Int32} : RF 0 o VE c u (fb_Wl_removeWatch_46 N G u 47 v1 v2 v3 v4) (hb_Wl_removeWatch_46 N G' m v1 v2 v3 v4) := by
  unfold fb_Wl_removeWatch_46 hb_Wl_removeWatch_46
  exact (hG _ _ _ _ _ _ _ R)
theorem yb_Wl_removeWatch_36 {N : Nat} {o : Option Nat} {c : Nat → Nat} {m : MS} {u : CS} {G : (CS → Nat → Int32 → Int32 → Int32 → Int32 → Option (CS × Unit))} {G' : (MS → Int32 → Int32 → Int32 → Int32 → Option (MS × Unit))} (hG : ∀ (c : Nat → Nat) (m : MS) (u : CS) (v1 : Int32) (v2 : Int32) (v3 : Int32) (v4 : Int32), RP o c m u → RF 0 o VE c u (G u 47 v1 v2 v3 v4) (G' m v1 v2 v3 v4)) (R : RP o c m u) {v1 : Int32} {v2 : Int32} {v3 : Int32} {v4 : Int32} : RF 0 o VE c u (fb_Wl_removeWatch_36 N G u 47 v1 v2 v3 v4) (hb_Wl_removeWatch_36 N G' m v1 v2 v3 v4) := by
  unfold fb_Wl_removeWatch_36 hb_Wl_removeWatch_36
  refine rf_ck (ox_47 R) ?_
  refine rf_bx0 (ym_Wl_keepWatch R) (fun u1' u1 r1 R_u1 => ?_)
  exact (yb_Wl_removeWatch_46 hG R_u1)
theorem yb_Wl_removeWatch_5 {N : Nat} {o : Option Nat} {c : Nat → Nat} {m : MS} {u : CS} {G : (CS → Nat → Int32 → Int32 → Int32 → Int32 → Option (CS × Unit))} {G' : (MS → Int32 → Int32 → Int32 → Int32 → Option (MS × Unit))} (hG : ∀ (c : Nat → Nat) (m : MS) (u : CS) (v1 : Int32) (v2 : Int32) (v3 : Int32) (v4 : Int32), RP o c m u → RF 0 o VE c u (G u 47 v1 v2 v3 v4) (G' m v1 v2 v3 v4)) (R : RP o c m u) {v1 : Int32} {v2 : Int32} {v3 : Int32} {v4 : Int32} : RF 0 o VE c u (fb_Wl_removeWatch_5 N G u 47 v1 v2 v3 v4) (hb_Wl_removeWatch_5 N G' m v1 v2 v3 v4) := by
  unfold fb_Wl_removeWatch_5 hb_Wl_removeWatch_5
  refine rf_bo (gx_47_10 R) ?_
  refine rf_br ?_ ?_
  · refine rf_w (px_47_10 R) (fun w3' w3 R_w3 => ?_)
    exact rf_ret R_w3 rfl
  · refine rf_bo (rx_47_7 R) ?_
    refine rf_so ?_
    refine rf_ai (ax_49 R) ?_
    refine rf_br ?_ ?_
    · refine rf_bo (rx_47_9 R) ?_
      refine rf_so ?_
      refine rf_ai (ax_51 R) ?_
      refine rf_br ?_ ?_
      · exact (yb_Wl_removeWatch_46 hG R)
      · exact (yb_Wl_removeWatch_36 hG R)
    · exact (yb_Wl_removeWatch_36 hG R)
theorem yb_Wl_removeWatch_0 {N : Nat} {o : Option Nat} {c : Nat → Nat} {m : MS} {u : CS} {G : (CS → Nat → Int32 → Int32 → Int32 → Int32 → Option (CS × Unit))} {G' : (MS → Int32 → Int32 → Int32 → Int32 → Option (MS × Unit))} (hG : ∀ (c : Nat → Nat) (m : MS) (u : CS) (v1 : Int32) (v2 : Int32) (v3 : Int32) (v4 : Int32), RP o c m u → RF 0 o VE c u (G u 47 v1 v2 v3 v4) (G' m v1 v2 v3 v4)) (R : RP o c m u) {v1 : Int32} {v2 : Int32} : RF 0 o VE c u (fb_Wl_removeWatch_0 N G u 47 v1 v2) (hb_Wl_removeWatch_0 N G' m v1 v2) := by
  unfold fb_Wl_removeWatch_0 hb_Wl_removeWatch_0
  exact (hG _ _ _ _ _ _ _ R)
theorem yg_Wl_removeWatch {N : Nat} {o : Option Nat} : ∀ n, (∀ (c : Nat → Nat) (m : MS) (u : CS) (v1 : Int32) (v2 : Int32) (v3 : Int32) (v4 : Int32), RP o c m u → RF 0 o VE c u ((gg_Wl_removeWatch N n) u 47 v1 v2 v3 v4) ((hg_Wl_removeWatch N n) m v1 v2 v3 v4)) := by
  intro n
  induction n with
  | zero => exact fun c m u v1 v2 v3 v4 R => rf_none
  | succ n ih => exact fun c m u v1 v2 v3 v4 R => yb_Wl_removeWatch_5 (N := N) ih R
theorem ym_Wl_removeWatch {N : Nat} {o : Option Nat} {c : Nat → Nat} {m : MS} {u : CS} (R : RP o c m u) {v1 : Int32} {v2 : Int32} : RF 0 o VE c u (fm_Wl_removeWatch N u 47 v1 v2) (hm_Wl_removeWatch N m v1 v2) := yb_Wl_removeWatch_0 (N := N) (yg_Wl_removeWatch (N := N) N) R
theorem yb_Pr_comes_29 {N : Nat} {o : Option Nat} {c : Nat → Nat} {m : MS} {u : CS} (R : RP o c m u) : RF 0 o VE c u (fb_Pr_comes_29 N () u) (hb_Pr_comes_29 N () m) := by
  unfold fb_Pr_comes_29 hb_Pr_comes_29
  exact rf_ret R rfl
theorem yb_Pr_comes_0 {N : Nat} {o : Option Nat} {c : Nat → Nat} {m : MS} {u : CS} (R : RP o c m u) {v0 : Nat} {v0' : Nat} {v1 : Int64} (h_v0 : PVn c v0 v0') : RF 0 o VE c u (fb_Pr_comes_0 N () u v0 v1) (hb_Pr_comes_0 N () m v0' v1) := by
  unfold fb_Pr_comes_0 hb_Pr_comes_0
  refine rf_bo (gq_7 R h_v0) ?_
  refine rf_br ?_ ?_
  · exact (yb_Pr_comes_29 R)
  · refine rf_bo (gR_P6 R h_v0) ?_
    refine rf_bo (gq_7 R h_v0) ?_
    refine rf_so ?_
    refine rf_wk (sq_6 R h_v0.1) (fun w5' w5 R_w5 => ?_)
    refine rf_bo (gq_7 R_w5 h_v0) ?_
    refine rf_w (wq_7 R_w5 h_v0) (fun w7' w7 R_w7 => ?_)
    exact (yb_Pr_comes_29 R_w7)
theorem ym_Pr_comes {N : Nat} {o : Option Nat} {c : Nat → Nat} {m : MS} {u : CS} (R : RP o c m u) {v0 : Nat} {v0' : Nat} {v1 : Int64} (h_v0 : PVn c v0 v0') : RF 0 o VE c u (fm_Pr_comes N u v0 v1) (hm_Pr_comes N m v0' v1) := yb_Pr_comes_0 (N := N) R h_v0
theorem yb_Pr_seekLink_2 {N : Nat} {o : Option Nat} {c : Nat → Nat} {m : MS} {u : CS} {G : (CS → Nat → Int32 → Int32 → Option (CS × Int32))} {G' : (MS → Nat → Int32 → Int32 → Option (MS × Int32))} (hG : ∀ (c : Nat → Nat) (m : MS) (u : CS) (v0 : Nat) (v0' : Nat) (v1 : Int32) (v2 : Int32), RP o c m u → PVn c v0 v0' → RF 0 o VE c u (G u v0 v1 v2) (G' m v0' v1 v2)) (R : RP o c m u) {v0 : Nat} {v0' : Nat} {v1 : Int32} {v2 : Int32} (h_v0 : PVn c v0 v0') : RF 0 o VE c u (fb_Pr_seekLink_2 N G u v0 v1 v2) (hb_Pr_seekLink_2 N G' m v0' v1 v2) := by
  unfold fb_Pr_seekLink_2 hb_Pr_seekLink_2
  refine rf_bo (gq_15 R h_v0) ?_
  refine rf_br ?_ ?_
  · exact rf_ret R rfl
  · refine rf_bo (gR_P14 R h_v0) ?_
    refine rf_so ?_
    refine rf_ai (aq_14 R h_v0.1) ?_
    refine rf_br ?_ ?_
    · exact rf_ret R rfl
    · exact (hG _ _ _ _ _ _ _ R h_v0)
theorem yb_Pr_seekLink_0 {N : Nat} {o : Option Nat} {c : Nat → Nat} {m : MS} {u : CS} {G : (CS → Nat → Int32 → Int32 → Option (CS × Int32))} {G' : (MS → Nat → Int32 → Int32 → Option (MS × Int32))} (hG : ∀ (c : Nat → Nat) (m : MS) (u : CS) (v0 : Nat) (v0' : Nat) (v1 : Int32) (v2 : Int32), RP o c m u → PVn c v0 v0' → RF 0 o VE c u (G u v0 v1 v2) (G' m v0' v1 v2)) (R : RP o c m u) {v0 : Nat} {v0' : Nat} {v1 : Int32} (h_v0 : PVn c v0 v0') : RF 0 o VE c u (fb_Pr_seekLink_0 N G u v0 v1) (hb_Pr_seekLink_0 N G' m v0' v1) := by
  unfold fb_Pr_seekLink_0 hb_Pr_seekLink_0
  exact (hG _ _ _ _ _ _ _ R h_v0)
theorem yg_Pr_seekLink {N : Nat} {o : Option Nat} : ∀ n, (∀ (c : Nat → Nat) (m : MS) (u : CS) (v0 : Nat) (v0' : Nat) (v1 : Int32) (v2 : Int32), RP o c m u → PVn c v0 v0' → RF 0 o VE c u ((gg_Pr_seekLink N n) u v0 v1 v2) ((hg_Pr_seekLink N n) m v0' v1 v2)) := by
  intro n
  induction n with
  | zero => exact fun c m u v0 v0' v1 v2 R h_v0 => rf_none
  | succ n ih => exact fun c m u v0 v0' v1 v2 R h_v0 => yb_Pr_seekLink_2 (N := N) ih R h_v0
theorem ym_Pr_seekLink {N : Nat} {o : Option Nat} {c : Nat → Nat} {m : MS} {u : CS} (R : RP o c m u) {v0 : Nat} {v0' : Nat} {v1 : Int32} (h_v0 : PVn c v0 v0') : RF 0 o VE c u (fm_Pr_seekLink N u v0 v1) (hm_Pr_seekLink N m v0' v1) := yb_Pr_seekLink_0 (N := N) (yg_Pr_seekLink (N := N) N) R h_v0
theorem yb_Pr_addLink_29 {N : Nat} {o : Option Nat} {c : Nat → Nat} {m : MS} {u : CS} (R : RP o c m u) : RF 0 o VE c u (fb_Pr_addLink_29 N () u) (hb_Pr_addLink_29 N () m) := by
  unfold fb_Pr_addLink_29 hb_Pr_addLink_29
  exact rf_ret R rfl
theorem yb_Pr_addLink_0 {N : Nat} {o : Option Nat} {c : Nat → Nat} {m : MS} {u : CS} (R : RP o c m u) {v0 : Nat} {v0' : Nat} {v1 : Int32} (h_v0 : PVn c v0 v0') : RF 0 o VE c u (fb_Pr_addLink_0 N () u v0 v1) (hb_Pr_addLink_0 N () m v0' v1) := by
  unfold fb_Pr_addLink_0 hb_Pr_addLink_0
  refine rf_bo (gq_15 R h_v0) ?_
  refine rf_br ?_ ?_
  · exact (yb_Pr_addLink_29 R)
  · refine rf_bo (gR_P14 R h_v0) ?_
    refine rf_bo (gq_15 R h_v0) ?_
    refine rf_so ?_
    refine rf_wk (sq_14 R h_v0.1) (fun w5' w5 R_w5 => ?_)
    refine rf_bo (gq_15 R_w5 h_v0) ?_
    refine rf_w (wq_15 R_w5 h_v0) (fun w7' w7 R_w7 => ?_)
    exact (yb_Pr_addLink_29 R_w7)
theorem ym_Pr_addLink {N : Nat} {o : Option Nat} {c : Nat → Nat} {m : MS} {u : CS} (R : RP o c m u) {v0 : Nat} {v0' : Nat} {v1 : Int32} (h_v0 : PVn c v0 v0') : RF 0 o VE c u (fm_Pr_addLink N u v0 v1) (hm_Pr_addLink N m v0' v1) := yb_Pr_addLink_0 (N := N) R h_v0
theorem yb_Wl_addWatch_50 {N : Nat} {o : Option Nat} {c : Nat → Nat} {m : MS} {u : CS} (R : RP o c m u) : RF 0 o VE c u (fb_Wl_addWatch_50 N () u) (hb_Wl_addWatch_50 N () m) := by
  unfold fb_Wl_addWatch_50 hb_Wl_addWatch_50
  exact rf_ret R rfl
theorem yb_Wl_addWatch_0 {N : Nat} {o : Option Nat} {c : Nat → Nat} {m : MS} {u : CS} (R : RP o c m u) {v1 : Int32} {v2 : Int32} {v3 : Int32} : RF 0 o VE c u (fb_Wl_addWatch_0 N () u 47 v1 v2 v3) (hb_Wl_addWatch_0 N () m v1 v2 v3) := by
  unfold fb_Wl_addWatch_0 hb_Wl_addWatch_0
  refine rf_bo (gx_47_10 R) ?_
  refine rf_br ?_ ?_
  · exact (yb_Wl_addWatch_50 R)
  · refine rf_bo (rx_47_7 R) ?_
    refine rf_bo (gx_47_10 R) ?_
    refine rf_so ?_
    refine rf_wk (sx_49 R) (fun w5' w5 R_w5 => ?_)
    refine rf_bo (rx_47_8 R_w5) ?_
    refine rf_bo (gx_47_10 R_w5) ?_
    refine rf_so ?_
    refine rf_wk (sx_50 R_w5) (fun w9' w9 R_w9 => ?_)
    refine rf_bo (rx_47_9 R_w9) ?_
    refine rf_bo (gx_47_10 R_w9) ?_
    refine rf_so ?_
    refine rf_wk (sx_51 R_w9) (fun w13' w13 R_w13 => ?_)
    refine rf_bo (gx_47_10 R_w13) ?_
    refine rf_w (px_47_10 R_w13) (fun w15' w15 R_w15 => ?_)
    exact (yb_Wl_addWatch_50 R_w15)
theorem ym_Wl_addWatch {N : Nat} {o : Option Nat} {c : Nat → Nat} {m : MS} {u : CS} (R : RP o c m u) {v1 : Int32} {v2 : Int32} {v3 : Int32} : RF 0 o VE c u (fm_Wl_addWatch N u 47 v1 v2 v3) (hm_Wl_addWatch N m v1 v2 v3) := yb_Wl_addWatch_0 (N := N) R
theorem yb_Ma_endList_20 {N : Nat} {p : Nat} {c : Nat → Nat} {m : MS} {u : CS} (R : RP (some p) c m u) {v1 : Int32} {v2 : Int32} : RF 0 (some p) VE c u (fb_Ma_endList_20 N () u 55 v1 v2) (hb_Ma_endList_20 N () m p v1 v2) := by
  unfold fb_Ma_endList_20 hb_Ma_endList_20
  refine rf_bo (gR_M3 R) ?_
  refine rf_soP R.md (fun j2 h_j2 => ?_)
  refine rf_w (wq_4 R h_j2) (fun w3' w3 R_w3 => ?_)
  exact rf_ret R_w3 rfl
theorem yb_Ma_endList_0 {N : Nat} {p : Nat} {c : Nat → Nat} {m : MS} {u : CS} (R : RP (some p) c m u) {v1 : Int32} {v2 : Int32} {v3 : Int64} : RF 0 (some p) VE c u (fb_Ma_endList_0 N () u 55 v1 v2 v3) (hb_Ma_endList_0 N () m p v1 v2 v3) := by
  unfold fb_Ma_endList_0 hb_Ma_endList_0
  refine rf_br ?_ ?_
  · exact (yb_Ma_endList_20 R)
  · refine rf_bo (gR_M3 R) ?_
    refine rf_soP R.md (fun j5 h_j5 => ?_)
    refine rf_bo (gR_P2 R h_j5) ?_
    refine rf_so ?_
    refine rf_wk (sq_2 R h_j5.1) (fun w8' w8 R_w8 => ?_)
    exact (yb_Ma_endList_20 R_w8)
theorem ym_Ma_endList {N : Nat} {p : Nat} {c : Nat → Nat} {m : MS} {u : CS} (R : RP (some p) c m u) {v1 : Int32} {v2 : Int32} {v3 : Int64} : RF 0 (some p) VE c u (fm_Ma_endList N u 55 v1 v2 v3) (hm_Ma_endList N m p v1 v2 v3) := yb_Ma_endList_0 (N := N) R
theorem yb_Fr_termOf_7 {N : Nat} {o : Option Nat} {c : Nat → Nat} {m : MS} {u : CS} {G : (CS → Nat → Int32 → Int32 → Option (CS × Int64))} {G' : (MS → Nat → Int32 → Int32 → Option (MS × Int64))} (hG : ∀ (c : Nat → Nat) (m : MS) (u : CS) (v0 : Nat) (v0' : Nat) (v1 : Int32) (v2 : Int32), RP o c m u → FVn c v0 v0' → RF 0 o VE c u (G u v0 v1 v2) (G' m v0' v1 v2)) (R : RP o c m u) {v0 : Nat} {v0' : Nat} {v1 : Int32} {v2 : Int32} (h_v0 : FVn c v0 v0') : RF 0 o VE c u (fb_Fr_termOf_7 N G u v0 v1 v2) (hb_Fr_termOf_7 N G' m v0' v1 v2) := by
  unfold fb_Fr_termOf_7 hb_Fr_termOf_7
  refine rf_br ?_ ?_
  · exact rf_ret R rfl
  · refine rf_bo (gR_F2 R h_v0) ?_
    refine rf_so ?_
    refine rf_ai (aq_32 R h_v0.1) ?_
    refine rf_br ?_ ?_
    · refine rf_bo (gR_F3 R h_v0) ?_
      refine rf_so ?_
      refine rf_ai (aq_33 R h_v0.1) ?_
      exact rf_ret R rfl
    · exact (hG _ _ _ _ _ _ _ R h_v0)
theorem yb_Fr_termOf_0 {N : Nat} {o : Option Nat} {c : Nat → Nat} {m : MS} {u : CS} {G : (CS → Nat → Int32 → Int32 → Option (CS × Int64))} {G' : (MS → Nat → Int32 → Int32 → Option (MS × Int64))} (hG : ∀ (c : Nat → Nat) (m : MS) (u : CS) (v0 : Nat) (v0' : Nat) (v1 : Int32) (v2 : Int32), RP o c m u → FVn c v0 v0' → RF 0 o VE c u (G u v0 v1 v2) (G' m v0' v1 v2)) (R : RP o c m u) {v0 : Nat} {v0' : Nat} {v1 : Int32} (h_v0 : FVn c v0 v0') : RF 0 o VE c u (fb_Fr_termOf_0 N G u v0 v1) (hb_Fr_termOf_0 N G' m v0' v1) := by
  unfold fb_Fr_termOf_0 hb_Fr_termOf_0
  refine rf_bo (gf_4 R h_v0) ?_
  exact (hG _ _ _ _ _ _ _ R h_v0)
theorem yg_Fr_termOf {N : Nat} {o : Option Nat} : ∀ n, (∀ (c : Nat → Nat) (m : MS) (u : CS) (v0 : Nat) (v0' : Nat) (v1 : Int32) (v2 : Int32), RP o c m u → FVn c v0 v0' → RF 0 o VE c u ((gg_Fr_termOf N n) u v0 v1 v2) ((hg_Fr_termOf N n) m v0' v1 v2)) := by
  intro n
  induction n with
  | zero => exact fun c m u v0 v0' v1 v2 R h_v0 => rf_none
  | succ n ih => exact fun c m u v0 v0' v1 v2 R h_v0 => yb_Fr_termOf_7 (N := N) ih R h_v0
theorem ym_Fr_termOf {N : Nat} {o : Option Nat} {c : Nat → Nat} {m : MS} {u : CS} (R : RP o c m u) {v0 : Nat} {v0' : Nat} {v1 : Int32} (h_v0 : FVn c v0 v0') : RF 0 o VE c u (fm_Fr_termOf N u v0 v1) (hm_Fr_termOf N m v0' v1) := yb_Fr_termOf_0 (N := N) (yg_Fr_termOf (N := N) N) R h_v0
theorem yb_Ma_sizes_5 {N : Nat} {p : Nat} {c : Nat → Nat} {m : MS} {u : CS} {G : (CS → Nat → Int32 → Int32 → Int32 → Option (CS × Int32))} {G' : (MS → Nat → Int32 → Int32 → Int32 → Option (MS × Int32))} (hG : ∀ (c : Nat → Nat) (m : MS) (u : CS) (v1 : Int32) (v3 : Int32) (v4 : Int32), RP (some p) c m u → RF 0 (some p) VE c u (G u 55 v1 v3 v4) (G' m p v1 v3 v4)) (R : RP (some p) c m u) {v1 : Int32} {v3 : Int32} {v4 : Int32} : RF 0 (some p) VE c u (fb_Ma_sizes_5 N G u 55 v1 v3 v4) (hb_Ma_sizes_5 N G' m p v1 v3 v4) := by
  unfold fb_Ma_sizes_5 hb_Ma_sizes_5
  refine rf_br ?_ ?_
  · exact rf_ret R rfl
  · refine rf_bo (rx_55_2 R) ?_
    refine rf_bo (gR_M3 R) ?_
    refine rf_soP R.md (fun j3 h_j3 => ?_)
    refine rf_bo (gR_P2 R h_j3) ?_
    refine rf_bo (gR_M4 R) ?_
    refine rf_soF R.md (fun j7 h_j7 => ?_)
    refine rf_ck (io_F R h_j7) ?_
    refine rf_bx0 (ym_Fr_below R h_j7) (fun u6' u6 r6 R_u6 => ?_)
    refine rf_so ?_
    refine rf_ck (ox_43 R_u6) ?_
    refine rf_bx0 (ym_Te_size R_u6 ⟨_, h_j3.1, rfl, rfl⟩) (fun u8' u8 r8 R_u8 => ?_)
    exact (hG _ _ _ _ _ _ R_u8)
theorem yb_Ma_sizes_0 {N : Nat} {p : Nat} {c : Nat → Nat} {m : MS} {u : CS} {G : (CS → Nat → Int32 → Int32 → Int32 → Option (CS × Int32))} {G' : (MS → Nat → Int32 → Int32 → Int32 → Option (MS × Int32))} (hG : ∀ (c : Nat → Nat) (m : MS) (u : CS) (v1 : Int32) (v3 : Int32) (v4 : Int32), RP (some p) c m u → RF 0 (some p) VE c u (G u 55 v1 v3 v4) (G' m p v1 v3 v4)) (R : RP (some p) c m u) {v1 : Int32} {v2 : Int32} : RF 0 (some p) VE c u (fb_Ma_sizes_0 N G u 55 v1 v2) (hb_Ma_sizes_0 N G' m p v1 v2) := by
  unfold fb_Ma_sizes_0 hb_Ma_sizes_0
  exact (hG _ _ _ _ _ _ R)
theorem yg_Ma_sizes {N : Nat} {p : Nat} : ∀ n, (∀ (c : Nat → Nat) (m : MS) (u : CS) (v1 : Int32) (v3 : Int32) (v4 : Int32), RP (some p) c m u → RF 0 (some p) VE c u ((gg_Ma_sizes N n) u 55 v1 v3 v4) ((hg_Ma_sizes N n) m p v1 v3 v4)) := by
  intro n
  induction n with
  | zero => exact fun c m u v1 v3 v4 R => rf_none
  | succ n ih => exact fun c m u v1 v3 v4 R => yb_Ma_sizes_5 (N := N) ih R
theorem ym_Ma_sizes {N : Nat} {p : Nat} {c : Nat → Nat} {m : MS} {u : CS} (R : RP (some p) c m u) {v1 : Int32} {v2 : Int32} : RF 0 (some p) VE c u (fm_Ma_sizes N u 55 v1 v2) (hm_Ma_sizes N m p v1 v2) := yb_Ma_sizes_0 (N := N) (yg_Ma_sizes (N := N) N) R
theorem yb_Wo_order_94 {N : Nat} {o : Option Nat} {c : Nat → Nat} {m : MS} {u : CS} {G : (CS → Nat → Int32 → Int32 → Int32 → Int32 → Int32 → Option (CS × Int32))} {G' : (MS → Nat → Int32 → Int32 → Int32 → Int32 → Int32 → Option (MS × Int32))} (hG : ∀ (c : Nat → Nat) (m : MS) (u : CS) (v0 : Nat) (v1 : Int32) (v2 : Int32) (v3 : Int32) (v4 : Int32) (v5 : Int32), RP o c m u → isWd v0 → RF 0 o VE c u (G u v0 v1 v2 v3 v4 v5) (G' m v0 v1 v2 v3 v4 v5)) (R : RP o c m u) {v3 : Int32} {v4 : Int32} : RF 0 o VE c u (fb_Wo_order_94 N G u v3 v4) (hb_Wo_order_94 N G' m v3 v4) := by
  unfold fb_Wo_order_94 hb_Wo_order_94
  exact rf_ret R rfl
theorem yb_Wo_order_36 {N : Nat} {o : Option Nat} {c : Nat → Nat} {m : MS} {u : CS} {G : (CS → Nat → Int32 → Int32 → Int32 → Int32 → Int32 → Option (CS × Int32))} {G' : (MS → Nat → Int32 → Int32 → Int32 → Int32 → Int32 → Option (MS × Int32))} (hG : ∀ (c : Nat → Nat) (m : MS) (u : CS) (v0 : Nat) (v1 : Int32) (v2 : Int32) (v3 : Int32) (v4 : Int32) (v5 : Int32), RP o c m u → isWd v0 → RF 0 o VE c u (G u v0 v1 v2 v3 v4 v5) (G' m v0 v1 v2 v3 v4 v5)) (R : RP o c m u) {v0 : Nat} {v1 : Int32} {v2 : Int32} {v3 : Int32} {v4 : Int32} {v5 : Int32} (h_v0 : isWd v0) : RF 0 o VE c u (fb_Wo_order_36 N G u v0 v1 v2 v3 v4 v5) (hb_Wo_order_36 N G' m v0 v1 v2 v3 v4 v5) := by
  unfold fb_Wo_order_36 hb_Wo_order_36
  refine rf_br ?_ ?_
  · exact (yb_Wo_order_94 hG R)
  · refine rf_br ?_ ?_
    · exact (yb_Wo_order_94 hG R)
    · refine rf_bo (gr_W0 R h_v0) ?_
      refine rf_bo (gr_W1 R h_v0) ?_
      refine rf_so ?_
      refine rf_ai (ai_W R h_v0) ?_
      refine rf_so ?_
      refine rf_ai (ai_B R (By_w h_v0)) ?_
      refine rf_bo (gr_W0 R h_v0) ?_
      refine rf_bo (gr_W1 R h_v0) ?_
      refine rf_so ?_
      refine rf_ai (ai_W R h_v0) ?_
      refine rf_so ?_
      refine rf_ai (ai_B R (By_w h_v0)) ?_
      refine rf_br ?_ ?_
      · exact (hG _ _ _ _ _ _ _ _ _ R h_v0)
      · exact rf_ret R rfl
theorem yb_Wo_order_0 {N : Nat} {o : Option Nat} {c : Nat → Nat} {m : MS} {u : CS} {G : (CS → Nat → Int32 → Int32 → Int32 → Int32 → Int32 → Option (CS × Int32))} {G' : (MS → Nat → Int32 → Int32 → Int32 → Int32 → Int32 → Option (MS × Int32))} (hG : ∀ (c : Nat → Nat) (m : MS) (u : CS) (v0 : Nat) (v1 : Int32) (v2 : Int32) (v3 : Int32) (v4 : Int32) (v5 : Int32), RP o c m u → isWd v0 → RF 0 o VE c u (G u v0 v1 v2 v3 v4 v5) (G' m v0 v1 v2 v3 v4 v5)) (R : RP o c m u) {v0 : Nat} {v1 : Int32} {v2 : Int32} (h_v0 : isWd v0) : RF 0 o VE c u (fb_Wo_order_0 N G u v0 v1 v2) (hb_Wo_order_0 N G' m v0 v1 v2) := by
  unfold fb_Wo_order_0 hb_Wo_order_0
  refine rf_bo (gr_W1 R h_v0) ?_
  refine rf_so ?_
  refine rf_ai (ai_W R h_v0) ?_
  refine rf_bo (gr_W1 R h_v0) ?_
  refine rf_so ?_
  refine rf_ai (ai_W R h_v0) ?_
  refine rf_bo (gr_W1 R h_v0) ?_
  refine rf_so ?_
  refine rf_ai (ai_W R h_v0) ?_
  refine rf_bo (gr_W1 R h_v0) ?_
  refine rf_so ?_
  refine rf_ai (ai_W R h_v0) ?_
  exact (hG _ _ _ _ _ _ _ _ _ R h_v0)
theorem yg_Wo_order {N : Nat} {o : Option Nat} : ∀ n, (∀ (c : Nat → Nat) (m : MS) (u : CS) (v0 : Nat) (v1 : Int32) (v2 : Int32) (v3 : Int32) (v4 : Int32) (v5 : Int32), RP o c m u → isWd v0 → RF 0 o VE c u ((gg_Wo_order N n) u v0 v1 v2 v3 v4 v5) ((hg_Wo_order N n) m v0 v1 v2 v3 v4 v5)) := by
  intro n
  induction n with
  | zero => exact fun c m u v0 v1 v2 v3 v4 v5 R h_v0 => rf_none
  | succ n ih => exact fun c m u v0 v1 v2 v3 v4 v5 R h_v0 => yb_Wo_order_36 (N := N) ih R h_v0
theorem ym_Wo_order {N : Nat} {o : Option Nat} {c : Nat → Nat} {m : MS} {u : CS} (R : RP o c m u) {v0 : Nat} {v1 : Int32} {v2 : Int32} (h_v0 : isWd v0) : RF 0 o VE c u (fm_Wo_order N u v0 v1 v2) (hm_Wo_order N m v0 v1 v2) := yb_Wo_order_0 (N := N) (yg_Wo_order (N := N) N) R h_v0
theorem yb_Te_partsOf_28 {N : Nat} {o : Option Nat} {c : Nat → Nat} {m : MS} {u : CS} (R : RP o c m u) {t0 : Int32} : RF 0 o VE c u (fb_Te_partsOf_28 N () u t0) (hb_Te_partsOf_28 N () m t0) := by
  unfold fb_Te_partsOf_28 hb_Te_partsOf_28
  exact rf_ret R rfl
theorem yb_Te_partsOf_0 {N : Nat} {o : Option Nat} {c : Nat → Nat} {m : MS} {u : CS} (R : RP o c m u) {v0 : Int64} {v2 : Int32} : RF 0 o VE c u (fb_Te_partsOf_0 N () u v0 v2) (hb_Te_partsOf_0 N () m v0 v2) := by
  unfold fb_Te_partsOf_0 hb_Te_partsOf_0
  refine rf_bx0 (ym_Te_tag R) (fun u1' u1 r1 R_u1 => ?_)
  refine rf_br ?_ ?_
  · exact (yb_Te_partsOf_28 R_u1)
  · refine rf_br ?_ ?_
    · exact (yb_Te_partsOf_28 R_u1)
    · exact (yb_Te_partsOf_28 R_u1)
theorem ym_Te_partsOf {N : Nat} {o : Option Nat} {c : Nat → Nat} {m : MS} {u : CS} (R : RP o c m u) {v0 : Int64} {v2 : Int32} : RF 0 o VE c u (fm_Te_partsOf N u v0 v2) (hm_Te_partsOf N m v0 v2) := yb_Te_partsOf_0 (N := N) R
theorem yb_Ma_holds_119 {N : Nat} {o : Option Nat} {c : Nat → Nat} {m : MS} {u : CS} (R : RP o c m u) {t0 : Int32} : RF 0 o VE c u (fb_Ma_holds_119 N () u t0) (hb_Ma_holds_119 N () m t0) := by
  unfold fb_Ma_holds_119 hb_Ma_holds_119
  refine rf_ckk ?_
  exact rf_ret R rfl
theorem yb_Ma_holds_109 {N : Nat} {o : Option Nat} {c : Nat → Nat} {m : MS} {u : CS} (R : RP o c m u) {t0 : Int32} : RF 0 o VE c u (fb_Ma_holds_109 N () u t0) (hb_Ma_holds_109 N () m t0) := by
  unfold fb_Ma_holds_109 hb_Ma_holds_109
  refine rf_ckk ?_
  exact rf_ret R rfl
theorem yb_Ma_holds_99 {N : Nat} {o : Option Nat} {c : Nat → Nat} {m : MS} {u : CS} (R : RP o c m u) {t0 : Int32} : RF 0 o VE c u (fb_Ma_holds_99 N () u t0) (hb_Ma_holds_99 N () m t0) := by
  unfold fb_Ma_holds_99 hb_Ma_holds_99
  refine rf_ckk ?_
  exact rf_ret R rfl
theorem yb_Ma_holds_89 {N : Nat} {o : Option Nat} {c : Nat → Nat} {m : MS} {u : CS} (R : RP o c m u) {t0 : Int32} : RF 0 o VE c u (fb_Ma_holds_89 N () u t0) (hb_Ma_holds_89 N () m t0) := by
  unfold fb_Ma_holds_89 hb_Ma_holds_89
  refine rf_ckk ?_
  exact rf_ret R rfl
theorem yb_Ma_holds_79 {N : Nat} {o : Option Nat} {c : Nat → Nat} {m : MS} {u : CS} (R : RP o c m u) {t0 : Int32} : RF 0 o VE c u (fb_Ma_holds_79 N () u t0) (hb_Ma_holds_79 N () m t0) := by
  unfold fb_Ma_holds_79 hb_Ma_holds_79
  refine rf_ckk ?_
  exact rf_ret R rfl
theorem yb_Ma_holds_69 {N : Nat} {o : Option Nat} {c : Nat → Nat} {m : MS} {u : CS} (R : RP o c m u) {t0 : Int32} : RF 0 o VE c u (fb_Ma_holds_69 N () u t0) (hb_Ma_holds_69 N () m t0) := by
  unfold fb_Ma_holds_69 hb_Ma_holds_69
  refine rf_ckk ?_
  exact rf_ret R rfl
theorem yb_Ma_holds_0 {N : Nat} {o : Option Nat} {c : Nat → Nat} {m : MS} {u : CS} (R : RP o c m u) {v0 : Int32} {v1 : Int32} : RF 0 o VE c u (fb_Ma_holds_0 N () u v0 v1) (hb_Ma_holds_0 N () m v0 v1) := by
  unfold fb_Ma_holds_0 hb_Ma_holds_0
  refine rf_br ?_ ?_
  · refine rf_br ?_ ?_
    · exact (yb_Ma_holds_89 R)
    · exact (yb_Ma_holds_89 R)
  · refine rf_br ?_ ?_
    · refine rf_br ?_ ?_
      · exact (yb_Ma_holds_109 R)
      · exact (yb_Ma_holds_109 R)
    · refine rf_br ?_ ?_
      · refine rf_br ?_ ?_
        · exact (yb_Ma_holds_119 R)
        · exact (yb_Ma_holds_119 R)
      · refine rf_br ?_ ?_
        · refine rf_br ?_ ?_
          · exact (yb_Ma_holds_119 R)
          · exact (yb_Ma_holds_119 R)
        · refine rf_br ?_ ?_
          · refine rf_br ?_ ?_
            · exact (yb_Ma_holds_119 R)
            · exact (yb_Ma_holds_119 R)
          · refine rf_br ?_ ?_
            · refine rf_br ?_ ?_
              · exact (yb_Ma_holds_119 R)
              · exact (yb_Ma_holds_119 R)
            · refine rf_br ?_ ?_
              · refine rf_br ?_ ?_
                · exact (yb_Ma_holds_119 R)
                · exact (yb_Ma_holds_119 R)
              · refine rf_br ?_ ?_
                · refine rf_br ?_ ?_
                  · exact (yb_Ma_holds_119 R)
                  · exact (yb_Ma_holds_119 R)
                · refine rf_br ?_ ?_
                  · refine rf_br ?_ ?_
                    · exact (yb_Ma_holds_69 R)
                    · exact (yb_Ma_holds_69 R)
                  · refine rf_br ?_ ?_
                    · refine rf_br ?_ ?_
                      · exact (yb_Ma_holds_79 R)
                      · exact (yb_Ma_holds_79 R)
                    · refine rf_br ?_ ?_
                      · refine rf_br ?_ ?_
                        · exact (yb_Ma_holds_99 R)
                        · exact (yb_Ma_holds_99 R)
                      · refine rf_br ?_ ?_
                        · exact (yb_Ma_holds_119 R)
                        · exact (yb_Ma_holds_119 R)
theorem ym_Ma_holds {N : Nat} {o : Option Nat} {c : Nat → Nat} {m : MS} {u : CS} (R : RP o c m u) {v0 : Int32} {v1 : Int32} : RF 0 o VE c u (fm_Ma_holds N u v0 v1) (hm_Ma_holds N m v0 v1) := yb_Ma_holds_0 (N := N) R
theorem yb_Ma_fitsString_107 {N : Nat} {p : Nat} {c : Nat → Nat} {m : MS} {u : CS} {G : (CS → Nat → Int32 → Int64 → Int32 → Int32 → Option (CS × Int32))} {G' : (MS → Nat → Int32 → Int64 → Int32 → Int32 → Option (MS × Int32))} (hG : ∀ (c : Nat → Nat) (m : MS) (u : CS) (v1 : Int32) (v4 : Int64) (v6 : Int32) (v7 : Int32), RP (some p) c m u → RF 0 (some p) VE c u (G u 55 v1 v4 v6 v7) (G' m p v1 v4 v6 v7)) (R : RP (some p) c m u) {t0 : Int32} : RF 0 (some p) VE c u (fb_Ma_fitsString_107 N G u t0) (hb_Ma_fitsString_107 N G' m p t0) := by
  unfold fb_Ma_fitsString_107 hb_Ma_fitsString_107
  refine rf_ckk ?_
  exact rf_ret R rfl
theorem yb_Ma_fitsString_18 {N : Nat} {p : Nat} {c : Nat → Nat} {m : MS} {u : CS} {G : (CS → Nat → Int32 → Int64 → Int32 → Int32 → Option (CS × Int32))} {G' : (MS → Nat → Int32 → Int64 → Int32 → Int32 → Option (MS × Int32))} (hG : ∀ (c : Nat → Nat) (m : MS) (u : CS) (v1 : Int32) (v4 : Int64) (v6 : Int32) (v7 : Int32), RP (some p) c m u → RF 0 (some p) VE c u (G u 55 v1 v4 v6 v7) (G' m p v1 v4 v6 v7)) (R : RP (some p) c m u) {v1 : Int32} {v4 : Int64} {v6 : Int32} {v7 : Int32} : RF 0 (some p) VE c u (fb_Ma_fitsString_18 N G u 55 v1 v4 v6 v7) (hb_Ma_fitsString_18 N G' m p v1 v4 v6 v7) := by
  unfold fb_Ma_fitsString_18 hb_Ma_fitsString_18
  refine rf_br ?_ ?_
  · refine rf_bx0 (ym_Te_tag R) (fun u1' u1 r1 R_u1 => ?_)
    refine rf_br ?_ ?_
    · exact (yb_Ma_fitsString_107 hG R_u1)
    · exact (yb_Ma_fitsString_107 hG R_u1)
  · refine rf_bx0 (ym_Te_tag R) (fun u2' u2 r2 R_u2 => ?_)
    refine rf_br ?_ ?_
    · refine rf_bo (gR_M3 R_u2) ?_
      refine rf_soP R_u2.md (fun j4 h_j4 => ?_)
      refine rf_bo (gR_P2 R_u2 h_j4) ?_
      refine rf_so ?_
      refine rf_ai (aq_2 R_u2 h_j4.1) ?_
      refine rf_bo (rx_55_0 R_u2) ?_
      refine rf_so ?_
      refine rf_ck (ox_22 R_u2) ?_
      refine rf_bx0 (ym_Co_at R_u2) (fun u9' u9 r9 R_u9 => ?_)
      refine rf_bx0 (ym_Te_make R_u9) (fun u11' u11 r11 R_u11 => ?_)
      refine rf_br ?_ ?_
      · refine rf_bo (gR_M3 R_u11) ?_
        refine rf_soP R_u11.md (fun j13 h_j13 => ?_)
        refine rf_bo (gR_P2 R_u11 h_j13) ?_
        refine rf_so ?_
        refine rf_ai (aq_2 R_u11 h_j13.1) ?_
        exact (hG _ _ _ _ _ _ _ R_u11)
      · refine rf_ckk ?_
        exact rf_ret R_u11 rfl
    · refine rf_ckk ?_
      exact rf_ret R_u2 rfl
theorem yb_Ma_fitsString_0 {N : Nat} {p : Nat} {c : Nat → Nat} {m : MS} {u : CS} {G : (CS → Nat → Int32 → Int64 → Int32 → Int32 → Option (CS × Int32))} {G' : (MS → Nat → Int32 → Int64 → Int32 → Int32 → Option (MS × Int32))} (hG : ∀ (c : Nat → Nat) (m : MS) (u : CS) (v1 : Int32) (v4 : Int64) (v6 : Int32) (v7 : Int32), RP (some p) c m u → RF 0 (some p) VE c u (G u 55 v1 v4 v6 v7) (G' m p v1 v4 v6 v7)) (R : RP (some p) c m u) {v1 : Int32} {v2 : Int64} : RF 0 (some p) VE c u (fb_Ma_fitsString_0 N G u 55 v1 v2) (hb_Ma_fitsString_0 N G' m p v1 v2) := by
  unfold fb_Ma_fitsString_0 hb_Ma_fitsString_0
  refine rf_bo (rx_55_0 R) ?_
  refine rf_so ?_
  refine rf_ck (ox_22 R) ?_
  refine rf_bx0 (ym_Co_at R) (fun u18' u18 r18 R_u18 => ?_)
  exact (hG _ _ _ _ _ _ _ R_u18)
theorem yg_Ma_fitsString {N : Nat} {p : Nat} : ∀ n, (∀ (c : Nat → Nat) (m : MS) (u : CS) (v1 : Int32) (v4 : Int64) (v6 : Int32) (v7 : Int32), RP (some p) c m u → RF 0 (some p) VE c u ((gg_Ma_fitsString N n) u 55 v1 v4 v6 v7) ((hg_Ma_fitsString N n) m p v1 v4 v6 v7)) := by
  intro n
  induction n with
  | zero => exact fun c m u v1 v4 v6 v7 R => rf_none
  | succ n ih => exact fun c m u v1 v4 v6 v7 R => yb_Ma_fitsString_18 (N := N) ih R
theorem ym_Ma_fitsString {N : Nat} {p : Nat} {c : Nat → Nat} {m : MS} {u : CS} (R : RP (some p) c m u) {v1 : Int32} {v2 : Int64} : RF 0 (some p) VE c u (fm_Ma_fitsString N u 55 v1 v2) (hm_Ma_fitsString N m p v1 v2) := yb_Ma_fitsString_0 (N := N) (yg_Ma_fitsString (N := N) N) R
theorem yb_Fr_setLine_0 {N : Nat} {o : Option Nat} {c : Nat → Nat} {m : MS} {u : CS} (R : RP o c m u) {v0 : Nat} {v0' : Nat} {v1 : Int32} (h_v0 : FVn c v0 v0') : RF 0 o VE c u (fb_Fr_setLine_0 N () u v0 v1) (hb_Fr_setLine_0 N () m v0' v1) := by
  unfold fb_Fr_setLine_0 hb_Fr_setLine_0
  refine rf_ck (io_F R h_v0) ?_
  refine rf_bx0 (ym_Fr_set R h_v0) (fun u1' u1 r1 R_u1 => ?_)
  exact rf_ret R_u1 rfl
theorem ym_Fr_setLine {N : Nat} {o : Option Nat} {c : Nat → Nat} {m : MS} {u : CS} (R : RP o c m u) {v0 : Nat} {v0' : Nat} {v1 : Int32} (h_v0 : FVn c v0 v0') : RF 0 o VE c u (fm_Fr_setLine N u v0 v1) (hm_Fr_setLine N m v0' v1) := yb_Fr_setLine_0 (N := N) R h_v0
theorem yb_Ma_begins_57 {N : Nat} {p : Nat} {c : Nat → Nat} {m : MS} {u : CS} (R : RP (some p) c m u) : RF 0 (some p) VE c u (fb_Ma_begins_57 N () u 55) (hb_Ma_begins_57 N () m p) := by
  unfold fb_Ma_begins_57 hb_Ma_begins_57
  refine rf_bo (gx_55_6 R) ?_
  refine rf_w (px_55_6 R) (fun w2' w2 R_w2 => ?_)
  refine rf_bo (gR_M3 R_w2) ?_
  refine rf_soP R_w2.md (fun j4 h_j4 => ?_)
  refine rf_bo (gq_13 R_w2 h_j4) ?_
  refine rf_w (wq_13 R_w2 h_j4) (fun w6' w6 R_w6 => ?_)
  refine rf_bo (rx_55_1 R_w6) ?_
  refine rf_so ?_
  refine rf_bo (gx_47_6 R_w6) ?_
  refine rf_w (px_47_6 R_w6) (fun w10' w10 R_w10 => ?_)
  refine rf_ckk ?_
  exact rf_ret R_w10 rfl
theorem yb_Ma_begins_0 {N : Nat} {p : Nat} {c : Nat → Nat} {m : MS} {u : CS} (R : RP (some p) c m u) {v1 : Int32} {v2 : Int32} : RF 0 (some p) VE c u (fb_Ma_begins_0 N () u 55 v1 v2) (hb_Ma_begins_0 N () m p v1 v2) := by
  unfold fb_Ma_begins_0 hb_Ma_begins_0
  refine rf_bo (gx_55_6 R) ?_
  refine rf_bo (gx_55_7 R) ?_
  refine rf_br ?_ ?_
  · refine rf_br ?_ ?_
    · refine rf_bo (gR_M4 R) ?_
      refine rf_soF R.md (fun j14 h_j14 => ?_)
      refine rf_bo (gf_1 R h_j14) ?_
      refine rf_br ?_ ?_
      · exact (yb_Ma_begins_57 R)
      · refine rf_bo (rx_55_1 R) ?_
        refine rf_bo (gR_M3 R) ?_
        refine rf_so ?_
        refine rf_ck (ox_47 R) ?_
        refine rf_bx0 (ym_Wl_endsBy R ⟨R.md, rfl⟩) (fun u18' u18 r18 R_u18 => ?_)
        refine rf_ckk ?_
        exact rf_ret R_u18 rfl
    · exact (yb_Ma_begins_57 R)
  · refine rf_w (px_55_8 R) (fun w20' w20 R_w20 => ?_)
    refine rf_bo (gR_M4 R_w20) ?_
    refine rf_soF R_w20.md (fun j22 h_j22 => ?_)
    refine rf_w (wf_9 R_w20 h_j22) (fun w23' w23 R_w23 => ?_)
    refine rf_ckk ?_
    exact rf_ret R_w23 rfl
theorem ym_Ma_begins {N : Nat} {p : Nat} {c : Nat → Nat} {m : MS} {u : CS} (R : RP (some p) c m u) {v1 : Int32} {v2 : Int32} : RF 0 (some p) VE c u (fm_Ma_begins N u 55 v1 v2) (hm_Ma_begins N m p v1 v2) := yb_Ma_begins_0 (N := N) R
theorem yb_Fr_setPlace_0 {N : Nat} {o : Option Nat} {c : Nat → Nat} {m : MS} {u : CS} (R : RP o c m u) {v0 : Nat} {v0' : Nat} {v1 : Int32} (h_v0 : FVn c v0 v0') : RF 0 o VE c u (fb_Fr_setPlace_0 N () u v0 v1) (hb_Fr_setPlace_0 N () m v0' v1) := by
  unfold fb_Fr_setPlace_0 hb_Fr_setPlace_0
  refine rf_ck (io_F R h_v0) ?_
  refine rf_bx0 (ym_Fr_set R h_v0) (fun u1' u1 r1 R_u1 => ?_)
  exact rf_ret R_u1 rfl
theorem ym_Fr_setPlace {N : Nat} {o : Option Nat} {c : Nat → Nat} {m : MS} {u : CS} (R : RP o c m u) {v0 : Nat} {v0' : Nat} {v1 : Int32} (h_v0 : FVn c v0 v0') : RF 0 o VE c u (fm_Fr_setPlace N u v0 v1) (hm_Fr_setPlace N m v0' v1) := yb_Fr_setPlace_0 (N := N) R h_v0
theorem yb_Ma_nextMessage_78 {N : Nat} {p : Nat} {c : Nat → Nat} {m : MS} {u : CS} (R : RP (some p) c m u) : RF 0 (some p) VE c u (fb_Ma_nextMessage_78 N () u) (hb_Ma_nextMessage_78 N () m p) := by
  unfold fb_Ma_nextMessage_78 hb_Ma_nextMessage_78
  exact rf_ret R rfl
theorem yb_Ma_nextMessage_0 {N : Nat} {p : Nat} {c : Nat → Nat} {m : MS} {u : CS} (R : RP (some p) c m u) {v1 : Int32} : RF 0 (some p) VE c u (fb_Ma_nextMessage_0 N () u 55 v1) (hb_Ma_nextMessage_0 N () m p v1) := by
  unfold fb_Ma_nextMessage_0 hb_Ma_nextMessage_0
  refine rf_bo (gR_M3 R) ?_
  refine rf_soP R.md (fun j2 h_j2 => ?_)
  refine rf_bo (gq_8 R h_j2) ?_
  refine rf_bo (gR_M3 R) ?_
  refine rf_soP R.md (fun j5 h_j5 => ?_)
  refine rf_bo (gq_7 R h_j5) ?_
  refine rf_br ?_ ?_
  · refine rf_bo (rx_55_1 R) ?_
    refine rf_bo (gR_M3 R) ?_
    refine rf_so ?_
    refine rf_ck (ox_47 R) ?_
    refine rf_bx0 (ym_Wl_isReady R ⟨R.md, rfl⟩) (fun u9' u9 r9 R_u9 => ?_)
    refine rf_br ?_ ?_
    · refine rf_bo (gR_M3 R_u9) ?_
      refine rf_soP R_u9.md (fun j12 h_j12 => ?_)
      refine rf_w (wq_9 R_u9 h_j12) (fun w13' w13 R_w13 => ?_)
      exact (yb_Ma_nextMessage_78 R_w13)
    · refine rf_bo (gR_M3 R_u9) ?_
      refine rf_soP R_u9.md (fun j15 h_j15 => ?_)
      refine rf_w (wq_8 R_u9 h_j15) (fun w16' w16 R_w16 => ?_)
      refine rf_bo (gR_M3 R_w16) ?_
      refine rf_soP R_w16.md (fun j18 h_j18 => ?_)
      refine rf_w (lq_10 R_w16 h_j18) (fun w19' w19 R_w19 => ?_)
      refine rf_w (px_55_5 R_w19) (fun w20' w20 R_w20 => ?_)
      exact (yb_Ma_nextMessage_78 R_w20)
  · refine rf_bo (gx_55_5 R) ?_
    refine rf_w (px_55_5 R) (fun w22' w22 R_w22 => ?_)
    exact (yb_Ma_nextMessage_78 R_w22)
theorem ym_Ma_nextMessage {N : Nat} {p : Nat} {c : Nat → Nat} {m : MS} {u : CS} (R : RP (some p) c m u) {v1 : Int32} : RF 0 (some p) VE c u (fm_Ma_nextMessage N u 55 v1) (hm_Ma_nextMessage N m p v1) := yb_Ma_nextMessage_0 (N := N) R
theorem yb_Fr_leave_0 {N : Nat} {o : Option Nat} {c : Nat → Nat} {m : MS} {u : CS} (R : RP o c m u) {v0 : Nat} {v0' : Nat} (h_v0 : FVn c v0 v0') : RF 0 o VE c u (fb_Fr_leave_0 N () u v0) (hb_Fr_leave_0 N () m v0') := by
  unfold fb_Fr_leave_0 hb_Fr_leave_0
  refine rf_bo (gf_1 R h_v0) ?_
  refine rf_ck (io_F R h_v0) ?_
  refine rf_bx0 (ym_Fr_of R h_v0) (fun u2' u2 r2 R_u2 => ?_)
  refine rf_w (wf_6 R_u2 h_v0) (fun w3' w3 R_w3 => ?_)
  refine rf_bo (gf_1 R_w3 h_v0) ?_
  refine rf_ck (io_F R_w3 h_v0) ?_
  refine rf_bx0 (ym_Fr_of R_w3 h_v0) (fun u5' u5 r5 R_u5 => ?_)
  refine rf_w (wf_4 R_u5 h_v0) (fun w6' w6 R_w6 => ?_)
  refine rf_bo (gf_1 R_w6 h_v0) ?_
  refine rf_w (wf_1 R_w6 h_v0) (fun w8' w8 R_w8 => ?_)
  exact rf_ret R_w8 rfl
theorem ym_Fr_leave {N : Nat} {o : Option Nat} {c : Nat → Nat} {m : MS} {u : CS} (R : RP o c m u) {v0 : Nat} {v0' : Nat} (h_v0 : FVn c v0 v0') : RF 0 o VE c u (fm_Fr_leave N u v0) (hm_Fr_leave N m v0') := yb_Fr_leave_0 (N := N) R h_v0
theorem yb_Pr_pair_0 {N : Nat} {o : Option Nat} {c : Nat → Nat} {m : MS} {u : CS} (R : RP o c m u) {v0 : Nat} {v0' : Nat} {v1 : Int32} {v2 : Int64} (h_v0 : PVn c v0 v0') : RF 0 o VE c u (fb_Pr_pair_0 N () u v0 v1 v2) (hb_Pr_pair_0 N () m v0' v1 v2) := by
  unfold fb_Pr_pair_0 hb_Pr_pair_0
  refine rf_bo (gq_4 R h_v0) ?_
  refine rf_br ?_ ?_
  · refine rf_bo (gq_4 R h_v0) ?_
    refine rf_bo (gR_P2 R h_v0) ?_
    refine rf_bx0 (ym_Te_make R) (fun u4' u4 r4 R_u4 => ?_)
    refine rf_so ?_
    refine rf_wk (sq_2 R_u4 h_v0.1) (fun w6' w6 R_w6 => ?_)
    refine rf_bo (gR_P2 R_w6 h_v0) ?_
    refine rf_bx0 (ym_Te_make R_w6) (fun u8' u8 r8 R_u8 => ?_)
    refine rf_so ?_
    refine rf_wk (sq_2 R_u8 h_v0.1) (fun w10' w10 R_w10 => ?_)
    refine rf_bo (gR_P2 R_w10 h_v0) ?_
    refine rf_so ?_
    refine rf_wk (sq_2 R_w10 h_v0.1) (fun w13' w13 R_w13 => ?_)
    refine rf_bo (gq_4 R_w13 h_v0) ?_
    refine rf_w (wq_4 R_w13 h_v0) (fun w15' w15 R_w15 => ?_)
    refine rf_bx0 (ym_Te_make R_w15) (fun u16' u16 r16 R_u16 => ?_)
    exact rf_ret R_u16 rfl
  · exact rf_ret R rfl
theorem ym_Pr_pair {N : Nat} {o : Option Nat} {c : Nat → Nat} {m : MS} {u : CS} (R : RP o c m u) {v0 : Nat} {v0' : Nat} {v1 : Int32} {v2 : Int64} (h_v0 : PVn c v0 v0') : RF 0 o VE c u (fm_Pr_pair N u v0 v1 v2) (hm_Pr_pair N m v0' v1 v2) := yb_Pr_pair_0 (N := N) R h_v0
theorem yb_Fr_unwind_0 {N : Nat} {o : Option Nat} {c : Nat → Nat} {m : MS} {u : CS} (R : RP o c m u) {v0 : Nat} {v0' : Nat} (h_v0 : FVn c v0 v0') : RF 0 o VE c u (fb_Fr_unwind_0 N () u v0) (hb_Fr_unwind_0 N () m v0') := by
  unfold fb_Fr_unwind_0 hb_Fr_unwind_0
  refine rf_bo (gf_8 R h_v0) ?_
  refine rf_br ?_ ?_
  · exact rf_ret R rfl
  · refine rf_bo (gf_8 R h_v0) ?_
    refine rf_w (wf_8 R h_v0) (fun w3' w3 R_w3 => ?_)
    refine rf_bo (gf_8 R_w3 h_v0) ?_
    refine rf_bo (gR_F7 R_w3 h_v0) ?_
    refine rf_so ?_
    refine rf_ai (aq_37 R_w3 h_v0.1) ?_
    refine rf_w (wf_1 R_w3 h_v0) (fun w8' w8 R_w8 => ?_)
    refine rf_bo (gR_F7 R_w8 h_v0) ?_
    refine rf_so ?_
    refine rf_ai (aq_37 R_w8 h_v0.1) ?_
    refine rf_w (wf_4 R_w8 h_v0) (fun w12' w12 R_w12 => ?_)
    refine rf_bo (gR_F7 R_w12 h_v0) ?_
    refine rf_so ?_
    refine rf_ai (aq_37 R_w12 h_v0.1) ?_
    refine rf_w (wf_6 R_w12 h_v0) (fun w16' w16 R_w16 => ?_)
    refine rf_bo (gR_F7 R_w16 h_v0) ?_
    refine rf_so ?_
    refine rf_ai (aq_37 R_w16 h_v0.1) ?_
    exact rf_ret R_w16 rfl
theorem ym_Fr_unwind {N : Nat} {o : Option Nat} {c : Nat → Nat} {m : MS} {u : CS} (R : RP o c m u) {v0 : Nat} {v0' : Nat} (h_v0 : FVn c v0 v0') : RF 0 o VE c u (fm_Fr_unwind N u v0) (hm_Fr_unwind N m v0') := yb_Fr_unwind_0 (N := N) R h_v0
theorem yb_Wl_watchesOf_28 {N : Nat} {o : Option Nat} {c : Nat → Nat} {m : MS} {u : CS} {G : (CS → Nat → Int32 → Int32 → Int32 → Option (CS × Int32))} {G' : (MS → Int32 → Int32 → Int32 → Option (MS × Int32))} (hG : ∀ (c : Nat → Nat) (m : MS) (u : CS) (v1 : Int32) (v2 : Int32) (v3 : Int32), RP o c m u → RF 0 o VE c u (G u 47 v1 v2 v3) (G' m v1 v2 v3)) (R : RP o c m u) {v1 : Int32} {v3 : Int32} {t0 : Int32} {t1 : Int32} : RF 0 o VE c u (fb_Wl_watchesOf_28 N G u 47 v1 v3 t0 t1) (hb_Wl_watchesOf_28 N G' m v1 v3 t0 t1) := by
  unfold fb_Wl_watchesOf_28 hb_Wl_watchesOf_28
  exact (hG _ _ _ _ _ _ R)
theorem yb_Wl_watchesOf_4 {N : Nat} {o : Option Nat} {c : Nat → Nat} {m : MS} {u : CS} {G : (CS → Nat → Int32 → Int32 → Int32 → Option (CS × Int32))} {G' : (MS → Int32 → Int32 → Int32 → Option (MS × Int32))} (hG : ∀ (c : Nat → Nat) (m : MS) (u : CS) (v1 : Int32) (v2 : Int32) (v3 : Int32), RP o c m u → RF 0 o VE c u (G u 47 v1 v2 v3) (G' m v1 v2 v3)) (R : RP o c m u) {v1 : Int32} {v2 : Int32} {v3 : Int32} : RF 0 o VE c u (fb_Wl_watchesOf_4 N G u 47 v1 v2 v3) (hb_Wl_watchesOf_4 N G' m v1 v2 v3) := by
  unfold fb_Wl_watchesOf_4 hb_Wl_watchesOf_4
  refine rf_bo (gx_47_10 R) ?_
  refine rf_br ?_ ?_
  · exact rf_ret R rfl
  · refine rf_bo (rx_47_7 R) ?_
    refine rf_so ?_
    refine rf_ai (ax_49 R) ?_
    refine rf_br ?_ ?_
    · exact (yb_Wl_watchesOf_28 hG R)
    · exact (yb_Wl_watchesOf_28 hG R)
theorem yb_Wl_watchesOf_0 {N : Nat} {o : Option Nat} {c : Nat → Nat} {m : MS} {u : CS} {G : (CS → Nat → Int32 → Int32 → Int32 → Option (CS × Int32))} {G' : (MS → Int32 → Int32 → Int32 → Option (MS × Int32))} (hG : ∀ (c : Nat → Nat) (m : MS) (u : CS) (v1 : Int32) (v2 : Int32) (v3 : Int32), RP o c m u → RF 0 o VE c u (G u 47 v1 v2 v3) (G' m v1 v2 v3)) (R : RP o c m u) {v1 : Int32} : RF 0 o VE c u (fb_Wl_watchesOf_0 N G u 47 v1) (hb_Wl_watchesOf_0 N G' m v1) := by
  unfold fb_Wl_watchesOf_0 hb_Wl_watchesOf_0
  exact (hG _ _ _ _ _ _ R)
theorem yg_Wl_watchesOf {N : Nat} {o : Option Nat} : ∀ n, (∀ (c : Nat → Nat) (m : MS) (u : CS) (v1 : Int32) (v2 : Int32) (v3 : Int32), RP o c m u → RF 0 o VE c u ((gg_Wl_watchesOf N n) u 47 v1 v2 v3) ((hg_Wl_watchesOf N n) m v1 v2 v3)) := by
  intro n
  induction n with
  | zero => exact fun c m u v1 v2 v3 R => rf_none
  | succ n ih => exact fun c m u v1 v2 v3 R => yb_Wl_watchesOf_4 (N := N) ih R
theorem ym_Wl_watchesOf {N : Nat} {o : Option Nat} {c : Nat → Nat} {m : MS} {u : CS} (R : RP o c m u) {v1 : Int32} : RF 0 o VE c u (fm_Wl_watchesOf N u 47 v1) (hm_Wl_watchesOf N m v1) := yb_Wl_watchesOf_0 (N := N) (yg_Wl_watchesOf (N := N) N) R
theorem yb_Fr_namesIn_25 {N : Nat} {o : Option Nat} {c : Nat → Nat} {m : MS} {u : CS} (R : RP o c m u) {v0 : Nat} {v0' : Nat} {v1 : Int32} {t0 : Int32} (h_v0 : FVn c v0 v0') : RF 0 o VE c u (fb_Fr_namesIn_25 N () u v0 v1 t0) (hb_Fr_namesIn_25 N () m v0' v1 t0) := by
  unfold fb_Fr_namesIn_25 hb_Fr_namesIn_25
  refine rf_ck (io_F R h_v0) ?_
  refine rf_bx0 (ym_Fr_of R h_v0) (fun u1' u1 r1 R_u1 => ?_)
  exact rf_ret R_u1 rfl
theorem yb_Fr_namesIn_0 {N : Nat} {o : Option Nat} {c : Nat → Nat} {m : MS} {u : CS} (R : RP o c m u) {v0 : Nat} {v0' : Nat} {v1 : Int32} (h_v0 : FVn c v0 v0') : RF 0 o VE c u (fb_Fr_namesIn_0 N () u v0 v1) (hb_Fr_namesIn_0 N () m v0' v1) := by
  unfold fb_Fr_namesIn_0 hb_Fr_namesIn_0
  refine rf_bo (gf_1 R h_v0) ?_
  refine rf_br ?_ ?_
  · refine rf_bo (gf_4 R h_v0) ?_
    exact (yb_Fr_namesIn_25 R h_v0)
  · refine rf_ck (io_F R h_v0) ?_
    refine rf_bx0 (ym_Fr_of R h_v0) (fun u4' u4 r4 R_u4 => ?_)
    exact (yb_Fr_namesIn_25 R_u4 h_v0)
theorem ym_Fr_namesIn {N : Nat} {o : Option Nat} {c : Nat → Nat} {m : MS} {u : CS} (R : RP o c m u) {v0 : Nat} {v0' : Nat} {v1 : Int32} (h_v0 : FVn c v0 v0') : RF 0 o VE c u (fm_Fr_namesIn N u v0 v1) (hm_Fr_namesIn N m v0' v1) := yb_Fr_namesIn_0 (N := N) R h_v0
theorem yb_Fr_waitsIn_25 {N : Nat} {o : Option Nat} {c : Nat → Nat} {m : MS} {u : CS} (R : RP o c m u) {v0 : Nat} {v0' : Nat} {v1 : Int32} {t0 : Int32} (h_v0 : FVn c v0 v0') : RF 0 o VE c u (fb_Fr_waitsIn_25 N () u v0 v1 t0) (hb_Fr_waitsIn_25 N () m v0' v1 t0) := by
  unfold fb_Fr_waitsIn_25 hb_Fr_waitsIn_25
  refine rf_ck (io_F R h_v0) ?_
  refine rf_bx0 (ym_Fr_of R h_v0) (fun u1' u1 r1 R_u1 => ?_)
  exact rf_ret R_u1 rfl
theorem yb_Fr_waitsIn_0 {N : Nat} {o : Option Nat} {c : Nat → Nat} {m : MS} {u : CS} (R : RP o c m u) {v0 : Nat} {v0' : Nat} {v1 : Int32} (h_v0 : FVn c v0 v0') : RF 0 o VE c u (fb_Fr_waitsIn_0 N () u v0 v1) (hb_Fr_waitsIn_0 N () m v0' v1) := by
  unfold fb_Fr_waitsIn_0 hb_Fr_waitsIn_0
  refine rf_bo (gf_1 R h_v0) ?_
  refine rf_br ?_ ?_
  · refine rf_bo (gf_6 R h_v0) ?_
    exact (yb_Fr_waitsIn_25 R h_v0)
  · refine rf_ck (io_F R h_v0) ?_
    refine rf_bx0 (ym_Fr_of R h_v0) (fun u4' u4 r4 R_u4 => ?_)
    exact (yb_Fr_waitsIn_25 R_u4 h_v0)
theorem ym_Fr_waitsIn {N : Nat} {o : Option Nat} {c : Nat → Nat} {m : MS} {u : CS} (R : RP o c m u) {v0 : Nat} {v0' : Nat} {v1 : Int32} (h_v0 : FVn c v0 v0') : RF 0 o VE c u (fm_Fr_waitsIn N u v0 v1) (hm_Fr_waitsIn N m v0' v1) := yb_Fr_waitsIn_0 (N := N) R h_v0
theorem yb_H_shown_12 {N : Nat} {c : Nat → Nat} {m : MS} {u : CS} (R : RP none c m u) : RF 0 none VE c u (fb_H_shown_12 N () u) (hb_H_shown_12 N () m) := by
  unfold fb_H_shown_12 hb_H_shown_12
  exact rf_ret R rfl
theorem yb_H_shown_0 {N : Nat} {c : Nat → Nat} {m : MS} {u : CS} (R : RP none c m u) {v1 : Int32} : RF 0 none VE c u (fb_H_shown_0 N () u 0 v1) (hb_H_shown_0 N () m v1) := by
  unfold fb_H_shown_0 hb_H_shown_0
  refine rf_br ?_ ?_
  · exact (yb_H_shown_12 R)
  · refine rf_bo (gx_0_9 R) ?_
    refine rf_br ?_ ?_
    · refine rf_bo (rx_0_8 R) ?_
      refine rf_so ?_
      refine rf_ai (ax_56 R) ?_
      exact rf_ret R rfl
    · exact (yb_H_shown_12 R)
theorem ym_H_shown {N : Nat} {c : Nat → Nat} {m : MS} {u : CS} (R : RP none c m u) {v1 : Int32} : RF 0 none VE c u (fm_H_shown N u 0 v1) (hm_H_shown N m v1) := yb_H_shown_0 (N := N) R
theorem yb_H_printed_32 {N : Nat} {c : Nat → Nat} {m : MS} {u : CS} (R : RP none c m u) : RF 0 none VE c u (fb_H_printed_32 N () u) (hb_H_printed_32 N () m) := by
  unfold fb_H_printed_32 hb_H_printed_32
  exact rf_ret R rfl
theorem yb_H_printed_0 {N : Nat} {c : Nat → Nat} {m : MS} {u : CS} (R : RP none c m u) {v1 : Int32} {v2 : Int32} : RF 0 none VE c u (fb_H_printed_0 N () u 0 v1 v2) (hb_H_printed_0 N () m v1 v2) := by
  unfold fb_H_printed_0 hb_H_printed_0
  refine rf_br ?_ ?_
  · exact (yb_H_printed_32 R)
  · refine rf_bo (rx_0_6 R) ?_
    refine rf_so ?_
    refine rf_bo (gx_47_13 R) ?_
    refine rf_br ?_ ?_
    · exact (yb_H_printed_32 R)
    · refine rf_br ?_ ?_
      · exact (yb_H_printed_32 R)
      · refine rf_bo (rx_0_6 R) ?_
        refine rf_so ?_
        refine rf_bo (rx_47_12 R) ?_
        refine rf_so ?_
        refine rf_ai (ax_53 R) ?_
        refine rf_br ?_ ?_
        · refine rf_bo (rx_0_6 R) ?_
          refine rf_so ?_
          refine rf_bo (rx_47_11 R) ?_
          refine rf_so ?_
          refine rf_ai (ax_52 R) ?_
          exact rf_ret R rfl
        · exact (yb_H_printed_32 R)
theorem ym_H_printed {N : Nat} {c : Nat → Nat} {m : MS} {u : CS} (R : RP none c m u) {v1 : Int32} {v2 : Int32} : RF 0 none VE c u (fm_H_printed N u 0 v1 v2) (hm_H_printed N m v1 v2) := yb_H_printed_0 (N := N) R
theorem yb_JS_coder_14 {N : Nat} {o : Option Nat} {c : Nat → Nat} {m : MS} {u : CS} (R : RP o c m u) {t0 : Int32} : RF 0 o VE c u (fb_JS_coder_14 N () u t0) (hb_JS_coder_14 N () m t0) := by
  unfold fb_JS_coder_14 hb_JS_coder_14
  refine rf_ckk ?_
  exact rf_ret R rfl
theorem yb_JS_coder_0 {N : Nat} {o : Option Nat} {c : Nat → Nat} {m : MS} {u : CS} (R : RP o c m u) {v0 : Nat} : RF 0 o VE c u (fb_JS_coder_0 N () u v0) (hb_JS_coder_0 N () m v0) := by
  unfold fb_JS_coder_0 hb_JS_coder_0
  refine rf_br ?_ ?_
  · exact (yb_JS_coder_14 R)
  · refine rf_ckk ?_
    exact (yb_JS_coder_14 R)
theorem ym_JS_coder {N : Nat} {o : Option Nat} {c : Nat → Nat} {m : MS} {u : CS} (R : RP o c m u) {v0 : Nat} : RF 0 o VE c u (fm_JS_coder N u v0) (hm_JS_coder N m v0) := yb_JS_coder_0 (N := N) R
theorem yb_JS_length_0 {N : Nat} {o : Option Nat} {c : Nat → Nat} {m : MS} {u : CS} (R : RP o c m u) {v0 : Nat} : RF 0 o VE c u (fb_JS_length_0 N () u v0) (hb_JS_length_0 N () m v0) := by
  unfold fb_JS_length_0 hb_JS_length_0
  refine rf_ckk ?_
  refine rf_ckk ?_
  refine rf_ckk ?_
  refine rf_bx0 (ym_JS_coder R) (fun u1' u1 r1 R_u1 => ?_)
  exact rf_ret R_u1 rfl
theorem ym_JS_length {N : Nat} {o : Option Nat} {c : Nat → Nat} {m : MS} {u : CS} (R : RP o c m u) {v0 : Nat} : RF 0 o VE c u (fm_JS_length N u v0) (hm_JS_length N m v0) := yb_JS_length_0 (N := N) R
theorem yb_JS_isLatin1_18 {N : Nat} {o : Option Nat} {c : Nat → Nat} {m : MS} {u : CS} (R : RP o c m u) {t0 : Int32} : RF 0 o VE c u (fb_JS_isLatin1_18 N () u t0) (hb_JS_isLatin1_18 N () m t0) := by
  unfold fb_JS_isLatin1_18 hb_JS_isLatin1_18
  refine rf_ckk ?_
  exact rf_ret R rfl
theorem yb_JS_isLatin1_17 {N : Nat} {o : Option Nat} {c : Nat → Nat} {m : MS} {u : CS} (R : RP o c m u) : RF 0 o VE c u (fb_JS_isLatin1_17 N () u) (hb_JS_isLatin1_17 N () m) := by
  unfold fb_JS_isLatin1_17 hb_JS_isLatin1_17
  exact (yb_JS_isLatin1_18 R)
theorem yb_JS_isLatin1_0 {N : Nat} {o : Option Nat} {c : Nat → Nat} {m : MS} {u : CS} (R : RP o c m u) {v0 : Nat} : RF 0 o VE c u (fb_JS_isLatin1_0 N () u v0) (hb_JS_isLatin1_0 N () m v0) := by
  unfold fb_JS_isLatin1_0 hb_JS_isLatin1_0
  refine rf_br ?_ ?_
  · exact (yb_JS_isLatin1_17 R)
  · refine rf_ckk ?_
    refine rf_br ?_ ?_
    · exact (yb_JS_isLatin1_18 R)
    · exact (yb_JS_isLatin1_17 R)
theorem ym_JS_isLatin1 {N : Nat} {o : Option Nat} {c : Nat → Nat} {m : MS} {u : CS} (R : RP o c m u) {v0 : Nat} : RF 0 o VE c u (fm_JS_isLatin1 N u v0) (hm_JS_isLatin1 N m v0) := yb_JS_isLatin1_0 (N := N) R
theorem yb_JP_checkIndex_9 {N : Nat} {o : Option Nat} {c : Nat → Nat} {m : MS} {u : CS} (R : RP o c m u) {v0 : Int32} {v1 : Int32} {v2 : Nat} : RF 0 o VE c u (fb_JP_checkIndex_9 N () u v0 v1 v2) (hb_JP_checkIndex_9 N () m v0 v1 v2) := by
  unfold fb_JP_checkIndex_9 hb_JP_checkIndex_9
  exact rf_none
theorem yb_JP_checkIndex_0 {N : Nat} {o : Option Nat} {c : Nat → Nat} {m : MS} {u : CS} (R : RP o c m u) {v0 : Int32} {v1 : Int32} {v2 : Nat} : RF 0 o VE c u (fb_JP_checkIndex_0 N () u v0 v1 v2) (hb_JP_checkIndex_0 N () m v0 v1 v2) := by
  unfold fb_JP_checkIndex_0 hb_JP_checkIndex_0
  refine rf_br ?_ ?_
  · exact (yb_JP_checkIndex_9 R)
  · refine rf_br ?_ ?_
    · exact rf_ret R rfl
    · exact (yb_JP_checkIndex_9 R)
theorem ym_JP_checkIndex {N : Nat} {o : Option Nat} {c : Nat → Nat} {m : MS} {u : CS} (R : RP o c m u) {v0 : Int32} {v1 : Int32} {v2 : Nat} : RF 0 o VE c u (fm_JP_checkIndex N u v0 v1 v2) (hm_JP_checkIndex N m v0 v1 v2) := yb_JP_checkIndex_0 (N := N) R
theorem yb_JS_checkIndex_0 {N : Nat} {o : Option Nat} {c : Nat → Nat} {m : MS} {u : CS} (R : RP o c m u) {v0 : Int32} {v1 : Int32} : RF 0 o VE c u (fb_JS_checkIndex_0 N () u v0 v1) (hb_JS_checkIndex_0 N () m v0 v1) := by
  unfold fb_JS_checkIndex_0 hb_JS_checkIndex_0
  refine rf_bx0 (ym_JP_checkIndex R) (fun u1' u1 r1 R_u1 => ?_)
  exact rf_ret R_u1 rfl
theorem ym_JS_checkIndex {N : Nat} {o : Option Nat} {c : Nat → Nat} {m : MS} {u : CS} (R : RP o c m u) {v0 : Int32} {v1 : Int32} : RF 0 o VE c u (fm_JS_checkIndex N u v0 v1) (hm_JS_checkIndex N m v0 v1) := yb_JS_checkIndex_0 (N := N) R
theorem yb_JL_charAt_0 {N : Nat} {o : Option Nat} {c : Nat → Nat} {m : MS} {u : CS} (R : RP o c m u) {v0 : Nat} {v1 : Int32} : RF 0 o VE c u (fb_JL_charAt_0 N () u v0 v1) (hb_JL_charAt_0 N () m v0 v1) := by
  unfold fb_JL_charAt_0 hb_JL_charAt_0
  refine rf_ckk ?_
  refine rf_bx0 (ym_JS_checkIndex R) (fun u1' u1 r1 R_u1 => ?_)
  refine rf_ckk ?_
  refine rf_ckk ?_
  refine rf_ckk ?_
  exact rf_ret R_u1 rfl
theorem ym_JL_charAt {N : Nat} {o : Option Nat} {c : Nat → Nat} {m : MS} {u : CS} (R : RP o c m u) {v0 : Nat} {v1 : Int32} : RF 0 o VE c u (fm_JL_charAt N u v0 v1) (hm_JL_charAt N m v0 v1) := yb_JL_charAt_0 (N := N) R
theorem yb_JS_charAt_0 {N : Nat} {o : Option Nat} {c : Nat → Nat} {m : MS} {u : CS} (R : RP o c m u) {v0 : Nat} {v1 : Int32} : RF 0 o VE c u (fb_JS_charAt_0 N () u v0 v1) (hb_JS_charAt_0 N () m v0 v1) := by
  unfold fb_JS_charAt_0 hb_JS_charAt_0
  refine rf_ckk ?_
  refine rf_bx0 (ym_JS_isLatin1 R) (fun u1' u1 r1 R_u1 => ?_)
  refine rf_br ?_ ?_
  · refine rf_ckk ?_
    exact rf_none
  · refine rf_ckk ?_
    refine rf_bx0 (ym_JL_charAt R_u1) (fun u2' u2 r2 R_u2 => ?_)
    refine rf_ckk ?_
    exact rf_ret R_u2 rfl
theorem ym_JS_charAt {N : Nat} {o : Option Nat} {c : Nat → Nat} {m : MS} {u : CS} (R : RP o c m u) {v0 : Nat} {v1 : Int32} : RF 0 o VE c u (fm_JS_charAt N u v0 v1) (hm_JS_charAt N m v0 v1) := yb_JS_charAt_0 (N := N) R
theorem yb_JI_compare_19 {N : Nat} {o : Option Nat} {c : Nat → Nat} {m : MS} {u : CS} (R : RP o c m u) {t0 : Int32} : RF 0 o VE c u (fb_JI_compare_19 N () u t0) (hb_JI_compare_19 N () m t0) := by
  unfold fb_JI_compare_19 hb_JI_compare_19
  exact rf_ret R rfl
theorem yb_JI_compare_0 {N : Nat} {o : Option Nat} {c : Nat → Nat} {m : MS} {u : CS} (R : RP o c m u) {v0 : Int32} {v1 : Int32} : RF 0 o VE c u (fb_JI_compare_0 N () u v0 v1) (hb_JI_compare_0 N () m v0 v1) := by
  unfold fb_JI_compare_0 hb_JI_compare_0
  refine rf_br ?_ ?_
  · refine rf_br ?_ ?_
    · exact (yb_JI_compare_19 R)
    · exact (yb_JI_compare_19 R)
  · exact (yb_JI_compare_19 R)
theorem ym_JI_compare {N : Nat} {o : Option Nat} {c : Nat → Nat} {m : MS} {u : CS} (R : RP o c m u) {v0 : Int32} {v1 : Int32} : RF 0 o VE c u (fm_JI_compare N u v0 v1) (hm_JI_compare N m v0 v1) := yb_JI_compare_0 (N := N) R
theorem yb_To_number_107 {N : Nat} {o : Option Nat} {c : Nat → Nat} {m : MS} {u : CS} {G : (CS → Nat → Int64 → Option (CS × Int32))} {G' : (MS → Int64 → Option (MS × Int32))} (hG : ∀ (c : Nat → Nat) (m : MS) (u : CS) (v1 : Int64), RP o c m u → RF 0 o VE c u (G u 4 v1) (G' m v1)) (R : RP o c m u) {t0 : Int32} : RF 0 o VE c u (fb_To_number_107 N G u t0) (hb_To_number_107 N G' m t0) := by
  unfold fb_To_number_107 hb_To_number_107
  exact rf_ret R rfl
theorem yb_To_number_101 {N : Nat} {o : Option Nat} {c : Nat → Nat} {m : MS} {u : CS} {G : (CS → Nat → Int64 → Option (CS × Int32))} {G' : (MS → Int64 → Option (MS × Int32))} (hG : ∀ (c : Nat → Nat) (m : MS) (u : CS) (v1 : Int64), RP o c m u → RF 0 o VE c u (G u 4 v1) (G' m v1)) (R : RP o c m u) : RF 0 o VE c u (fb_To_number_101 N G u) (hb_To_number_101 N G' m) := by
  unfold fb_To_number_101 hb_To_number_101
  exact (yb_To_number_107 hG R)
theorem yb_To_number_68 {N : Nat} {o : Option Nat} {c : Nat → Nat} {m : MS} {u : CS} {G : (CS → Nat → Int64 → Option (CS × Int32))} {G' : (MS → Int64 → Option (MS × Int32))} (hG : ∀ (c : Nat → Nat) (m : MS) (u : CS) (v1 : Int64), RP o c m u → RF 0 o VE c u (G u 4 v1) (G' m v1)) (R : RP o c m u) {v1 : Int64} : RF 0 o VE c u (fb_To_number_68 N G u 4 v1) (hb_To_number_68 N G' m v1) := by
  unfold fb_To_number_68 hb_To_number_68
  refine rf_bo (rx_4_3 R) ?_
  refine rf_bo (gx_4_5 R) ?_
  refine rf_so ?_
  refine rf_wk (sx_7 R) (fun w4' w4 R_w4 => ?_)
  refine rf_br ?_ ?_
  · exact (yb_To_number_101 hG R_w4)
  · refine rf_bo (gx_4_9 R_w4) ?_
    refine rf_ck (ox_4 R_w4) ?_
    refine rf_bx0 (ym_To_signAt R_w4) (fun u6' u6 r6 R_u6 => ?_)
    refine rf_bx0 (ym_To_isWordly R_u6) (fun u7' u7 r7 R_u7 => ?_)
    refine rf_br ?_ ?_
    · exact (yb_To_number_107 hG R_u7)
    · exact (yb_To_number_101 hG R_u7)
theorem yb_To_number_2 {N : Nat} {o : Option Nat} {c : Nat → Nat} {m : MS} {u : CS} {G : (CS → Nat → Int64 → Option (CS × Int32))} {G' : (MS → Int64 → Option (MS × Int32))} (hG : ∀ (c : Nat → Nat) (m : MS) (u : CS) (v1 : Int64), RP o c m u → RF 0 o VE c u (G u 4 v1) (G' m v1)) (R : RP o c m u) {v1 : Int64} : RF 0 o VE c u (fb_To_number_2 N G u 4 v1) (hb_To_number_2 N G' m v1) := by
  unfold fb_To_number_2 hb_To_number_2
  refine rf_bo (gx_4_9 R) ?_
  refine rf_bo (gx_4_1 R) ?_
  refine rf_br ?_ ?_
  · exact (yb_To_number_68 hG R)
  · refine rf_bo (rx_4_0 R) ?_
    refine rf_bo (gx_4_9 R) ?_
    refine rf_so ?_
    refine rf_ai (ax_5 R) ?_
    refine rf_bx0 (ym_To_isDigit R) (fun u14' u14 r14 R_u14 => ?_)
    refine rf_br ?_ ?_
    · exact (yb_To_number_68 hG R_u14)
    · refine rf_bo (rx_4_0 R_u14) ?_
      refine rf_bo (gx_4_9 R_u14) ?_
      refine rf_so ?_
      refine rf_ai (ax_5 R_u14) ?_
      refine rf_lt ?_
      refine rf_bo (gx_4_9 R_u14) ?_
      refine rf_w (px_4_9 R_u14) (fun w21' w21 R_w21 => ?_)
      exact (hG _ _ _ _ R_w21)
theorem yb_To_number_0 {N : Nat} {o : Option Nat} {c : Nat → Nat} {m : MS} {u : CS} {G : (CS → Nat → Int64 → Option (CS × Int32))} {G' : (MS → Int64 → Option (MS × Int32))} (hG : ∀ (c : Nat → Nat) (m : MS) (u : CS) (v1 : Int64), RP o c m u → RF 0 o VE c u (G u 4 v1) (G' m v1)) (R : RP o c m u) : RF 0 o VE c u (fb_To_number_0 N G u 4) (hb_To_number_0 N G' m) := by
  unfold fb_To_number_0 hb_To_number_0
  exact (hG _ _ _ _ R)
theorem yg_To_number {N : Nat} {o : Option Nat} : ∀ n, (∀ (c : Nat → Nat) (m : MS) (u : CS) (v1 : Int64), RP o c m u → RF 0 o VE c u ((gg_To_number N n) u 4 v1) ((hg_To_number N n) m v1)) := by
  intro n
  induction n with
  | zero => exact fun c m u v1 R => rf_none
  | succ n ih => exact fun c m u v1 R => yb_To_number_2 (N := N) ih R
theorem ym_To_number {N : Nat} {o : Option Nat} {c : Nat → Nat} {m : MS} {u : CS} (R : RP o c m u) : RF 0 o VE c u (fm_To_number N u 4) (hm_To_number N m) := yb_To_number_0 (N := N) (yg_To_number (N := N) N) R
theorem yb_Wo_find_51 {N : Nat} {o : Option Nat} {c : Nat → Nat} {m : MS} {u : CS} (R : RP o c m u) : RF 0 o VE c u (fb_Wo_find_51 N () u) (hb_Wo_find_51 N () m) := by
  unfold fb_Wo_find_51 hb_Wo_find_51
  exact rf_ret R rfl
theorem yb_Wo_find_0 {N : Nat} {o : Option Nat} {c : Nat → Nat} {m : MS} {u : CS} (R : RP o c m u) {v0 : Nat} {v1 : Nat} {v2 : Int32} {v3 : Int32} (h_v0 : isWd v0) (h_v1 : isBy v1) : RF 0 o VE c u (fb_Wo_find_0 N () u v0 (some v1) v2 v3) (hb_Wo_find_0 N () m v0 v1 v2 v3) := by
  unfold fb_Wo_find_0 hb_Wo_find_0
  refine rf_ck (io_W R h_v0) ?_
  refine rf_bx0 (ym_Wo_seek R h_v0 h_v1) (fun u1' u1 r1 R_u1 => ?_)
  refine rf_br ?_ ?_
  · refine rf_bo (gi_W2 R_u1 h_v0) ?_
    refine rf_bo (gr_W1 R_u1 h_v0) ?_
    refine rf_so ?_
    refine rf_bo (na_W R_u1 h_v0) ?_
    refine rf_br ?_ ?_
    · exact (yb_Wo_find_51 R_u1)
    · refine rf_bo (gr_W1 R_u1 h_v0) ?_
      refine rf_bo (gi_W2 R_u1 h_v0) ?_
      refine rf_so ?_
      refine rf_ai (ai_W R_u1 h_v0) ?_
      refine rf_bo (gr_W0 R_u1 h_v0) ?_
      refine rf_so ?_
      refine rf_bo (na_B R_u1 (By_w h_v0)) ?_
      refine rf_br ?_ ?_
      · refine rf_bo (gr_W0 R_u1 h_v0) ?_
        refine rf_bo (gr_W1 R_u1 h_v0) ?_
        refine rf_bo (gi_W2 R_u1 h_v0) ?_
        refine rf_so ?_
        refine rf_ai (ai_W R_u1 h_v0) ?_
        refine rf_so ?_
        refine rf_so ?_
        refine rf_wk (cp_B R_u1 h_v1 (By_w h_v0)) (fun w20' w20 R_w20 => ?_)
        refine rf_bo (gr_W1 R_w20 h_v0) ?_
        refine rf_bo (gi_W2 R_w20 h_v0) ?_
        refine rf_bo (gr_W1 R_w20 h_v0) ?_
        refine rf_bo (gi_W2 R_w20 h_v0) ?_
        refine rf_so ?_
        refine rf_ai (ai_W R_w20 h_v0) ?_
        refine rf_so ?_
        refine rf_wk (si_W R_w20 h_v0) (fun w28' w28 R_w28 => ?_)
        refine rf_bo (gi_W2 R_w28 h_v0) ?_
        refine rf_w (pf_W2 R_w28 h_v0) (fun w30' w30 R_w30 => ?_)
        refine rf_bo (gi_W2 R_w30 h_v0) ?_
        exact rf_ret R_w30 rfl
      · exact (yb_Wo_find_51 R_u1)
  · exact rf_ret R_u1 rfl
theorem ym_Wo_find {N : Nat} {o : Option Nat} {c : Nat → Nat} {m : MS} {u : CS} (R : RP o c m u) {v0 : Nat} {v1 : Nat} {v2 : Int32} {v3 : Int32} (h_v0 : isWd v0) (h_v1 : isBy v1) : RF 0 o VE c u (fm_Wo_find N u v0 (some v1) v2 v3) (hm_Wo_find N m v0 v1 v2 v3) := yb_Wo_find_0 (N := N) R h_v0 h_v1
theorem yb_To_word_44 {N : Nat} {o : Option Nat} {c : Nat → Nat} {m : MS} {u : CS} {G : (CS → Nat → Int32 → Int32 → Option (CS × Int32))} {G' : (MS → Int32 → Int32 → Option (MS × Int32))} (hG : ∀ (c : Nat → Nat) (m : MS) (u : CS) (v1 : Int32) (v2 : Int32), RP o c m u → RF 0 o VE c u (G u 4 v1 v2) (G' m v1 v2)) (R : RP o c m u) {v1 : Int32} {v2 : Int32} : RF 0 o VE c u (fb_To_word_44 N G u 4 v1 v2) (hb_To_word_44 N G' m v1 v2) := by
  unfold fb_To_word_44 hb_To_word_44
  refine rf_bo (gx_4_9 R) ?_
  refine rf_br ?_ ?_
  · refine rf_br ?_ ?_
    · refine rf_bo (rx_4_6 R) ?_
      refine rf_bo (rx_4_0 R) ?_
      refine rf_so ?_
      refine rf_ck (ox_9 R) ?_
      refine rf_bx0 (ym_Wo_seek R (by unfold isWd; omega) By_5) (fun u4' u4 r4 R_u4 => ?_)
      refine rf_br ?_ ?_
      · refine rf_bo (rx_4_3 R_u4) ?_
        refine rf_bo (gx_4_5 R_u4) ?_
        refine rf_bo (rx_4_7 R_u4) ?_
        refine rf_bo (rx_4_0 R_u4) ?_
        refine rf_so ?_
        refine rf_ck (ox_1 R_u4) ?_
        refine rf_bx0 (ym_Wo_find R_u4 (by unfold isWd; omega) By_5) (fun u10' u10 r10 R_u10 => ?_)
        refine rf_so ?_
        refine rf_wk (sx_7 R_u10) (fun w13' w13 R_w13 => ?_)
        exact rf_ret R_w13 rfl
      · exact rf_ret R_u4 rfl
    · refine rf_bo (rx_4_3 R) ?_
      refine rf_bo (gx_4_5 R) ?_
      refine rf_bo (rx_4_8 R) ?_
      refine rf_bo (rx_4_0 R) ?_
      refine rf_so ?_
      refine rf_ck (ox_12 R) ?_
      refine rf_bx0 (ym_Wo_find R (by unfold isWd; omega) By_5) (fun u18' u18 r18 R_u18 => ?_)
      refine rf_so ?_
      refine rf_wk (sx_7 R_u18) (fun w21' w21 R_w21 => ?_)
      exact rf_ret R_w21 rfl
  · exact rf_ret R rfl
theorem yb_To_word_5 {N : Nat} {o : Option Nat} {c : Nat → Nat} {m : MS} {u : CS} {G : (CS → Nat → Int32 → Int32 → Option (CS × Int32))} {G' : (MS → Int32 → Int32 → Option (MS × Int32))} (hG : ∀ (c : Nat → Nat) (m : MS) (u : CS) (v1 : Int32) (v2 : Int32), RP o c m u → RF 0 o VE c u (G u 4 v1 v2) (G' m v1 v2)) (R : RP o c m u) {v1 : Int32} {v2 : Int32} : RF 0 o VE c u (fb_To_word_5 N G u 4 v1 v2) (hb_To_word_5 N G' m v1 v2) := by
  unfold fb_To_word_5 hb_To_word_5
  refine rf_bo (gx_4_9 R) ?_
  refine rf_bo (gx_4_1 R) ?_
  refine rf_br ?_ ?_
  · exact (yb_To_word_44 hG R)
  · refine rf_bo (rx_4_0 R) ?_
    refine rf_bo (gx_4_9 R) ?_
    refine rf_so ?_
    refine rf_ai (ax_5 R) ?_
    refine rf_bx0 (ym_To_isWordly R) (fun u28' u28 r28 R_u28 => ?_)
    refine rf_br ?_ ?_
    · exact (yb_To_word_44 hG R_u28)
    · refine rf_bo (gx_4_9 R_u28) ?_
      refine rf_w (px_4_9 R_u28) (fun w30' w30 R_w30 => ?_)
      exact (hG _ _ _ _ _ R_w30)
theorem yb_To_word_0 {N : Nat} {o : Option Nat} {c : Nat → Nat} {m : MS} {u : CS} {G : (CS → Nat → Int32 → Int32 → Option (CS × Int32))} {G' : (MS → Int32 → Int32 → Option (MS × Int32))} (hG : ∀ (c : Nat → Nat) (m : MS) (u : CS) (v1 : Int32) (v2 : Int32), RP o c m u → RF 0 o VE c u (G u 4 v1 v2) (G' m v1 v2)) (R : RP o c m u) {v1 : Int32} : RF 0 o VE c u (fb_To_word_0 N G u 4 v1) (hb_To_word_0 N G' m v1) := by
  unfold fb_To_word_0 hb_To_word_0
  refine rf_bo (gx_4_9 R) ?_
  exact (hG _ _ _ _ _ R)
theorem yg_To_word {N : Nat} {o : Option Nat} : ∀ n, (∀ (c : Nat → Nat) (m : MS) (u : CS) (v1 : Int32) (v2 : Int32), RP o c m u → RF 0 o VE c u ((gg_To_word N n) u 4 v1 v2) ((hg_To_word N n) m v1 v2)) := by
  intro n
  induction n with
  | zero => exact fun c m u v1 v2 R => rf_none
  | succ n ih => exact fun c m u v1 v2 R => yb_To_word_5 (N := N) ih R
theorem ym_To_word {N : Nat} {o : Option Nat} {c : Nat → Nat} {m : MS} {u : CS} (R : RP o c m u) {v1 : Int32} : RF 0 o VE c u (fm_To_word N u 4 v1) (hm_To_word N m v1) := yb_To_word_0 (N := N) (yg_To_word (N := N) N) R
end
section
set_option maxRecDepth 100000
theorem yb_To_signs_81 {N : Nat} {o : Option Nat} {c : Nat → Nat} {m : MS} {u : CS} {G : (CS → Nat → Int32 → Int32 → Int32 → Option (CS × Int32)) × (CS → Int32 → Int32 → Option (CS × Int32))} {G' : (MS → Int32 → Int32 → Int32 → Option (MS × Int32)) × (MS → Int32 → Int32 → Option (MS × Int32))} (hG1 : ∀ (c : Nat → Nat) (m : MS) (u : CS) (v1 : Int32) (v2 : Int32) (v3 : Int32), RP o c m u → RF 0 o VE c u (G.1 u 4 v1 v2 v3) (G'.1 m v1 v2 v3)) (hG2 : ∀ (c : Nat → Nat) (m : MS) (u : CS) (v1 : Int32) (v3 : Int32), RP o c m u → RF 0 o VE c u (G.2 u v1 v3) (G'.2 m v1 v3)) (R : RP o c m u) {v1 : Int32} {v3 : Int32} : RF 0 o VE c u (fb_To_signs_81 N G u v1 v3) (hb_To_signs_81 N G' m v1 v3) := by
  unfold fb_To_signs_81 hb_To_signs_81
  refine rf_ckk ?_
  refine rf_bx0 (ym_JS_length R) (fun u1' u1 r1 R_u1 => ?_)
  refine rf_br ?_ ?_
  · exact rf_ret R_u1 rfl
  · refine rf_ckk ?_
    refine rf_bx0 (ym_JS_charAt R_u1) (fun u2' u2 r2 R_u2 => ?_)
    refine rf_br ?_ ?_
    · exact rf_ret R_u2 rfl
    · exact (hG2 _ _ _ _ _ R_u2)
theorem yb_To_signs_63 {N : Nat} {o : Option Nat} {c : Nat → Nat} {m : MS} {u : CS} {G : (CS → Nat → Int32 → Int32 → Int32 → Option (CS × Int32)) × (CS → Int32 → Int32 → Option (CS × Int32))} {G' : (MS → Int32 → Int32 → Int32 → Option (MS × Int32)) × (MS → Int32 → Int32 → Option (MS × Int32))} (hG1 : ∀ (c : Nat → Nat) (m : MS) (u : CS) (v1 : Int32) (v2 : Int32) (v3 : Int32), RP o c m u → RF 0 o VE c u (G.1 u 4 v1 v2 v3) (G'.1 m v1 v2 v3)) (hG2 : ∀ (c : Nat → Nat) (m : MS) (u : CS) (v1 : Int32) (v3 : Int32), RP o c m u → RF 0 o VE c u (G.2 u v1 v3) (G'.2 m v1 v3)) (R : RP o c m u) {v1 : Int32} {v2 : Int32} {v3 : Int32} : RF 0 o VE c u (fb_To_signs_63 N G u 4 v1 v2 v3) (hb_To_signs_63 N G' m v1 v2 v3) := by
  unfold fb_To_signs_63 hb_To_signs_63
  exact (hG1 _ _ _ _ _ _ R)
theorem yb_To_signs_13 {N : Nat} {o : Option Nat} {c : Nat → Nat} {m : MS} {u : CS} {G : (CS → Nat → Int32 → Int32 → Int32 → Option (CS × Int32)) × (CS → Int32 → Int32 → Option (CS × Int32))} {G' : (MS → Int32 → Int32 → Int32 → Option (MS × Int32)) × (MS → Int32 → Int32 → Option (MS × Int32))} (hG1 : ∀ (c : Nat → Nat) (m : MS) (u : CS) (v1 : Int32) (v2 : Int32) (v3 : Int32), RP o c m u → RF 0 o VE c u (G.1 u 4 v1 v2 v3) (G'.1 m v1 v2 v3)) (hG2 : ∀ (c : Nat → Nat) (m : MS) (u : CS) (v1 : Int32) (v3 : Int32), RP o c m u → RF 0 o VE c u (G.2 u v1 v3) (G'.2 m v1 v3)) (R : RP o c m u) {v1 : Int32} {v2 : Int32} {v3 : Int32} : RF 0 o VE c u (fb_To_signs_13 N G u 4 v1 v2 v3) (hb_To_signs_13 N G' m v1 v2 v3) := by
  unfold fb_To_signs_13 hb_To_signs_13
  refine rf_ckk ?_
  refine rf_bx0 (ym_JS_length R) (fun u3' u3 r3 R_u3 => ?_)
  refine rf_br ?_ ?_
  · refine rf_bo (gx_4_9 R_u3) ?_
    refine rf_w (px_4_9 R_u3) (fun w5' w5 R_w5 => ?_)
    exact (hG2 _ _ _ _ _ R_w5)
  · refine rf_ckk ?_
    refine rf_bx0 (ym_JS_charAt R_u3) (fun u6' u6 r6 R_u6 => ?_)
    refine rf_br ?_ ?_
    · refine rf_ckk ?_
      refine rf_bx0 (ym_JS_charAt R_u6) (fun u7' u7 r7 R_u7 => ?_)
      refine rf_br ?_ ?_
      · refine rf_bo (gx_4_9 R_u7) ?_
        refine rf_w (px_4_9 R_u7) (fun w9' w9 R_w9 => ?_)
        exact rf_ret R_w9 rfl
      · exact (yb_To_signs_63 hG1 hG2 R_u7)
    · exact (yb_To_signs_63 hG1 hG2 R_u6)
theorem yb_To_signs_0 {N : Nat} {o : Option Nat} {c : Nat → Nat} {m : MS} {u : CS} {G : (CS → Nat → Int32 → Int32 → Int32 → Option (CS × Int32)) × (CS → Int32 → Int32 → Option (CS × Int32))} {G' : (MS → Int32 → Int32 → Int32 → Option (MS × Int32)) × (MS → Int32 → Int32 → Option (MS × Int32))} (hG1 : ∀ (c : Nat → Nat) (m : MS) (u : CS) (v1 : Int32) (v2 : Int32) (v3 : Int32), RP o c m u → RF 0 o VE c u (G.1 u 4 v1 v2 v3) (G'.1 m v1 v2 v3)) (hG2 : ∀ (c : Nat → Nat) (m : MS) (u : CS) (v1 : Int32) (v3 : Int32), RP o c m u → RF 0 o VE c u (G.2 u v1 v3) (G'.2 m v1 v3)) (R : RP o c m u) {v1 : Int32} : RF 0 o VE c u (fb_To_signs_0 N G u 4 v1) (hb_To_signs_0 N G' m v1) := by
  unfold fb_To_signs_0 hb_To_signs_0
  refine rf_bo (gx_4_9 R) ?_
  refine rf_ck (ox_4 R) ?_
  refine rf_bx0 (ym_To_signAt R) (fun u11' u11 r11 R_u11 => ?_)
  exact (hG1 _ _ _ _ _ _ R_u11)
theorem yg_To_signs {N : Nat} {o : Option Nat} : ∀ n, (∀ (c : Nat → Nat) (m : MS) (u : CS) (v1 : Int32) (v2 : Int32) (v3 : Int32), RP o c m u → RF 0 o VE c u ((gg_To_signs N n).1 u 4 v1 v2 v3) ((hg_To_signs N n).1 m v1 v2 v3)) ∧ (∀ (c : Nat → Nat) (m : MS) (u : CS) (v1 : Int32) (v3 : Int32), RP o c m u → RF 0 o VE c u ((gg_To_signs N n).2 u v1 v3) ((hg_To_signs N n).2 m v1 v3)) := by
  intro n
  induction n with
  | zero => exact ⟨fun c m u v1 v2 v3 R => rf_none, fun c m u v1 v3 R => rf_none⟩
  | succ n ih => exact ⟨fun c m u v1 v2 v3 R => yb_To_signs_13 (N := N) ih.1 ih.2 R, fun c m u v1 v3 R => yb_To_signs_81 (N := N) ih.1 ih.2 R⟩
theorem ym_To_signs {N : Nat} {o : Option Nat} {c : Nat → Nat} {m : MS} {u : CS} (R : RP o c m u) {v1 : Int32} : RF 0 o VE c u (fm_To_signs N u 4 v1) (hm_To_signs N m v1) := yb_To_signs_0 (N := N) (yg_To_signs (N := N) N).1 (yg_To_signs (N := N) N).2 R
theorem yb_To_scan_61 {N : Nat} {o : Option Nat} {c : Nat → Nat} {m : MS} {u : CS} (R : RP o c m u) {t0 : Int32} : RF 0 o VE c u (fb_To_scan_61 N () u t0) (hb_To_scan_61 N () m t0) := by
  unfold fb_To_scan_61 hb_To_scan_61
  exact rf_ret R rfl
theorem yb_To_scan_42 {N : Nat} {o : Option Nat} {c : Nat → Nat} {m : MS} {u : CS} (R : RP o c m u) {t0 : Int32} : RF 0 o VE c u (fb_To_scan_42 N () u t0) (hb_To_scan_42 N () m t0) := by
  unfold fb_To_scan_42 hb_To_scan_42
  exact rf_ret R rfl
theorem yb_To_scan_0 {N : Nat} {o : Option Nat} {c : Nat → Nat} {m : MS} {u : CS} (R : RP o c m u) : RF 0 o VE c u (fb_To_scan_0 N () u 4) (hb_To_scan_0 N () m) := by
  unfold fb_To_scan_0 hb_To_scan_0
  refine rf_bo (gx_4_9 R) ?_
  refine rf_ck (ox_4 R) ?_
  refine rf_bx0 (ym_To_signAt R) (fun u2' u2 r2 R_u2 => ?_)
  refine rf_br ?_ ?_
  · exact rf_ret R_u2 rfl
  · refine rf_bx0 (ym_To_isWordly R_u2) (fun u3' u3 r3 R_u3 => ?_)
    refine rf_br ?_ ?_
    · refine rf_br ?_ ?_
      · refine rf_ck (ox_4 R_u3) ?_
        refine rf_bx0 (ym_To_string R_u3) (fun u5' u5 r5 R_u5 => ?_)
        exact (yb_To_scan_61 R_u5)
      · refine rf_ck (ox_4 R_u3) ?_
        refine rf_bx0 (ym_To_signs R_u3) (fun u4' u4 r4 R_u4 => ?_)
        exact (yb_To_scan_61 R_u4)
    · refine rf_bx0 (ym_To_isDigit R_u3) (fun u6' u6 r6 R_u6 => ?_)
      refine rf_br ?_ ?_
      · refine rf_ck (ox_4 R_u6) ?_
        refine rf_bx0 (ym_To_word R_u6) (fun u7' u7 r7 R_u7 => ?_)
        exact (yb_To_scan_42 R_u7)
      · refine rf_ck (ox_4 R_u6) ?_
        refine rf_bx0 (ym_To_number R_u6) (fun u8' u8 r8 R_u8 => ?_)
        exact (yb_To_scan_42 R_u8)
theorem ym_To_scan {N : Nat} {o : Option Nat} {c : Nat → Nat} {m : MS} {u : CS} (R : RP o c m u) : RF 0 o VE c u (fm_To_scan N u 4) (hm_To_scan N m) := yb_To_scan_0 (N := N) R
theorem yb_To_scanAll_107 {N : Nat} {o : Option Nat} {c : Nat → Nat} {m : MS} {u : CS} {G : (CS → Nat → Int32 → Option (CS × Unit))} {G' : (MS → Int32 → Option (MS × Unit))} (hG : ∀ (c : Nat → Nat) (m : MS) (u : CS) (v1 : Int32), RP o c m u → RF 0 o VE c u (G u 4 v1) (G' m v1)) (R : RP o c m u) : RF 0 o VE c u (fb_To_scanAll_107 N G u) (hb_To_scanAll_107 N G' m) := by
  unfold fb_To_scanAll_107 hb_To_scanAll_107
  exact rf_ret R rfl
theorem yb_To_scanAll_34 {N : Nat} {o : Option Nat} {c : Nat → Nat} {m : MS} {u : CS} {G : (CS → Nat → Int32 → Option (CS × Unit))} {G' : (MS → Int32 → Option (MS × Unit))} (hG : ∀ (c : Nat → Nat) (m : MS) (u : CS) (v1 : Int32), RP o c m u → RF 0 o VE c u (G u 4 v1) (G' m v1)) (R : RP o c m u) {v1 : Int32} : RF 0 o VE c u (fb_To_scanAll_34 N G u 4 v1) (hb_To_scanAll_34 N G' m v1) := by
  unfold fb_To_scanAll_34 hb_To_scanAll_34
  refine rf_br ?_ ?_
  · exact rf_ret R rfl
  · refine rf_ck (ox_4 R) ?_
    refine rf_bx0 (ym_To_skip R) (fun u1' u1 r1 R_u1 => ?_)
    refine rf_bo (rx_4_4 R_u1) ?_
    refine rf_bo (gx_4_5 R_u1) ?_
    refine rf_bo (gx_4_10 R_u1) ?_
    refine rf_so ?_
    refine rf_wk (sx_8 R_u1) (fun w6' w6 R_w6 => ?_)
    refine rf_bo (rx_4_3 R_w6) ?_
    refine rf_bo (gx_4_5 R_w6) ?_
    refine rf_so ?_
    refine rf_wk (sx_7 R_w6) (fun w10' w10 R_w10 => ?_)
    refine rf_bo (rx_4_2 R_w10) ?_
    refine rf_bo (gx_4_5 R_w10) ?_
    refine rf_ck (ox_4 R_w10) ?_
    refine rf_bx0 (ym_To_scan R_w10) (fun u13' u13 r13 R_u13 => ?_)
    refine rf_so ?_
    refine rf_wk (sx_6 R_u13) (fun w15' w15 R_w15 => ?_)
    refine rf_bo (rx_4_2 R_w15) ?_
    refine rf_bo (gx_4_5 R_w15) ?_
    refine rf_so ?_
    refine rf_ai (ax_6 R_w15) ?_
    refine rf_br ?_ ?_
    · exact (yb_To_scanAll_107 hG R_w15)
    · refine rf_bo (rx_4_2 R_w15) ?_
      refine rf_bo (gx_4_5 R_w15) ?_
      refine rf_so ?_
      refine rf_ai (ax_6 R_w15) ?_
      refine rf_br ?_ ?_
      · exact (yb_To_scanAll_107 hG R_w15)
      · refine rf_bo (gx_4_5 R_w15) ?_
        refine rf_w (px_4_5 R_w15) (fun w25' w25 R_w25 => ?_)
        exact (hG _ _ _ _ R_w25)
theorem yb_To_scanAll_0 {N : Nat} {o : Option Nat} {c : Nat → Nat} {m : MS} {u : CS} {G : (CS → Nat → Int32 → Option (CS × Unit))} {G' : (MS → Int32 → Option (MS × Unit))} (hG : ∀ (c : Nat → Nat) (m : MS) (u : CS) (v1 : Int32), RP o c m u → RF 0 o VE c u (G u 4 v1) (G' m v1)) (R : RP o c m u) : RF 0 o VE c u (fb_To_scanAll_0 N G u 4) (hb_To_scanAll_0 N G' m) := by
  unfold fb_To_scanAll_0 hb_To_scanAll_0
  refine rf_bo (rx_4_7 R) ?_
  refine rf_so ?_
  refine rf_w (px_1_2 R) (fun w28' w28 R_w28 => ?_)
  refine rf_bo (rx_4_8 R_w28) ?_
  refine rf_so ?_
  refine rf_w (px_12_2 R_w28) (fun w31' w31 R_w31 => ?_)
  refine rf_w (px_4_9 R_w31) (fun w32' w32 R_w32 => ?_)
  refine rf_w (px_4_10 R_w32) (fun w33' w33 R_w33 => ?_)
  refine rf_w (px_4_5 R_w33) (fun w34' w34 R_w34 => ?_)
  exact (hG _ _ _ _ R_w34)
theorem yg_To_scanAll {N : Nat} {o : Option Nat} : ∀ n, (∀ (c : Nat → Nat) (m : MS) (u : CS) (v1 : Int32), RP o c m u → RF 0 o VE c u ((gg_To_scanAll N n) u 4 v1) ((hg_To_scanAll N n) m v1)) := by
  intro n
  induction n with
  | zero => exact fun c m u v1 R => rf_none
  | succ n ih => exact fun c m u v1 R => yb_To_scanAll_34 (N := N) ih R
theorem ym_To_scanAll {N : Nat} {o : Option Nat} {c : Nat → Nat} {m : MS} {u : CS} (R : RP o c m u) : RF 0 o VE c u (fm_To_scanAll N u 4) (hm_To_scanAll N m) := yb_To_scanAll_0 (N := N) (yg_To_scanAll (N := N) N) R
theorem yb_Pa_refuse_0 {N : Nat} {o : Option Nat} {c : Nat → Nat} {m : MS} {u : CS} (R : RP o c m u) {v1 : Int32} : RF 0 o VE c u (fb_Pa_refuse_0 N () u 33 v1) (hb_Pa_refuse_0 N () m v1) := by
  unfold fb_Pa_refuse_0 hb_Pa_refuse_0
  refine rf_bo (rx_33_0 R) ?_
  refine rf_so ?_
  refine rf_bo (rx_4_4 R) ?_
  refine rf_bo (gx_33_5 R) ?_
  refine rf_so ?_
  refine rf_ai (ax_8 R) ?_
  refine rf_w (px_33_7 R) (fun w7' w7 R_w7 => ?_)
  exact rf_ret R_w7 rfl
theorem ym_Pa_refuse {N : Nat} {o : Option Nat} {c : Nat → Nat} {m : MS} {u : CS} (R : RP o c m u) {v1 : Int32} : RF 0 o VE c u (fm_Pa_refuse N u 33 v1) (hm_Pa_refuse N m v1) := yb_Pa_refuse_0 (N := N) R
theorem yb_Pa_look_22 {N : Nat} {o : Option Nat} {c : Nat → Nat} {m : MS} {u : CS} (R : RP o c m u) : RF 0 o VE c u (fb_Pa_look_22 N () u 33) (hb_Pa_look_22 N () m) := by
  unfold fb_Pa_look_22 hb_Pa_look_22
  refine rf_bo (rx_33_0 R) ?_
  refine rf_so ?_
  refine rf_bo (rx_4_2 R) ?_
  refine rf_bo (gx_33_5 R) ?_
  refine rf_so ?_
  refine rf_ai (ax_6 R) ?_
  exact rf_ret R rfl
theorem yb_Pa_look_0 {N : Nat} {o : Option Nat} {c : Nat → Nat} {m : MS} {u : CS} (R : RP o c m u) : RF 0 o VE c u (fb_Pa_look_0 N () u 33) (hb_Pa_look_0 N () m) := by
  unfold fb_Pa_look_0 hb_Pa_look_0
  refine rf_bo (rx_33_0 R) ?_
  refine rf_so ?_
  refine rf_bo (rx_4_2 R) ?_
  refine rf_bo (gx_33_5 R) ?_
  refine rf_so ?_
  refine rf_ai (ax_6 R) ?_
  refine rf_br ?_ ?_
  · refine rf_ck (ox_33 R) ?_
    refine rf_bT (ym_Pa_refuse R) (fun u13' u13 r13 R_u13 => ?_)
    exact (yb_Pa_look_22 R_u13)
  · exact (yb_Pa_look_22 R)
theorem ym_Pa_look {N : Nat} {o : Option Nat} {c : Nat → Nat} {m : MS} {u : CS} (R : RP o c m u) : RF 0 o VE c u (fm_Pa_look N u 33) (hm_Pa_look N m) := yb_Pa_look_0 (N := N) R
theorem yb_Pa_need_13 {N : Nat} {o : Option Nat} {c : Nat → Nat} {m : MS} {u : CS} (R : RP o c m u) : RF 0 o VE c u (fb_Pa_need_13 N () u 33) (hb_Pa_need_13 N () m) := by
  unfold fb_Pa_need_13 hb_Pa_need_13
  refine rf_bo (gx_33_5 R) ?_
  refine rf_w (px_33_5 R) (fun w2' w2 R_w2 => ?_)
  refine rf_bo (gx_33_5 R_w2) ?_
  exact rf_ret R_w2 rfl
theorem yb_Pa_need_0 {N : Nat} {o : Option Nat} {c : Nat → Nat} {m : MS} {u : CS} (R : RP o c m u) {v1 : Int32} : RF 0 o VE c u (fb_Pa_need_0 N () u 33 v1) (hb_Pa_need_0 N () m v1) := by
  unfold fb_Pa_need_0 hb_Pa_need_0
  refine rf_ck (ox_33 R) ?_
  refine rf_bT (ym_Pa_look R) (fun u4' u4 r4 R_u4 => ?_)
  refine rf_br ?_ ?_
  · exact (yb_Pa_need_13 R_u4)
  · refine rf_ck (ox_33 R_u4) ?_
    refine rf_bT (ym_Pa_refuse R_u4) (fun u5' u5 r5 R_u5 => ?_)
    exact (yb_Pa_need_13 R_u5)
theorem ym_Pa_need {N : Nat} {o : Option Nat} {c : Nat → Nat} {m : MS} {u : CS} (R : RP o c m u) {v1 : Int32} : RF 0 o VE c u (fm_Pa_need N u 33 v1) (hm_Pa_need N m v1) := yb_Pa_need_0 (N := N) R
theorem yb_Pa_opens_23 {N : Nat} {o : Option Nat} {c : Nat → Nat} {m : MS} {u : CS} (R : RP o c m u) : RF 0 o VE c u (fb_Pa_opens_23 N () u 33) (hb_Pa_opens_23 N () m) := by
  unfold fb_Pa_opens_23 hb_Pa_opens_23
  refine rf_bo (gx_33_6 R) ?_
  refine rf_w (px_33_6 R) (fun w2' w2 R_w2 => ?_)
  exact rf_ret R_w2 rfl
theorem yb_Pa_opens_9 {N : Nat} {o : Option Nat} {c : Nat → Nat} {m : MS} {u : CS} (R : RP o c m u) : RF 0 o VE c u (fb_Pa_opens_9 N () u 33) (hb_Pa_opens_9 N () m) := by
  unfold fb_Pa_opens_9 hb_Pa_opens_9
  refine rf_bo (gx_33_6 R) ?_
  refine rf_br ?_ ?_
  · exact (yb_Pa_opens_23 R)
  · refine rf_ck (ox_33 R) ?_
    refine rf_bT (ym_Pa_refuse R) (fun u4' u4 r4 R_u4 => ?_)
    exact (yb_Pa_opens_23 R_u4)
theorem yb_Pa_opens_0 {N : Nat} {o : Option Nat} {c : Nat → Nat} {m : MS} {u : CS} (R : RP o c m u) {v1 : Int32} : RF 0 o VE c u (fb_Pa_opens_0 N () u 33 v1) (hb_Pa_opens_0 N () m v1) := by
  unfold fb_Pa_opens_0 hb_Pa_opens_0
  refine rf_br ?_ ?_
  · refine rf_ck (ox_33 R) ?_
    refine rf_bT (ym_Pa_refuse R) (fun u5' u5 r5 R_u5 => ?_)
    exact (yb_Pa_opens_9 R_u5)
  · exact (yb_Pa_opens_9 R)
theorem ym_Pa_opens {N : Nat} {o : Option Nat} {c : Nat → Nat} {m : MS} {u : CS} (R : RP o c m u) {v1 : Int32} : RF 0 o VE c u (fm_Pa_opens N u 33 v1) (hm_Pa_opens N m v1) := yb_Pa_opens_0 (N := N) R
theorem yb_Pa_closeSigns_79 {N : Nat} {o : Option Nat} {c : Nat → Nat} {m : MS} {u : CS} {G : (CS → Nat → Int32 → Int32 → Int32 → Option (CS × (Int32 ⊕ Nat)))} {G' : (MS → Int32 → Int32 → Int32 → Option (MS × (Int32 ⊕ Nat)))} (hG : ∀ (c : Nat → Nat) (m : MS) (u : CS) (v1 : Int32) (v2 : Int32) (v4 : Int32), RP o c m u → RF 0 o VE c u (G u 33 v1 v2 v4) (G' m v1 v2 v4)) (R : RP o c m u) {v1 : Int32} {v2 : Int32} {v4 : Int32} {v5 : Int32} {v6 : Int32} : RF 0 o VE c u (fb_Pa_closeSigns_79 N G u 33 v1 v2 v4 v5 v6) (hb_Pa_closeSigns_79 N G' m v1 v2 v4 v5 v6) := by
  unfold fb_Pa_closeSigns_79 hb_Pa_closeSigns_79
  refine rf_bo (rx_33_1 R) ?_
  refine rf_so ?_
  refine rf_ck (ox_15 R) ?_
  refine rf_bx0 (ym_Tr_add R) (fun u2' u2 r2 R_u2 => ?_)
  refine rf_ck (ox_33 R_u2) ?_
  refine rf_bx0 (ym_Pa_chain R_u2) (fun u4' u4 r4 R_u4 => ?_)
  refine rf_bo (gx_33_4 R_u4) ?_
  refine rf_w (px_33_4 R_u4) (fun w6' w6 R_w6 => ?_)
  exact (hG _ _ _ _ _ _ R_w6)
theorem yb_Pa_closeSigns_63 {N : Nat} {o : Option Nat} {c : Nat → Nat} {m : MS} {u : CS} {G : (CS → Nat → Int32 → Int32 → Int32 → Option (CS × (Int32 ⊕ Nat)))} {G' : (MS → Int32 → Int32 → Int32 → Option (MS × (Int32 ⊕ Nat)))} (hG : ∀ (c : Nat → Nat) (m : MS) (u : CS) (v1 : Int32) (v2 : Int32) (v4 : Int32), RP o c m u → RF 0 o VE c u (G u 33 v1 v2 v4) (G' m v1 v2 v4)) (R : RP o c m u) {v1 : Int32} {v2 : Int32} {v4 : Int32} {v5 : Int32} {v6 : Int32} {v7 : Int32} : RF 0 o VE c u (fb_Pa_closeSigns_63 N G u 33 v1 v2 v4 v5 v6 v7) (hb_Pa_closeSigns_63 N G' m v1 v2 v4 v5 v6 v7) := by
  unfold fb_Pa_closeSigns_63 hb_Pa_closeSigns_63
  refine rf_br ?_ ?_
  · refine rf_br ?_ ?_
    · refine rf_ck (ox_33 R) ?_
      refine rf_bT (ym_Pa_refuse R) (fun u7' u7 r7 R_u7 => ?_)
      exact (yb_Pa_closeSigns_79 hG R_u7)
    · exact (yb_Pa_closeSigns_79 hG R)
  · exact (yb_Pa_closeSigns_79 hG R)
theorem yb_Pa_closeSigns_60 {N : Nat} {o : Option Nat} {c : Nat → Nat} {m : MS} {u : CS} {G : (CS → Nat → Int32 → Int32 → Int32 → Option (CS × (Int32 ⊕ Nat)))} {G' : (MS → Int32 → Int32 → Int32 → Option (MS × (Int32 ⊕ Nat)))} (hG : ∀ (c : Nat → Nat) (m : MS) (u : CS) (v1 : Int32) (v2 : Int32) (v4 : Int32), RP o c m u → RF 0 o VE c u (G u 33 v1 v2 v4) (G' m v1 v2 v4)) (R : RP o c m u) {v4 : Int32} : RF 0 o VE c u (fb_Pa_closeSigns_60 N G u v4) (hb_Pa_closeSigns_60 N G' m v4) := by
  unfold fb_Pa_closeSigns_60 hb_Pa_closeSigns_60
  exact rf_ret R rfl
theorem yb_Pa_closeSigns_3 {N : Nat} {o : Option Nat} {c : Nat → Nat} {m : MS} {u : CS} {G : (CS → Nat → Int32 → Int32 → Int32 → Option (CS × (Int32 ⊕ Nat)))} {G' : (MS → Int32 → Int32 → Int32 → Option (MS × (Int32 ⊕ Nat)))} (hG : ∀ (c : Nat → Nat) (m : MS) (u : CS) (v1 : Int32) (v2 : Int32) (v4 : Int32), RP o c m u → RF 0 o VE c u (G u 33 v1 v2 v4) (G' m v1 v2 v4)) (R : RP o c m u) {v1 : Int32} {v2 : Int32} {v4 : Int32} : RF 0 o VE c u (fb_Pa_closeSigns_3 N G u 33 v1 v2 v4) (hb_Pa_closeSigns_3 N G' m v1 v2 v4) := by
  unfold fb_Pa_closeSigns_3 hb_Pa_closeSigns_3
  refine rf_bo (gx_33_4 R) ?_
  refine rf_br ?_ ?_
  · exact rf_ret R rfl
  · refine rf_bo (rx_33_3 R) ?_
    refine rf_bo (gx_33_4 R) ?_
    refine rf_so ?_
    refine rf_ai (ax_34 R) ?_
    refine rf_bo (rx_33_0 R) ?_
    refine rf_so ?_
    refine rf_bo (rx_4_2 R) ?_
    refine rf_so ?_
    refine rf_ai (ax_6 R) ?_
    refine rf_bx0 (ym_Pa_rank R) (fun u18' u18 r18 R_u18 => ?_)
    refine rf_br ?_ ?_
    · exact (yb_Pa_closeSigns_60 hG R_u18)
    · refine rf_br ?_ ?_
      · refine rf_br ?_ ?_
        · exact (yb_Pa_closeSigns_60 hG R_u18)
        · exact (yb_Pa_closeSigns_63 hG R_u18)
      · exact (yb_Pa_closeSigns_63 hG R_u18)
theorem yb_Pa_closeSigns_0 {N : Nat} {o : Option Nat} {c : Nat → Nat} {m : MS} {u : CS} {G : (CS → Nat → Int32 → Int32 → Int32 → Option (CS × (Int32 ⊕ Nat)))} {G' : (MS → Int32 → Int32 → Int32 → Option (MS × (Int32 ⊕ Nat)))} (hG : ∀ (c : Nat → Nat) (m : MS) (u : CS) (v1 : Int32) (v2 : Int32) (v4 : Int32), RP o c m u → RF 0 o VE c u (G u 33 v1 v2 v4) (G' m v1 v2 v4)) (R : RP o c m u) {v1 : Int32} {v2 : Int32} {v3 : Int32} : RF 0 o VE c u (fb_Pa_closeSigns_0 N G u 33 v1 v2 v3) (hb_Pa_closeSigns_0 N G' m v1 v2 v3) := by
  unfold fb_Pa_closeSigns_0 hb_Pa_closeSigns_0
  exact (hG _ _ _ _ _ _ R)
theorem yg_Pa_closeSigns {N : Nat} {o : Option Nat} : ∀ n, (∀ (c : Nat → Nat) (m : MS) (u : CS) (v1 : Int32) (v2 : Int32) (v4 : Int32), RP o c m u → RF 0 o VE c u ((gg_Pa_closeSigns N n) u 33 v1 v2 v4) ((hg_Pa_closeSigns N n) m v1 v2 v4)) := by
  intro n
  induction n with
  | zero => exact fun c m u v1 v2 v4 R => rf_none
  | succ n ih => exact fun c m u v1 v2 v4 R => yb_Pa_closeSigns_3 (N := N) ih R
theorem ym_Pa_closeSigns {N : Nat} {o : Option Nat} {c : Nat → Nat} {m : MS} {u : CS} (R : RP o c m u) {v1 : Int32} {v2 : Int32} {v3 : Int32} : RF 0 o VE c u (fm_Pa_closeSigns N u 33 v1 v2 v3) (hm_Pa_closeSigns N m v1 v2 v3) := yb_Pa_closeSigns_0 (N := N) (yg_Pa_closeSigns (N := N) N) R
def SC_Tr_isPattern (o : Option Nat) (S : SG_Tr_isPattern) (S' : SF_Tr_isPattern) : Prop := (∀ (c : Nat → Nat) (m : MS) (u : CS) (v1 : Int32), RP o c m u → RF 0 o VE c u (S u 15 v1) (S' m v1))
theorem yb_Tr_isPattern_191 {N : Nat} {o : Option Nat} {c : Nat → Nat} {m : MS} {u : CS} {S : SG_Tr_isPattern} {S' : SF_Tr_isPattern} {G : (CS → Nat → Int32 → Int32 → Option (CS × Int32))} {G' : (MS → Int32 → Int32 → Option (MS × Int32))} (hS : SC_Tr_isPattern o S S') (hG : ∀ (c : Nat → Nat) (m : MS) (u : CS) (v1 : Int32) (v2 : Int32), RP o c m u → RF 0 o VE c u (G u 15 v1 v2) (G' m v1 v2)) (R : RP o c m u) {t0 : Int32} : RF 0 o VE c u (fb_Tr_isPattern_191 N S G u t0) (hb_Tr_isPattern_191 N S' G' m t0) := by
  unfold fb_Tr_isPattern_191 hb_Tr_isPattern_191
  refine rf_ckk ?_
  exact rf_ret R rfl
theorem yb_Tr_isPattern_186 {N : Nat} {o : Option Nat} {c : Nat → Nat} {m : MS} {u : CS} {S : SG_Tr_isPattern} {S' : SF_Tr_isPattern} {G : (CS → Nat → Int32 → Int32 → Option (CS × Int32))} {G' : (MS → Int32 → Int32 → Option (MS × Int32))} (hS : SC_Tr_isPattern o S S') (hG : ∀ (c : Nat → Nat) (m : MS) (u : CS) (v1 : Int32) (v2 : Int32), RP o c m u → RF 0 o VE c u (G u 15 v1 v2) (G' m v1 v2)) (R : RP o c m u) : RF 0 o VE c u (fb_Tr_isPattern_186 N S G u) (hb_Tr_isPattern_186 N S' G' m) := by
  unfold fb_Tr_isPattern_186 hb_Tr_isPattern_186
  exact (yb_Tr_isPattern_191 hS hG R)
theorem yb_Tr_isPattern_129 {N : Nat} {o : Option Nat} {c : Nat → Nat} {m : MS} {u : CS} {S : SG_Tr_isPattern} {S' : SF_Tr_isPattern} {G : (CS → Nat → Int32 → Int32 → Option (CS × Int32))} {G' : (MS → Int32 → Int32 → Option (MS × Int32))} (hS : SC_Tr_isPattern o S S') (hG : ∀ (c : Nat → Nat) (m : MS) (u : CS) (v1 : Int32) (v2 : Int32), RP o c m u → RF 0 o VE c u (G u 15 v1 v2) (G' m v1 v2)) (R : RP o c m u) {v1 : Int32} {v2 : Int32} : RF 0 o VE c u (fb_Tr_isPattern_129 N S G u 15 v1 v2) (hb_Tr_isPattern_129 N S' G' m v1 v2) := by
  unfold fb_Tr_isPattern_129 hb_Tr_isPattern_129
  refine rf_br ?_ ?_
  · refine rf_bo (rx_15_0 R) ?_
    refine rf_so ?_
    refine rf_ai (ax_16 R) ?_
    refine rf_br ?_ ?_
    · exact (yb_Tr_isPattern_186 hS hG R)
    · refine rf_bo (rx_15_4 R) ?_
      refine rf_so ?_
      refine rf_ai (ax_20 R) ?_
      refine rf_br ?_ ?_
      · exact (yb_Tr_isPattern_186 hS hG R)
      · refine rf_bo (rx_15_4 R) ?_
        refine rf_so ?_
        refine rf_ai (ax_20 R) ?_
        refine rf_ck (ox_15 R) ?_
        refine rf_bx0 (hS _ _ _ _ R) (fun u10' u10 r10 R_u10 => ?_)
        refine rf_br ?_ ?_
        · exact (yb_Tr_isPattern_191 hS hG R_u10)
        · exact (yb_Tr_isPattern_186 hS hG R_u10)
  · refine rf_ck (ox_15 R) ?_
    refine rf_bx0 (hS _ _ _ _ R) (fun u11' u11 r11 R_u11 => ?_)
    refine rf_br ?_ ?_
    · refine rf_ckk ?_
      exact rf_ret R_u11 rfl
    · refine rf_bo (rx_15_5 R_u11) ?_
      refine rf_so ?_
      refine rf_ai (ax_21 R_u11) ?_
      exact (hG _ _ _ _ _ R_u11)
theorem yb_Tr_isPattern_110 {N : Nat} {o : Option Nat} {c : Nat → Nat} {m : MS} {u : CS} {S : SG_Tr_isPattern} {S' : SF_Tr_isPattern} {G : (CS → Nat → Int32 → Int32 → Option (CS × Int32))} {G' : (MS → Int32 → Int32 → Option (MS × Int32))} (hS : SC_Tr_isPattern o S S') (hG : ∀ (c : Nat → Nat) (m : MS) (u : CS) (v1 : Int32) (v2 : Int32), RP o c m u → RF 0 o VE c u (G u 15 v1 v2) (G' m v1 v2)) (R : RP o c m u) {t0 : Int32} : RF 0 o VE c u (fb_Tr_isPattern_110 N S G u t0) (hb_Tr_isPattern_110 N S' G' m t0) := by
  unfold fb_Tr_isPattern_110 hb_Tr_isPattern_110
  refine rf_ckk ?_
  exact rf_ret R rfl
theorem yb_Tr_isPattern_0 {N : Nat} {o : Option Nat} {c : Nat → Nat} {m : MS} {u : CS} {S : SG_Tr_isPattern} {S' : SF_Tr_isPattern} {G : (CS → Nat → Int32 → Int32 → Option (CS × Int32))} {G' : (MS → Int32 → Int32 → Option (MS × Int32))} (hS : SC_Tr_isPattern o S S') (hG : ∀ (c : Nat → Nat) (m : MS) (u : CS) (v1 : Int32) (v2 : Int32), RP o c m u → RF 0 o VE c u (G u 15 v1 v2) (G' m v1 v2)) (R : RP o c m u) {v1 : Int32} : RF 0 o VE c u (fb_Tr_isPattern_0 N S G u 15 v1) (hb_Tr_isPattern_0 N S' G' m v1) := by
  unfold fb_Tr_isPattern_0 hb_Tr_isPattern_0
  refine rf_bo (rx_15_0 R) ?_
  refine rf_so ?_
  refine rf_ai (ax_16 R) ?_
  refine rf_br ?_ ?_
  · refine rf_ckk ?_
    exact rf_ret R rfl
  · refine rf_br ?_ ?_
    · refine rf_ckk ?_
      exact rf_ret R rfl
    · refine rf_br ?_ ?_
      · refine rf_ckk ?_
        exact rf_ret R rfl
      · refine rf_br ?_ ?_
        · refine rf_ckk ?_
          exact rf_ret R rfl
        · refine rf_br ?_ ?_
          · refine rf_bo (rx_15_2 R) ?_
            refine rf_so ?_
            refine rf_ai (ax_18 R) ?_
            refine rf_ck (ox_15 R) ?_
            refine rf_bx0 (hS _ _ _ _ R) (fun u21' u21 r21 R_u21 => ?_)
            refine rf_ckk ?_
            exact rf_ret R_u21 rfl
          · refine rf_br ?_ ?_
            · refine rf_bo (rx_15_2 R) ?_
              refine rf_so ?_
              refine rf_ai (ax_18 R) ?_
              exact (hG _ _ _ _ _ R)
            · refine rf_br ?_ ?_
              · refine rf_bo (rx_15_2 R) ?_
                refine rf_so ?_
                refine rf_ai (ax_18 R) ?_
                exact (hG _ _ _ _ _ R)
              · refine rf_br ?_ ?_
                · refine rf_ckk ?_
                  exact rf_ret R rfl
                · refine rf_br ?_ ?_
                  · refine rf_ckk ?_
                    exact rf_ret R rfl
                  · refine rf_br ?_ ?_
                    · refine rf_ckk ?_
                      exact rf_ret R rfl
                    · refine rf_br ?_ ?_
                      · refine rf_ckk ?_
                        exact rf_ret R rfl
                      · refine rf_br ?_ ?_
                        · refine rf_ckk ?_
                          exact rf_ret R rfl
                        · refine rf_br ?_ ?_
                          · refine rf_ckk ?_
                            exact rf_ret R rfl
                          · refine rf_br ?_ ?_
                            · refine rf_ckk ?_
                              exact rf_ret R rfl
                            · refine rf_br ?_ ?_
                              · refine rf_ckk ?_
                                exact rf_ret R rfl
                              · refine rf_br ?_ ?_
                                · refine rf_ckk ?_
                                  exact rf_ret R rfl
                                · refine rf_br ?_ ?_
                                  · refine rf_bo (rx_15_0 R) ?_
                                    refine rf_bo (rx_15_2 R) ?_
                                    refine rf_so ?_
                                    refine rf_ai (ax_18 R) ?_
                                    refine rf_so ?_
                                    refine rf_ai (ax_16 R) ?_
                                    refine rf_br ?_ ?_
                                    · exact (yb_Tr_isPattern_110 hS hG R)
                                    · exact (yb_Tr_isPattern_110 hS hG R)
                                  · refine rf_ckk ?_
                                    exact rf_ret R rfl
theorem yg_Tr_isPattern {N : Nat} {o : Option Nat} {S : SG_Tr_isPattern} {S' : SF_Tr_isPattern} (hS : SC_Tr_isPattern o S S') : ∀ n, (∀ (c : Nat → Nat) (m : MS) (u : CS) (v1 : Int32) (v2 : Int32), RP o c m u → RF 0 o VE c u ((gg_Tr_isPattern N S n) u 15 v1 v2) ((hg_Tr_isPattern N S' n) m v1 v2)) := by
  intro n
  induction n with
  | zero => exact fun c m u v1 v2 R => rf_none
  | succ n ih => exact fun c m u v1 v2 R => yb_Tr_isPattern_129 (N := N) hS ih R
theorem ym_Tr_isPattern {N : Nat} {o : Option Nat} {c : Nat → Nat} {m : MS} {u : CS} {S : SG_Tr_isPattern} {S' : SF_Tr_isPattern} (hS : SC_Tr_isPattern o S S') (R : RP o c m u) {v1 : Int32} : RF 0 o VE c u (fm_Tr_isPattern N S u 15 v1) (hm_Tr_isPattern N S' m v1) := yb_Tr_isPattern_0 (N := N) hS (yg_Tr_isPattern (N := N) hS N) R
theorem yrc_Tr_isPattern {N : Nat} {o : Option Nat} : ∀ d, SC_Tr_isPattern o (rc_Tr_isPattern N d) (hrc_Tr_isPattern N d) := by
  intro d
  induction d with
  | zero => exact fun c m u v1 R => rf_none
  | succ d ih => exact fun c m u v1 R => ym_Tr_isPattern (N := N) ih R
theorem yr_Tr_isPattern {N : Nat} {o : Option Nat} {c : Nat → Nat} {m : MS} {u : CS} (R : RP o c m u) {v1 : Int32} : RF 0 o VE c u (fr_Tr_isPattern N u 15 v1) (hr_Tr_isPattern N m v1) := (yrc_Tr_isPattern (N := N) 300) _ _ _ _ R
def SC_Pa_matched (o : Option Nat) (S : SG_Pa_matched) (S' : SF_Pa_matched) : Prop := (∀ (c : Nat → Nat) (m : MS) (u : CS) (v1 : Int32), RP o c m u → RF 0 o VE c u (S.1 u 33 v1) (S'.1 m v1)) ∧ (∀ (c : Nat → Nat) (m : MS) (u : CS) (v1 : Int32), RP o c m u → RF 0 o VE c u (S.2.1 u 33 v1) (S'.2.1 m v1)) ∧ (∀ (c : Nat → Nat) (m : MS) (u : CS), RP o c m u → RF 0 o VE c u (S.2.2.1 u 33) (S'.2.2.1 m)) ∧ (∀ (c : Nat → Nat) (m : MS) (u : CS), RP o c m u → RF 0 o VE c u (S.2.2.2.1 u 33) (S'.2.2.2.1 m)) ∧ (∀ (c : Nat → Nat) (m : MS) (u : CS), RP o c m u → RF 0 o VE c u (S.2.2.2.2.1 u 33) (S'.2.2.2.2.1 m)) ∧ (∀ (c : Nat → Nat) (m : MS) (u : CS) (v1 : Int32) (v2 : Int32), RP o c m u → RF 0 o VE c u (S.2.2.2.2.2.1 u 33 v1 v2) (S'.2.2.2.2.2.1 m v1 v2)) ∧ (∀ (c : Nat → Nat) (m : MS) (u : CS), RP o c m u → RF 0 o VE c u (S.2.2.2.2.2.2.1 u 33) (S'.2.2.2.2.2.2.1 m)) ∧ (∀ (c : Nat → Nat) (m : MS) (u : CS) (v1 : Int32), RP o c m u → RF 0 o VE c u (S.2.2.2.2.2.2.2.1 u 33 v1) (S'.2.2.2.2.2.2.2.1 m v1)) ∧ (∀ (c : Nat → Nat) (m : MS) (u : CS), RP o c m u → RF 0 o VE c u (S.2.2.2.2.2.2.2.2.1 u 33) (S'.2.2.2.2.2.2.2.2.1 m)) ∧ (∀ (c : Nat → Nat) (m : MS) (u : CS), RP o c m u → RF 0 o VE c u (S.2.2.2.2.2.2.2.2.2.1 u 33) (S'.2.2.2.2.2.2.2.2.2.1 m)) ∧ (∀ (c : Nat → Nat) (m : MS) (u : CS), RP o c m u → RF 0 o VE c u (S.2.2.2.2.2.2.2.2.2.2.1 u 33) (S'.2.2.2.2.2.2.2.2.2.2.1 m)) ∧ (∀ (c : Nat → Nat) (m : MS) (u : CS), RP o c m u → RF 0 o VE c u (S.2.2.2.2.2.2.2.2.2.2.2.1 u 33) (S'.2.2.2.2.2.2.2.2.2.2.2.1 m)) ∧ (∀ (c : Nat → Nat) (m : MS) (u : CS), RP o c m u → RF 0 o VE c u (S.2.2.2.2.2.2.2.2.2.2.2.2.1 u 33) (S'.2.2.2.2.2.2.2.2.2.2.2.2.1 m)) ∧ (∀ (c : Nat → Nat) (m : MS) (u : CS), RP o c m u → RF 0 o VE c u (S.2.2.2.2.2.2.2.2.2.2.2.2.2.1 u 33) (S'.2.2.2.2.2.2.2.2.2.2.2.2.2.1 m)) ∧ (∀ (c : Nat → Nat) (m : MS) (u : CS) (v1 : Int32), RP o c m u → RF 0 o VE c u (S.2.2.2.2.2.2.2.2.2.2.2.2.2.2.1 u 33 v1) (S'.2.2.2.2.2.2.2.2.2.2.2.2.2.2.1 m v1)) ∧ (∀ (c : Nat → Nat) (m : MS) (u : CS) (v1 : Int32), RP o c m u → RF 0 o VE c u (S.2.2.2.2.2.2.2.2.2.2.2.2.2.2.2.1 u 33 v1) (S'.2.2.2.2.2.2.2.2.2.2.2.2.2.2.2.1 m v1)) ∧ (∀ (c : Nat → Nat) (m : MS) (u : CS) (v1 : Int32), RP o c m u → RF 0 o VE c u (S.2.2.2.2.2.2.2.2.2.2.2.2.2.2.2.2.1 u 33 v1) (S'.2.2.2.2.2.2.2.2.2.2.2.2.2.2.2.2.1 m v1)) ∧ (∀ (c : Nat → Nat) (m : MS) (u : CS), RP o c m u → RF 0 o VE c u (S.2.2.2.2.2.2.2.2.2.2.2.2.2.2.2.2.2.1 u 33) (S'.2.2.2.2.2.2.2.2.2.2.2.2.2.2.2.2.2.1 m)) ∧ (∀ (c : Nat → Nat) (m : MS) (u : CS) (v1 : Int32) (v2 : Int32), RP o c m u → RF 0 o VE c u (S.2.2.2.2.2.2.2.2.2.2.2.2.2.2.2.2.2.2.1 u 33 v1 v2) (S'.2.2.2.2.2.2.2.2.2.2.2.2.2.2.2.2.2.2.1 m v1 v2)) ∧ (∀ (c : Nat → Nat) (m : MS) (u : CS) (v1 : Int32) (v2 : Int32) (v3 : Int32), RP o c m u → RF 0 o VE c u (S.2.2.2.2.2.2.2.2.2.2.2.2.2.2.2.2.2.2.2 u 33 v1 v2 v3) (S'.2.2.2.2.2.2.2.2.2.2.2.2.2.2.2.2.2.2.2 m v1 v2 v3))
theorem yb_Pa_matched_69 {N : Nat} {o : Option Nat} {c : Nat → Nat} {m : MS} {u : CS} {S : SG_Pa_matched} {S' : SF_Pa_matched} (hS : SC_Pa_matched o S S') (R : RP o c m u) {v1 : Int32} {v3 : Int32} {t0 : Int32} : RF 0 o VE c u (fb_Pa_matched_69 N S () u 33 v1 v3 t0) (hb_Pa_matched_69 N S' () m v1 v3 t0) := by
  unfold fb_Pa_matched_69 hb_Pa_matched_69
  refine rf_bo (rx_33_1 R) ?_
  refine rf_ck (ox_33 R) ?_
  refine rf_bT (hS.2.2.2.2.2.2.2.2.2.2.2.2.2.2.1 _ _ _ _ R) (fun u2' u2 r2 R_u2 => ?_)
  refine rf_so ?_
  refine rf_ck (ox_15 R_u2) ?_
  refine rf_bx0 (ym_Tr_add R_u2) (fun u3' u3 r3 R_u3 => ?_)
  exact rf_ret R_u3 rfl
theorem yb_Pa_matched_41 {N : Nat} {o : Option Nat} {c : Nat → Nat} {m : MS} {u : CS} {S : SG_Pa_matched} {S' : SF_Pa_matched} (hS : SC_Pa_matched o S S') (R : RP o c m u) {v1 : Int32} {v2 : Int32} : RF 0 o VE c u (fb_Pa_matched_41 N S () u 33 v1 v2) (hb_Pa_matched_41 N S' () m v1 v2) := by
  unfold fb_Pa_matched_41 hb_Pa_matched_41
  refine rf_bo (gx_33_5 R) ?_
  refine rf_bo (gx_33_5 R) ?_
  refine rf_w (px_33_5 R) (fun w7' w7 R_w7 => ?_)
  refine rf_br ?_ ?_
  · exact (yb_Pa_matched_69 hS R_w7)
  · exact (yb_Pa_matched_69 hS R_w7)
theorem yb_Pa_matched_19 {N : Nat} {o : Option Nat} {c : Nat → Nat} {m : MS} {u : CS} {S : SG_Pa_matched} {S' : SF_Pa_matched} (hS : SC_Pa_matched o S S') (R : RP o c m u) {v1 : Int32} {v2 : Int32} : RF 0 o VE c u (fb_Pa_matched_19 N S () u 33 v1 v2) (hb_Pa_matched_19 N S' () m v1 v2) := by
  unfold fb_Pa_matched_19 hb_Pa_matched_19
  refine rf_br ?_ ?_
  · refine rf_bo (rx_33_1 R) ?_
    refine rf_so ?_
    refine rf_ck (ox_15 R) ?_
    refine rf_bx0 (yr_Tr_isPattern R) (fun u9' u9 r9 R_u9 => ?_)
    refine rf_br ?_ ?_
    · refine rf_ck (ox_33 R_u9) ?_
      refine rf_bT (ym_Pa_refuse R_u9) (fun u11' u11 r11 R_u11 => ?_)
      exact (yb_Pa_matched_41 hS R_u11)
    · exact (yb_Pa_matched_41 hS R_u9)
  · exact (yb_Pa_matched_41 hS R)
theorem yb_Pa_matched_0 {N : Nat} {o : Option Nat} {c : Nat → Nat} {m : MS} {u : CS} {S : SG_Pa_matched} {S' : SF_Pa_matched} (hS : SC_Pa_matched o S S') (R : RP o c m u) {v1 : Int32} : RF 0 o VE c u (fb_Pa_matched_0 N S () u 33 v1) (hb_Pa_matched_0 N S' () m v1) := by
  unfold fb_Pa_matched_0 hb_Pa_matched_0
  refine rf_ck (ox_33 R) ?_
  refine rf_bT (ym_Pa_look R) (fun u12' u12 r12 R_u12 => ?_)
  refine rf_br ?_ ?_
  · exact (yb_Pa_matched_19 hS R_u12)
  · refine rf_br ?_ ?_
    · exact (yb_Pa_matched_19 hS R_u12)
    · exact rf_ret R_u12 rfl
theorem ym_Pa_matched {N : Nat} {o : Option Nat} {c : Nat → Nat} {m : MS} {u : CS} {S : SG_Pa_matched} {S' : SF_Pa_matched} (hS : SC_Pa_matched o S S') (R : RP o c m u) {v1 : Int32} : RF 0 o VE c u (fm_Pa_matched N S u 33 v1) (hm_Pa_matched N S' m v1) := yb_Pa_matched_0 (N := N) hS R
theorem yb_Pa_applied_145 {N : Nat} {o : Option Nat} {c : Nat → Nat} {m : MS} {u : CS} {S : SG_Pa_matched} {S' : SF_Pa_matched} {G : (CS → Nat → Int32 → Int32 → Int32 → Option (CS × (Int32 ⊕ Nat)))} {G' : (MS → Int32 → Int32 → Int32 → Option (MS × (Int32 ⊕ Nat)))} (hS : SC_Pa_matched o S S') (hG : ∀ (c : Nat → Nat) (m : MS) (u : CS) (v2 : Int32) (v3 : Int32) (v4 : Int32), RP o c m u → RF 0 o VE c u (G u 33 v2 v3 v4) (G' m v2 v3 v4)) (R : RP o c m u) {v2 : Int32} : RF 0 o VE c u (fb_Pa_applied_145 N S G u v2) (hb_Pa_applied_145 N S' G' m v2) := by
  unfold fb_Pa_applied_145 hb_Pa_applied_145
  exact rf_ret R rfl
theorem yb_Pa_applied_136 {N : Nat} {o : Option Nat} {c : Nat → Nat} {m : MS} {u : CS} {S : SG_Pa_matched} {S' : SF_Pa_matched} {G : (CS → Nat → Int32 → Int32 → Int32 → Option (CS × (Int32 ⊕ Nat)))} {G' : (MS → Int32 → Int32 → Int32 → Option (MS × (Int32 ⊕ Nat)))} (hS : SC_Pa_matched o S S') (hG : ∀ (c : Nat → Nat) (m : MS) (u : CS) (v2 : Int32) (v3 : Int32) (v4 : Int32), RP o c m u → RF 0 o VE c u (G u 33 v2 v3 v4) (G' m v2 v3 v4)) (R : RP o c m u) {v2 : Int32} {v4 : Int32} {v7 : Int32} : RF 0 o VE c u (fb_Pa_applied_136 N S G u 33 v2 v4 v7) (hb_Pa_applied_136 N S' G' m v2 v4 v7) := by
  unfold fb_Pa_applied_136 hb_Pa_applied_136
  exact (hG _ _ _ _ _ _ R)
theorem yb_Pa_applied_38 {N : Nat} {o : Option Nat} {c : Nat → Nat} {m : MS} {u : CS} {S : SG_Pa_matched} {S' : SF_Pa_matched} {G : (CS → Nat → Int32 → Int32 → Int32 → Option (CS × (Int32 ⊕ Nat)))} {G' : (MS → Int32 → Int32 → Int32 → Option (MS × (Int32 ⊕ Nat)))} (hS : SC_Pa_matched o S S') (hG : ∀ (c : Nat → Nat) (m : MS) (u : CS) (v2 : Int32) (v3 : Int32) (v4 : Int32), RP o c m u → RF 0 o VE c u (G u 33 v2 v3 v4) (G' m v2 v3 v4)) (R : RP o c m u) {v2 : Int32} {v3 : Int32} {v4 : Int32} : RF 0 o VE c u (fb_Pa_applied_38 N S G u 33 v2 v3 v4) (hb_Pa_applied_38 N S' G' m v2 v3 v4) := by
  unfold fb_Pa_applied_38 hb_Pa_applied_38
  refine rf_br ?_ ?_
  · exact (yb_Pa_applied_145 hS hG R)
  · refine rf_ck (ox_33 R) ?_
    refine rf_bT (ym_Pa_look R) (fun u1' u1 r1 R_u1 => ?_)
    refine rf_br ?_ ?_
    · refine rf_bo (gx_33_5 R_u1) ?_
      refine rf_bo (gx_33_5 R_u1) ?_
      refine rf_w (px_33_5 R_u1) (fun w4' w4 R_w4 => ?_)
      refine rf_ck (ox_33 R_w4) ?_
      refine rf_bT (hS.2.2.2.2.2.2.2.2.2.2.2.2.2.2.2.2.2.2.2 _ _ _ _ _ _ R_w4) (fun u5' u5 r5 R_u5 => ?_)
      refine rf_bo (rx_33_1 R_u5) ?_
      refine rf_bo (rx_33_1 R_u5) ?_
      refine rf_so ?_
      refine rf_ck (ox_15 R_u5) ?_
      refine rf_bx0 (ym_Tr_length R_u5) (fun u8' u8 r8 R_u8 => ?_)
      refine rf_so ?_
      refine rf_ck (ox_15 R_u8) ?_
      refine rf_bx0 (ym_Tr_add R_u8) (fun u10' u10 r10 R_u10 => ?_)
      refine rf_br ?_ ?_
      · refine rf_bo (rx_33_1 R_u10) ?_
        refine rf_so ?_
        refine rf_bo (rx_15_3 R_u10) ?_
        refine rf_so ?_
        refine rf_wk (sx_19 R_u10) (fun w21' w21 R_w21 => ?_)
        exact (yb_Pa_applied_136 hS hG R_w21)
      · refine rf_bo (rx_33_1 R_u10) ?_
        refine rf_so ?_
        refine rf_bo (rx_15_5 R_u10) ?_
        refine rf_so ?_
        refine rf_wk (sx_21 R_u10) (fun w16' w16 R_w16 => ?_)
        exact (yb_Pa_applied_136 hS hG R_w16)
    · exact (yb_Pa_applied_145 hS hG R_u1)
theorem yb_Pa_applied_0 {N : Nat} {o : Option Nat} {c : Nat → Nat} {m : MS} {u : CS} {S : SG_Pa_matched} {S' : SF_Pa_matched} {G : (CS → Nat → Int32 → Int32 → Int32 → Option (CS × (Int32 ⊕ Nat)))} {G' : (MS → Int32 → Int32 → Int32 → Option (MS × (Int32 ⊕ Nat)))} (hS : SC_Pa_matched o S S') (hG : ∀ (c : Nat → Nat) (m : MS) (u : CS) (v2 : Int32) (v3 : Int32) (v4 : Int32), RP o c m u → RF 0 o VE c u (G u 33 v2 v3 v4) (G' m v2 v3 v4)) (R : RP o c m u) {v1 : Int32} : RF 0 o VE c u (fb_Pa_applied_0 N S G u 33 v1) (hb_Pa_applied_0 N S' G' m v1) := by
  unfold fb_Pa_applied_0 hb_Pa_applied_0
  refine rf_ck (ox_33 R) ?_
  refine rf_bT (ym_Pa_look R) (fun u22' u22 r22 R_u22 => ?_)
  refine rf_br ?_ ?_
  · refine rf_bo (rx_33_1 R_u22) ?_
    refine rf_bo (rx_33_1 R_u22) ?_
    refine rf_so ?_
    refine rf_bo (rx_15_1 R_u22) ?_
    refine rf_so ?_
    refine rf_ai (ax_17 R_u22) ?_
    refine rf_so ?_
    refine rf_ck (ox_15 R_u22) ?_
    refine rf_bx0 (ym_Tr_add R_u22) (fun u29' u29 r29 R_u29 => ?_)
    exact (hG _ _ _ _ _ _ R_u29)
  · exact rf_ret R_u22 rfl
theorem yg_Pa_applied {N : Nat} {o : Option Nat} {S : SG_Pa_matched} {S' : SF_Pa_matched} (hS : SC_Pa_matched o S S') : ∀ n, (∀ (c : Nat → Nat) (m : MS) (u : CS) (v2 : Int32) (v3 : Int32) (v4 : Int32), RP o c m u → RF 0 o VE c u ((gg_Pa_applied N S n) u 33 v2 v3 v4) ((hg_Pa_applied N S' n) m v2 v3 v4)) := by
  intro n
  induction n with
  | zero => exact fun c m u v2 v3 v4 R => rf_none
  | succ n ih => exact fun c m u v2 v3 v4 R => yb_Pa_applied_38 (N := N) hS ih R
theorem ym_Pa_applied {N : Nat} {o : Option Nat} {c : Nat → Nat} {m : MS} {u : CS} {S : SG_Pa_matched} {S' : SF_Pa_matched} (hS : SC_Pa_matched o S S') (R : RP o c m u) {v1 : Int32} : RF 0 o VE c u (fm_Pa_applied N S u 33 v1) (hm_Pa_applied N S' m v1) := yb_Pa_applied_0 (N := N) hS (yg_Pa_applied (N := N) hS N) R
theorem yb_Pa_fun_0 {N : Nat} {o : Option Nat} {c : Nat → Nat} {m : MS} {u : CS} {S : SG_Pa_matched} {S' : SF_Pa_matched} (hS : SC_Pa_matched o S S') (R : RP o c m u) : RF 0 o VE c u (fb_Pa_fun_0 N S () u 33) (hb_Pa_fun_0 N S' () m) := by
  unfold fb_Pa_fun_0 hb_Pa_fun_0
  refine rf_bo (gx_33_5 R) ?_
  refine rf_bo (gx_33_5 R) ?_
  refine rf_w (px_33_5 R) (fun w3' w3 R_w3 => ?_)
  refine rf_ck (ox_33 R_w3) ?_
  refine rf_bT (ym_Pa_look R_w3) (fun u4' u4 r4 R_u4 => ?_)
  refine rf_br ?_ ?_
  · refine rf_bo (gx_33_5 R_u4) ?_
    refine rf_bo (gx_33_5 R_u4) ?_
    refine rf_w (px_33_5 R_u4) (fun w17' w17 R_w17 => ?_)
    refine rf_ck (ox_33 R_w17) ?_
    refine rf_bT (ym_Pa_need R_w17) (fun u18' u18 r18 R_u18 => ?_)
    refine rf_ck (ox_33 R_u18) ?_
    refine rf_bT (ym_Pa_need R_u18) (fun u19' u19 r19 R_u19 => ?_)
    refine rf_bo (rx_33_1 R_u19) ?_
    refine rf_bo (rx_33_0 R_u19) ?_
    refine rf_so ?_
    refine rf_bo (rx_4_3 R_u19) ?_
    refine rf_so ?_
    refine rf_ai (ax_7 R_u19) ?_
    refine rf_bo (rx_33_0 R_u19) ?_
    refine rf_so ?_
    refine rf_bo (rx_4_3 R_u19) ?_
    refine rf_so ?_
    refine rf_ai (ax_7 R_u19) ?_
    refine rf_so ?_
    refine rf_ck (ox_15 R_u19) ?_
    refine rf_bx0 (ym_Tr_add R_u19) (fun u31' u31 r31 R_u31 => ?_)
    exact rf_ret R_u31 rfl
  · refine rf_ck (ox_33 R_u4) ?_
    refine rf_bT (ym_Pa_need R_u4) (fun u5' u5 r5 R_u5 => ?_)
    refine rf_bo (rx_33_2 R_u5) ?_
    refine rf_so ?_
    refine rf_ck (ox_22 R_u5) ?_
    refine rf_bx0 (ym_Co_addPlace R_u5) (fun u7' u7 r7 R_u7 => ?_)
    refine rf_ck (ox_33 R_u7) ?_
    refine rf_bT (hS.2.2.2.2.2.2.2.2.2.2.2.2.2.2.2.2.2.2.2 _ _ _ _ _ _ R_u7) (fun u9' u9 r9 R_u9 => ?_)
    refine rf_ck (ox_33 R_u9) ?_
    refine rf_bT (hS.2.2.2.2.2.1 _ _ _ _ _ R_u9) (fun u10' u10 r10 R_u10 => ?_)
    refine rf_ck (ox_33 R_u10) ?_
    refine rf_bT (ym_Pa_need R_u10) (fun u11' u11 r11 R_u11 => ?_)
    refine rf_bo (rx_33_1 R_u11) ?_
    refine rf_so ?_
    refine rf_ck (ox_15 R_u11) ?_
    refine rf_bx0 (ym_Tr_add R_u11) (fun u13' u13 r13 R_u13 => ?_)
    exact rf_ret R_u13 rfl
theorem ym_Pa_fun {N : Nat} {o : Option Nat} {c : Nat → Nat} {m : MS} {u : CS} {S : SG_Pa_matched} {S' : SF_Pa_matched} (hS : SC_Pa_matched o S S') (R : RP o c m u) : RF 0 o VE c u (fm_Pa_fun N S u 33) (hm_Pa_fun N S' m) := yb_Pa_fun_0 (N := N) hS R
theorem yb_Pa_receive_75 {N : Nat} {o : Option Nat} {c : Nat → Nat} {m : MS} {u : CS} {S : SG_Pa_matched} {S' : SF_Pa_matched} (hS : SC_Pa_matched o S S') (R : RP o c m u) {v1 : Int32} {v2 : Int32} {v3 : Int32} {v4 : Int32} : RF 0 o VE c u (fb_Pa_receive_75 N S () u 33 v1 v2 v3 v4) (hb_Pa_receive_75 N S' () m v1 v2 v3 v4) := by
  unfold fb_Pa_receive_75 hb_Pa_receive_75
  refine rf_ck (ox_33 R) ?_
  refine rf_bT (ym_Pa_need R) (fun u1' u1 r1 R_u1 => ?_)
  refine rf_bo (rx_33_1 R_u1) ?_
  refine rf_so ?_
  refine rf_ck (ox_15 R_u1) ?_
  refine rf_bx0 (ym_Tr_add R_u1) (fun u3' u3 r3 R_u3 => ?_)
  exact rf_ret R_u3 rfl
theorem yb_Pa_receive_32 {N : Nat} {o : Option Nat} {c : Nat → Nat} {m : MS} {u : CS} {S : SG_Pa_matched} {S' : SF_Pa_matched} (hS : SC_Pa_matched o S S') (R : RP o c m u) {v1 : Int32} {t0 : Int32} : RF 0 o VE c u (fb_Pa_receive_32 N S () u 33 v1 t0) (hb_Pa_receive_32 N S' () m v1 t0) := by
  unfold fb_Pa_receive_32 hb_Pa_receive_32
  refine rf_ck (ox_33 R) ?_
  refine rf_bT (ym_Pa_look R) (fun u5' u5 r5 R_u5 => ?_)
  refine rf_br ?_ ?_
  · refine rf_bo (gx_33_5 R_u5) ?_
    refine rf_w (px_33_5 R_u5) (fun w7' w7 R_w7 => ?_)
    refine rf_ck (ox_33 R_w7) ?_
    refine rf_bT (hS.2.2.2.2.2.2.2.2.2.2.2.2.2.2.1 _ _ _ _ R_w7) (fun u8' u8 r8 R_u8 => ?_)
    refine rf_ck (ox_33 R_u8) ?_
    refine rf_bT (ym_Pa_need R_u8) (fun u9' u9 r9 R_u9 => ?_)
    refine rf_ck (ox_33 R_u9) ?_
    refine rf_bT (hS.2.2.2.2.2.2.2.2.2.1 _ _ _ R_u9) (fun u10' u10 r10 R_u10 => ?_)
    exact (yb_Pa_receive_75 hS R_u10)
  · exact (yb_Pa_receive_75 hS R_u5)
theorem yb_Pa_receive_0 {N : Nat} {o : Option Nat} {c : Nat → Nat} {m : MS} {u : CS} {S : SG_Pa_matched} {S' : SF_Pa_matched} (hS : SC_Pa_matched o S S') (R : RP o c m u) : RF 0 o VE c u (fb_Pa_receive_0 N S () u 33) (hb_Pa_receive_0 N S' () m) := by
  unfold fb_Pa_receive_0 hb_Pa_receive_0
  refine rf_bo (gx_33_5 R) ?_
  refine rf_bo (gx_33_5 R) ?_
  refine rf_w (px_33_5 R) (fun w13' w13 R_w13 => ?_)
  refine rf_ck (ox_33 R_w13) ?_
  refine rf_bT (ym_Pa_look R_w13) (fun u14' u14 r14 R_u14 => ?_)
  refine rf_br ?_ ?_
  · exact (yb_Pa_receive_32 hS R_u14)
  · refine rf_ck (ox_33 R_u14) ?_
    refine rf_bT (hS.2.2.2.2.2.2.2.1 _ _ _ _ R_u14) (fun u15' u15 r15 R_u15 => ?_)
    exact (yb_Pa_receive_32 hS R_u15)
theorem ym_Pa_receive {N : Nat} {o : Option Nat} {c : Nat → Nat} {m : MS} {u : CS} {S : SG_Pa_matched} {S' : SF_Pa_matched} (hS : SC_Pa_matched o S S') (R : RP o c m u) : RF 0 o VE c u (fm_Pa_receive N S u 33) (hm_Pa_receive N S' m) := yb_Pa_receive_0 (N := N) hS R
theorem yb_Pa_choice_0 {N : Nat} {o : Option Nat} {c : Nat → Nat} {m : MS} {u : CS} {S : SG_Pa_matched} {S' : SF_Pa_matched} (hS : SC_Pa_matched o S S') (R : RP o c m u) : RF 0 o VE c u (fb_Pa_choice_0 N S () u 33) (hb_Pa_choice_0 N S' () m) := by
  unfold fb_Pa_choice_0 hb_Pa_choice_0
  refine rf_bo (gx_33_5 R) ?_
  refine rf_ck (ox_33 R) ?_
  refine rf_bT (hS.2.2.2.2.2.2.2.2.2.2.2.2.2.2.2.2.2.2.1 _ _ _ _ _ R) (fun u2' u2 r2 R_u2 => ?_)
  refine rf_ck (ox_33 R_u2) ?_
  refine rf_bT (ym_Pa_need R_u2) (fun u3' u3 r3 R_u3 => ?_)
  refine rf_bo (rx_33_1 R_u3) ?_
  refine rf_ck (ox_33 R_u3) ?_
  refine rf_bT (hS.2.2.2.2.2.2.2.2.2.1 _ _ _ R_u3) (fun u5' u5 r5 R_u5 => ?_)
  refine rf_so ?_
  refine rf_ck (ox_15 R_u5) ?_
  refine rf_bx0 (ym_Tr_add R_u5) (fun u6' u6 r6 R_u6 => ?_)
  exact rf_ret R_u6 rfl
theorem ym_Pa_choice {N : Nat} {o : Option Nat} {c : Nat → Nat} {m : MS} {u : CS} {S : SG_Pa_matched} {S' : SF_Pa_matched} (hS : SC_Pa_matched o S S') (R : RP o c m u) : RF 0 o VE c u (fm_Pa_choice N S u 33) (hm_Pa_choice N S' m) := yb_Pa_choice_0 (N := N) hS R
theorem yb_Pa_part_30 {N : Nat} {o : Option Nat} {c : Nat → Nat} {m : MS} {u : CS} {S : SG_Pa_matched} {S' : SF_Pa_matched} (hS : SC_Pa_matched o S S') (R : RP o c m u) {v1 : Int32} {v2 : Int32} {v3 : Int32} : RF 0 o VE c u (fb_Pa_part_30 N S () u 33 v1 v2 v3) (hb_Pa_part_30 N S' () m v1 v2 v3) := by
  unfold fb_Pa_part_30 hb_Pa_part_30
  refine rf_ck (ox_33 R) ?_
  refine rf_bT (ym_Pa_need R) (fun u1' u1 r1 R_u1 => ?_)
  refine rf_bo (rx_33_1 R_u1) ?_
  refine rf_ck (ox_33 R_u1) ?_
  refine rf_bT (hS.2.2.2.2.2.2.2.2.2.1 _ _ _ R_u1) (fun u3' u3 r3 R_u3 => ?_)
  refine rf_so ?_
  refine rf_ck (ox_15 R_u3) ?_
  refine rf_bx0 (ym_Tr_add R_u3) (fun u4' u4 r4 R_u4 => ?_)
  exact rf_ret R_u4 rfl
theorem yb_Pa_part_0 {N : Nat} {o : Option Nat} {c : Nat → Nat} {m : MS} {u : CS} {S : SG_Pa_matched} {S' : SF_Pa_matched} (hS : SC_Pa_matched o S S') (R : RP o c m u) {v1 : Int32} {v2 : Int32} : RF 0 o VE c u (fb_Pa_part_0 N S () u 33 v1 v2) (hb_Pa_part_0 N S' () m v1 v2) := by
  unfold fb_Pa_part_0 hb_Pa_part_0
  refine rf_ck (ox_33 R) ?_
  refine rf_bT (ym_Pa_look R) (fun u6' u6 r6 R_u6 => ?_)
  refine rf_br ?_ ?_
  · refine rf_bo (gx_33_5 R_u6) ?_
    refine rf_w (px_33_5 R_u6) (fun w8' w8 R_w8 => ?_)
    refine rf_ck (ox_33 R_w8) ?_
    refine rf_bT (hS.2.2.2.2.2.2.2.2.2.2.2.2.2.2.2.2.2.2.1 _ _ _ _ _ R_w8) (fun u9' u9 r9 R_u9 => ?_)
    exact (yb_Pa_part_30 hS R_u9)
  · exact (yb_Pa_part_30 hS R_u6)
theorem ym_Pa_part {N : Nat} {o : Option Nat} {c : Nat → Nat} {m : MS} {u : CS} {S : SG_Pa_matched} {S' : SF_Pa_matched} (hS : SC_Pa_matched o S S') (R : RP o c m u) {v1 : Int32} {v2 : Int32} : RF 0 o VE c u (fm_Pa_part N S u 33 v1 v2) (hm_Pa_part N S' m v1 v2) := yb_Pa_part_0 (N := N) hS R
theorem yb_Pa_oneCase_0 {N : Nat} {o : Option Nat} {c : Nat → Nat} {m : MS} {u : CS} {S : SG_Pa_matched} {S' : SF_Pa_matched} (hS : SC_Pa_matched o S S') (R : RP o c m u) : RF 0 o VE c u (fb_Pa_oneCase_0 N S () u 33) (hb_Pa_oneCase_0 N S' () m) := by
  unfold fb_Pa_oneCase_0 hb_Pa_oneCase_0
  refine rf_bo (gx_33_5 R) ?_
  refine rf_ck (ox_33 R) ?_
  refine rf_bT (hS.2.2.2.2.2.2.2.2.2.2.2.2.2.2.2.2.2.1 _ _ _ R) (fun u2' u2 r2 R_u2 => ?_)
  refine rf_ck (ox_33 R_u2) ?_
  refine rf_bT (hS.2.2.2.2.2.1 _ _ _ _ _ R_u2) (fun u3' u3 r3 R_u3 => ?_)
  exact rf_ret R_u3 rfl
theorem ym_Pa_oneCase {N : Nat} {o : Option Nat} {c : Nat → Nat} {m : MS} {u : CS} {S : SG_Pa_matched} {S' : SF_Pa_matched} (hS : SC_Pa_matched o S S') (R : RP o c m u) : RF 0 o VE c u (fm_Pa_oneCase N S u 33) (hm_Pa_oneCase N S' m) := yb_Pa_oneCase_0 (N := N) hS R
theorem yb_Pa_parts_75 {N : Nat} {o : Option Nat} {c : Nat → Nat} {m : MS} {u : CS} {S : SG_Pa_matched} {S' : SF_Pa_matched} {G : (CS → Nat → Int32 → Int32 → Int32 → Int32 → Option (CS × (Int32 ⊕ Nat)))} {G' : (MS → Int32 → Int32 → Int32 → Int32 → Option (MS × (Int32 ⊕ Nat)))} (hS : SC_Pa_matched o S S') (hG : ∀ (c : Nat → Nat) (m : MS) (u : CS) (v1 : Int32) (v2 : Int32) (v3 : Int32) (v4 : Int32), RP o c m u → RF 0 o VE c u (G u 33 v1 v2 v3 v4) (G' m v1 v2 v3 v4)) (R : RP o c m u) {v2 : Int32} : RF 0 o VE c u (fb_Pa_parts_75 N S G u v2) (hb_Pa_parts_75 N S' G' m v2) := by
  unfold fb_Pa_parts_75 hb_Pa_parts_75
  exact rf_ret R rfl
theorem yb_Pa_parts_65 {N : Nat} {o : Option Nat} {c : Nat → Nat} {m : MS} {u : CS} {S : SG_Pa_matched} {S' : SF_Pa_matched} {G : (CS → Nat → Int32 → Int32 → Int32 → Int32 → Option (CS × (Int32 ⊕ Nat)))} {G' : (MS → Int32 → Int32 → Int32 → Int32 → Option (MS × (Int32 ⊕ Nat)))} (hS : SC_Pa_matched o S S') (hG : ∀ (c : Nat → Nat) (m : MS) (u : CS) (v1 : Int32) (v2 : Int32) (v3 : Int32) (v4 : Int32), RP o c m u → RF 0 o VE c u (G u 33 v1 v2 v3 v4) (G' m v1 v2 v3 v4)) (R : RP o c m u) {v1 : Int32} {v2 : Int32} {v4 : Int32} {t1 : Int32} {t2 : Int32} : RF 0 o VE c u (fb_Pa_parts_65 N S G u 33 v1 v2 v4 33 t1 t2) (hb_Pa_parts_65 N S' G' m v1 v2 v4 t1 t2) := by
  unfold fb_Pa_parts_65 hb_Pa_parts_65
  refine rf_ck (ox_33 R) ?_
  refine rf_bx0 (ym_Pa_chain R) (fun u1' u1 r1 R_u1 => ?_)
  exact (hG _ _ _ _ _ _ _ R_u1)
theorem yb_Pa_parts_21 {N : Nat} {o : Option Nat} {c : Nat → Nat} {m : MS} {u : CS} {S : SG_Pa_matched} {S' : SF_Pa_matched} {G : (CS → Nat → Int32 → Int32 → Int32 → Int32 → Option (CS × (Int32 ⊕ Nat)))} {G' : (MS → Int32 → Int32 → Int32 → Int32 → Option (MS × (Int32 ⊕ Nat)))} (hS : SC_Pa_matched o S S') (hG : ∀ (c : Nat → Nat) (m : MS) (u : CS) (v1 : Int32) (v2 : Int32) (v3 : Int32) (v4 : Int32), RP o c m u → RF 0 o VE c u (G u 33 v1 v2 v3 v4) (G' m v1 v2 v3 v4)) (R : RP o c m u) {v1 : Int32} {v2 : Int32} {v3 : Int32} {v4 : Int32} : RF 0 o VE c u (fb_Pa_parts_21 N S G u 33 v1 v2 v3 v4) (hb_Pa_parts_21 N S' G' m v1 v2 v3 v4) := by
  unfold fb_Pa_parts_21 hb_Pa_parts_21
  refine rf_br ?_ ?_
  · exact (yb_Pa_parts_75 hS hG R)
  · refine rf_ck (ox_33 R) ?_
    refine rf_bT (ym_Pa_look R) (fun u2' u2 r2 R_u2 => ?_)
    refine rf_br ?_ ?_
    · refine rf_bo (gx_33_5 R_u2) ?_
      refine rf_w (px_33_5 R_u2) (fun w4' w4 R_w4 => ?_)
      refine rf_br ?_ ?_
      · refine rf_ck (ox_33 R_w4) ?_
        refine rf_bT (hS.2.2.2.2.1 _ _ _ R_w4) (fun u5' u5 r5 R_u5 => ?_)
        exact (yb_Pa_parts_65 hS hG R_u5)
      · refine rf_ck (ox_33 R_w4) ?_
        refine rf_bT (hS.2.2.2.2.2.2.1 _ _ _ R_w4) (fun u6' u6 r6 R_u6 => ?_)
        exact (yb_Pa_parts_65 hS hG R_u6)
    · exact (yb_Pa_parts_75 hS hG R_u2)
theorem yb_Pa_parts_15 {N : Nat} {o : Option Nat} {c : Nat → Nat} {m : MS} {u : CS} {S : SG_Pa_matched} {S' : SF_Pa_matched} {G : (CS → Nat → Int32 → Int32 → Int32 → Int32 → Option (CS × (Int32 ⊕ Nat)))} {G' : (MS → Int32 → Int32 → Int32 → Int32 → Option (MS × (Int32 ⊕ Nat)))} (hS : SC_Pa_matched o S S') (hG : ∀ (c : Nat → Nat) (m : MS) (u : CS) (v1 : Int32) (v2 : Int32) (v3 : Int32) (v4 : Int32), RP o c m u → RF 0 o VE c u (G u 33 v1 v2 v3 v4) (G' m v1 v2 v3 v4)) (R : RP o c m u) {v1 : Int32} {t0 : Int32} : RF 0 o VE c u (fb_Pa_parts_15 N S G u 33 v1 t0) (hb_Pa_parts_15 N S' G' m v1 t0) := by
  unfold fb_Pa_parts_15 hb_Pa_parts_15
  exact (hG _ _ _ _ _ _ _ R)
theorem yb_Pa_parts_0 {N : Nat} {o : Option Nat} {c : Nat → Nat} {m : MS} {u : CS} {S : SG_Pa_matched} {S' : SF_Pa_matched} {G : (CS → Nat → Int32 → Int32 → Int32 → Int32 → Option (CS × (Int32 ⊕ Nat)))} {G' : (MS → Int32 → Int32 → Int32 → Int32 → Option (MS × (Int32 ⊕ Nat)))} (hS : SC_Pa_matched o S S') (hG : ∀ (c : Nat → Nat) (m : MS) (u : CS) (v1 : Int32) (v2 : Int32) (v3 : Int32) (v4 : Int32), RP o c m u → RF 0 o VE c u (G u 33 v1 v2 v3 v4) (G' m v1 v2 v3 v4)) (R : RP o c m u) {v1 : Int32} : RF 0 o VE c u (fb_Pa_parts_0 N S G u 33 v1) (hb_Pa_parts_0 N S' G' m v1) := by
  unfold fb_Pa_parts_0 hb_Pa_parts_0
  refine rf_br ?_ ?_
  · refine rf_ck (ox_33 R) ?_
    refine rf_bT (hS.2.2.2.2.1 _ _ _ R) (fun u7' u7 r7 R_u7 => ?_)
    exact (yb_Pa_parts_15 hS hG R_u7)
  · refine rf_ck (ox_33 R) ?_
    refine rf_bT (hS.2.2.2.2.2.2.1 _ _ _ R) (fun u8' u8 r8 R_u8 => ?_)
    exact (yb_Pa_parts_15 hS hG R_u8)
theorem yg_Pa_parts {N : Nat} {o : Option Nat} {S : SG_Pa_matched} {S' : SF_Pa_matched} (hS : SC_Pa_matched o S S') : ∀ n, (∀ (c : Nat → Nat) (m : MS) (u : CS) (v1 : Int32) (v2 : Int32) (v3 : Int32) (v4 : Int32), RP o c m u → RF 0 o VE c u ((gg_Pa_parts N S n) u 33 v1 v2 v3 v4) ((hg_Pa_parts N S' n) m v1 v2 v3 v4)) := by
  intro n
  induction n with
  | zero => exact fun c m u v1 v2 v3 v4 R => rf_none
  | succ n ih => exact fun c m u v1 v2 v3 v4 R => yb_Pa_parts_21 (N := N) hS ih R
theorem ym_Pa_parts {N : Nat} {o : Option Nat} {c : Nat → Nat} {m : MS} {u : CS} {S : SG_Pa_matched} {S' : SF_Pa_matched} (hS : SC_Pa_matched o S S') (R : RP o c m u) {v1 : Int32} : RF 0 o VE c u (fm_Pa_parts N S u 33 v1) (hm_Pa_parts N S' m v1) := yb_Pa_parts_0 (N := N) hS (yg_Pa_parts (N := N) hS N) R
theorem yb_Pa_caseOf_0 {N : Nat} {o : Option Nat} {c : Nat → Nat} {m : MS} {u : CS} {S : SG_Pa_matched} {S' : SF_Pa_matched} (hS : SC_Pa_matched o S S') (R : RP o c m u) : RF 0 o VE c u (fb_Pa_caseOf_0 N S () u 33) (hb_Pa_caseOf_0 N S' () m) := by
  unfold fb_Pa_caseOf_0 hb_Pa_caseOf_0
  refine rf_bo (gx_33_5 R) ?_
  refine rf_bo (gx_33_5 R) ?_
  refine rf_w (px_33_5 R) (fun w3' w3 R_w3 => ?_)
  refine rf_ck (ox_33 R_w3) ?_
  refine rf_bT (hS.2.2.2.2.2.2.2.2.2.2.2.2.2.2.1 _ _ _ _ R_w3) (fun u4' u4 r4 R_u4 => ?_)
  refine rf_ck (ox_33 R_u4) ?_
  refine rf_bT (ym_Pa_need R_u4) (fun u5' u5 r5 R_u5 => ?_)
  refine rf_ck (ox_33 R_u5) ?_
  refine rf_bT (hS.2.2.2.2.2.2.2.1 _ _ _ _ R_u5) (fun u6' u6 r6 R_u6 => ?_)
  refine rf_ck (ox_33 R_u6) ?_
  refine rf_bT (ym_Pa_need R_u6) (fun u7' u7 r7 R_u7 => ?_)
  refine rf_bo (rx_33_1 R_u7) ?_
  refine rf_so ?_
  refine rf_ck (ox_15 R_u7) ?_
  refine rf_bx0 (ym_Tr_add R_u7) (fun u9' u9 r9 R_u9 => ?_)
  exact rf_ret R_u9 rfl
theorem ym_Pa_caseOf {N : Nat} {o : Option Nat} {c : Nat → Nat} {m : MS} {u : CS} {S : SG_Pa_matched} {S' : SF_Pa_matched} (hS : SC_Pa_matched o S S') (R : RP o c m u) : RF 0 o VE c u (fm_Pa_caseOf N S u 33) (hm_Pa_caseOf N S' m) := yb_Pa_caseOf_0 (N := N) hS R
theorem yb_Pa_body_25 {N : Nat} {o : Option Nat} {c : Nat → Nat} {m : MS} {u : CS} {S : SG_Pa_matched} {S' : SF_Pa_matched} (hS : SC_Pa_matched o S S') (R : RP o c m u) {t1 : Int32} : RF 0 o VE c u (fb_Pa_body_25 N S () u 33 33 t1) (hb_Pa_body_25 N S' () m t1) := by
  unfold fb_Pa_body_25 hb_Pa_body_25
  refine rf_ck (ox_33 R) ?_
  refine rf_bT (ym_Pa_opens R) (fun u1' u1 r1 R_u1 => ?_)
  refine rf_ck (ox_33 R_u1) ?_
  refine rf_bT (hS.2.2.2.2.2.2.2.2.2.2.2.2.2.2.2.2.2.2.1 _ _ _ _ _ R_u1) (fun u2' u2 r2 R_u2 => ?_)
  refine rf_bo (gx_33_6 R_u2) ?_
  refine rf_w (px_33_6 R_u2) (fun w4' w4 R_w4 => ?_)
  exact rf_ret R_w4 rfl
theorem yb_Pa_body_20 {N : Nat} {o : Option Nat} {c : Nat → Nat} {m : MS} {u : CS} {S : SG_Pa_matched} {S' : SF_Pa_matched} (hS : SC_Pa_matched o S S') (R : RP o c m u) : RF 0 o VE c u (fb_Pa_body_20 N S () u 33 33) (hb_Pa_body_20 N S' () m) := by
  unfold fb_Pa_body_20 hb_Pa_body_20
  exact (yb_Pa_body_25 hS R)
theorem yb_Pa_body_0 {N : Nat} {o : Option Nat} {c : Nat → Nat} {m : MS} {u : CS} {S : SG_Pa_matched} {S' : SF_Pa_matched} (hS : SC_Pa_matched o S S') (R : RP o c m u) : RF 0 o VE c u (fb_Pa_body_0 N S () u 33) (hb_Pa_body_0 N S' () m) := by
  unfold fb_Pa_body_0 hb_Pa_body_0
  refine rf_ck (ox_33 R) ?_
  refine rf_bT (ym_Pa_look R) (fun u5' u5 r5 R_u5 => ?_)
  refine rf_bx0 (ym_Pa_beginsUnit R_u5) (fun u6' u6 r6 R_u6 => ?_)
  refine rf_br ?_ ?_
  · refine rf_ck (ox_33 R_u6) ?_
    refine rf_bT (ym_Pa_look R_u6) (fun u7' u7 r7 R_u7 => ?_)
    refine rf_br ?_ ?_
    · exact (yb_Pa_body_20 hS R_u7)
    · exact (yb_Pa_body_25 hS R_u7)
  · exact (yb_Pa_body_20 hS R_u6)
theorem ym_Pa_body {N : Nat} {o : Option Nat} {c : Nat → Nat} {m : MS} {u : CS} {S : SG_Pa_matched} {S' : SF_Pa_matched} (hS : SC_Pa_matched o S S') (R : RP o c m u) : RF 0 o VE c u (fm_Pa_body N S u 33) (hm_Pa_body N S' m) := yb_Pa_body_0 (N := N) hS R
theorem yb_Pa_atomOrCall_0 {N : Nat} {o : Option Nat} {c : Nat → Nat} {m : MS} {u : CS} {S : SG_Pa_matched} {S' : SF_Pa_matched} (hS : SC_Pa_matched o S S') (R : RP o c m u) : RF 0 o VE c u (fb_Pa_atomOrCall_0 N S () u 33) (hb_Pa_atomOrCall_0 N S' () m) := by
  unfold fb_Pa_atomOrCall_0 hb_Pa_atomOrCall_0
  refine rf_bo (gx_33_5 R) ?_
  refine rf_ck (ox_33 R) ?_
  refine rf_bx0 (ym_Pa_leaf R) (fun u2' u2 r2 R_u2 => ?_)
  refine rf_ck (ox_33 R_u2) ?_
  refine rf_bT (ym_Pa_look R_u2) (fun u3' u3 r3 R_u3 => ?_)
  refine rf_br ?_ ?_
  · refine rf_bo (gx_33_5 R_u3) ?_
    refine rf_w (px_33_5 R_u3) (fun w5' w5 R_w5 => ?_)
    refine rf_ck (ox_33 R_w5) ?_
    refine rf_bT (hS.2.2.2.2.2.2.2.2.2.2.2.2.2.2.2.2.2.2.2 _ _ _ _ _ _ R_w5) (fun u6' u6 r6 R_u6 => ?_)
    refine rf_bo (rx_33_1 R_u6) ?_
    refine rf_bo (rx_33_0 R_u6) ?_
    refine rf_so ?_
    refine rf_bo (rx_4_3 R_u6) ?_
    refine rf_so ?_
    refine rf_ai (ax_7 R_u6) ?_
    refine rf_bo (rx_33_1 R_u6) ?_
    refine rf_so ?_
    refine rf_ck (ox_15 R_u6) ?_
    refine rf_bx0 (ym_Tr_length R_u6) (fun u14' u14 r14 R_u14 => ?_)
    refine rf_so ?_
    refine rf_ck (ox_15 R_u14) ?_
    refine rf_bx0 (ym_Tr_add R_u14) (fun u16' u16 r16 R_u16 => ?_)
    exact rf_ret R_u16 rfl
  · exact rf_ret R_u3 rfl
theorem ym_Pa_atomOrCall {N : Nat} {o : Option Nat} {c : Nat → Nat} {m : MS} {u : CS} {S : SG_Pa_matched} {S' : SF_Pa_matched} (hS : SC_Pa_matched o S S') (R : RP o c m u) : RF 0 o VE c u (fm_Pa_atomOrCall N S u 33) (hm_Pa_atomOrCall N S' m) := yb_Pa_atomOrCall_0 (N := N) hS R
theorem yb_Pa_primary_0 {N : Nat} {o : Option Nat} {c : Nat → Nat} {m : MS} {u : CS} {S : SG_Pa_matched} {S' : SF_Pa_matched} (hS : SC_Pa_matched o S S') (R : RP o c m u) : RF 0 o VE c u (fb_Pa_primary_0 N S () u 33) (hb_Pa_primary_0 N S' () m) := by
  unfold fb_Pa_primary_0 hb_Pa_primary_0
  refine rf_bo (gx_33_5 R) ?_
  refine rf_ck (ox_33 R) ?_
  refine rf_bT (ym_Pa_look R) (fun u2' u2 r2 R_u2 => ?_)
  refine rf_br ?_ ?_
  · refine rf_ck (ox_33 R_u2) ?_
    refine rf_bx0 (ym_Pa_leaf R_u2) (fun u3' u3 r3 R_u3 => ?_)
    exact rf_ret R_u3 rfl
  · refine rf_br ?_ ?_
    · refine rf_ck (ox_33 R_u2) ?_
      refine rf_bT (hS.2.2.2.2.2.2.2.2.2.2.1 _ _ _ R_u2) (fun u4' u4 r4 R_u4 => ?_)
      exact rf_ret R_u4 rfl
    · refine rf_br ?_ ?_
      · refine rf_ck (ox_33 R_u2) ?_
        refine rf_bx0 (ym_Pa_leaf R_u2) (fun u5' u5 r5 R_u5 => ?_)
        exact rf_ret R_u5 rfl
      · refine rf_br ?_ ?_
        · refine rf_ck (ox_33 R_u2) ?_
          refine rf_bx0 (ym_Pa_leaf R_u2) (fun u6' u6 r6 R_u6 => ?_)
          exact rf_ret R_u6 rfl
        · refine rf_br ?_ ?_
          · refine rf_ck (ox_33 R_u2) ?_
            refine rf_bT (ym_Pa_refuse R_u2) (fun u7' u7 r7 R_u7 => ?_)
            exact rf_ret R_u7 rfl
          · refine rf_br ?_ ?_
            · refine rf_ck (ox_33 R_u2) ?_
              refine rf_bT (ym_Pa_refuse R_u2) (fun u8' u8 r8 R_u8 => ?_)
              exact rf_ret R_u8 rfl
            · refine rf_br ?_ ?_
              · refine rf_bo (gx_33_5 R_u2) ?_
                refine rf_w (px_33_5 R_u2) (fun w10' w10 R_w10 => ?_)
                refine rf_ck (ox_33 R_w10) ?_
                refine rf_bT (hS.2.2.2.2.2.2.2.2.2.1 _ _ _ R_w10) (fun u11' u11 r11 R_u11 => ?_)
                refine rf_ck (ox_33 R_u11) ?_
                refine rf_bT (ym_Pa_need R_u11) (fun u12' u12 r12 R_u12 => ?_)
                refine rf_bo (rx_33_1 R_u12) ?_
                refine rf_so ?_
                refine rf_ck (ox_15 R_u12) ?_
                refine rf_bx0 (ym_Tr_add R_u12) (fun u14' u14 r14 R_u14 => ?_)
                exact rf_ret R_u14 rfl
              · refine rf_br ?_ ?_
                · refine rf_ck (ox_33 R_u2) ?_
                  refine rf_bT (hS.2.2.2.2.2.2.2.2.1 _ _ _ R_u2) (fun u16' u16 r16 R_u16 => ?_)
                  exact rf_ret R_u16 rfl
                · refine rf_br ?_ ?_
                  · refine rf_ck (ox_33 R_u2) ?_
                    refine rf_bT (ym_Pa_refuse R_u2) (fun u17' u17 r17 R_u17 => ?_)
                    exact rf_ret R_u17 rfl
                  · refine rf_br ?_ ?_
                    · refine rf_ck (ox_33 R_u2) ?_
                      refine rf_bT (ym_Pa_refuse R_u2) (fun u18' u18 r18 R_u18 => ?_)
                      exact rf_ret R_u18 rfl
                    · refine rf_br ?_ ?_
                      · refine rf_ck (ox_33 R_u2) ?_
                        refine rf_bT (ym_Pa_refuse R_u2) (fun u19' u19 r19 R_u19 => ?_)
                        exact rf_ret R_u19 rfl
                      · refine rf_br ?_ ?_
                        · refine rf_ck (ox_33 R_u2) ?_
                          refine rf_bT (hS.2.2.1 _ _ _ R_u2) (fun u20' u20 r20 R_u20 => ?_)
                          exact rf_ret R_u20 rfl
                        · refine rf_br ?_ ?_
                          · refine rf_bo (gx_33_5 R_u2) ?_
                            refine rf_w (px_33_5 R_u2) (fun w22' w22 R_w22 => ?_)
                            refine rf_ck (ox_33 R_w22) ?_
                            refine rf_bT (hS.2.2.2.2.2.2.2.1 _ _ _ _ R_w22) (fun u23' u23 r23 R_u23 => ?_)
                            refine rf_ck (ox_33 R_u23) ?_
                            refine rf_bT (ym_Pa_need R_u23) (fun u24' u24 r24 R_u24 => ?_)
                            refine rf_bo (rx_33_1 R_u24) ?_
                            refine rf_so ?_
                            refine rf_ck (ox_15 R_u24) ?_
                            refine rf_bx0 (ym_Tr_add R_u24) (fun u26' u26 r26 R_u26 => ?_)
                            exact rf_ret R_u26 rfl
                          · refine rf_br ?_ ?_
                            · refine rf_ck (ox_33 R_u2) ?_
                              refine rf_bT (ym_Pa_refuse R_u2) (fun u28' u28 r28 R_u28 => ?_)
                              exact rf_ret R_u28 rfl
                            · refine rf_br ?_ ?_
                              · refine rf_ck (ox_33 R_u2) ?_
                                refine rf_bT (ym_Pa_refuse R_u2) (fun u29' u29 r29 R_u29 => ?_)
                                exact rf_ret R_u29 rfl
                              · refine rf_br ?_ ?_
                                · refine rf_ck (ox_33 R_u2) ?_
                                  refine rf_bT (ym_Pa_refuse R_u2) (fun u30' u30 r30 R_u30 => ?_)
                                  exact rf_ret R_u30 rfl
                                · refine rf_br ?_ ?_
                                  · refine rf_ck (ox_33 R_u2) ?_
                                    refine rf_bT (hS.2.2.2.1 _ _ _ R_u2) (fun u31' u31 r31 R_u31 => ?_)
                                    exact rf_ret R_u31 rfl
                                  · refine rf_br ?_ ?_
                                    · refine rf_ck (ox_33 R_u2) ?_
                                      refine rf_bT (ym_Pa_refuse R_u2) (fun u32' u32 r32 R_u32 => ?_)
                                      exact rf_ret R_u32 rfl
                                    · refine rf_br ?_ ?_
                                      · refine rf_ck (ox_33 R_u2) ?_
                                        refine rf_bT (ym_Pa_refuse R_u2) (fun u33' u33 r33 R_u33 => ?_)
                                        exact rf_ret R_u33 rfl
                                      · refine rf_br ?_ ?_
                                        · refine rf_bo (gx_33_5 R_u2) ?_
                                          refine rf_w (px_33_5 R_u2) (fun w35' w35 R_w35 => ?_)
                                          refine rf_ck (ox_33 R_w35) ?_
                                          refine rf_bT (hS.2.2.2.2.2.2.2.2.2.2.2.2.2.2.1 _ _ _ _ R_w35) (fun u36' u36 r36 R_u36 => ?_)
                                          refine rf_ck (ox_33 R_u36) ?_
                                          refine rf_bT (ym_Pa_need R_u36) (fun u37' u37 r37 R_u37 => ?_)
                                          refine rf_bo (rx_33_1 R_u37) ?_
                                          refine rf_so ?_
                                          refine rf_ck (ox_15 R_u37) ?_
                                          refine rf_bx0 (ym_Tr_add R_u37) (fun u39' u39 r39 R_u39 => ?_)
                                          exact rf_ret R_u39 rfl
                                        · refine rf_br ?_ ?_
                                          · refine rf_ck (ox_33 R_u2) ?_
                                            refine rf_bT (ym_Pa_refuse R_u2) (fun u41' u41 r41 R_u41 => ?_)
                                            exact rf_ret R_u41 rfl
                                          · refine rf_br ?_ ?_
                                            · refine rf_ck (ox_33 R_u2) ?_
                                              refine rf_bT (hS.2.2.2.2.2.2.2.2.2.2.2.2.2.2.2.2.1 _ _ _ _ R_u2) (fun u42' u42 r42 R_u42 => ?_)
                                              exact rf_ret R_u42 rfl
                                            · refine rf_br ?_ ?_
                                              · refine rf_ck (ox_33 R_u2) ?_
                                                refine rf_bT (ym_Pa_refuse R_u2) (fun u43' u43 r43 R_u43 => ?_)
                                                exact rf_ret R_u43 rfl
                                              · refine rf_br ?_ ?_
                                                · refine rf_ck (ox_33 R_u2) ?_
                                                  refine rf_bT (hS.2.2.2.2.2.2.2.2.2.2.2.2.2.2.2.1 _ _ _ _ R_u2) (fun u44' u44 r44 R_u44 => ?_)
                                                  exact rf_ret R_u44 rfl
                                                · refine rf_ck (ox_33 R_u2) ?_
                                                  refine rf_bT (ym_Pa_refuse R_u2) (fun u45' u45 r45 R_u45 => ?_)
                                                  exact rf_ret R_u45 rfl
theorem ym_Pa_primary {N : Nat} {o : Option Nat} {c : Nat → Nat} {m : MS} {u : CS} {S : SG_Pa_matched} {S' : SF_Pa_matched} (hS : SC_Pa_matched o S S') (R : RP o c m u) : RF 0 o VE c u (fm_Pa_primary N S u 33) (hm_Pa_primary N S' m) := yb_Pa_primary_0 (N := N) hS R
end
section
set_option maxRecDepth 100000
theorem yb_Pa_unit_69 {N : Nat} {o : Option Nat} {c : Nat → Nat} {m : MS} {u : CS} {S : SG_Pa_matched} {S' : SF_Pa_matched} (hS : SC_Pa_matched o S S') (R : RP o c m u) {v2 : Int32} {t1 : Int32} : RF 0 o VE c u (fb_Pa_unit_69 N S () u 33 v2 (some 15) t1) (hb_Pa_unit_69 N S' () m v2 t1) := by
  unfold fb_Pa_unit_69 hb_Pa_unit_69
  refine rf_ck (ox_33 R) ?_
  refine rf_bT (hS.2.2.2.2.2.2.2.2.2.2.2.2.1 _ _ _ R) (fun u1' u1 r1 R_u1 => ?_)
  refine rf_so ?_
  refine rf_ck (ox_15 R_u1) ?_
  refine rf_bx0 (ym_Tr_add R_u1) (fun u2' u2 r2 R_u2 => ?_)
  refine rf_bo (gx_33_6 R_u2) ?_
  refine rf_w (px_33_6 R_u2) (fun w5' w5 R_w5 => ?_)
  exact rf_ret R_w5 rfl
theorem yb_Pa_unit_26 {N : Nat} {o : Option Nat} {c : Nat → Nat} {m : MS} {u : CS} {S : SG_Pa_matched} {S' : SF_Pa_matched} (hS : SC_Pa_matched o S S') (R : RP o c m u) {v1 : Int32} : RF 0 o VE c u (fb_Pa_unit_26 N S () u 33 v1) (hb_Pa_unit_26 N S' () m v1) := by
  unfold fb_Pa_unit_26 hb_Pa_unit_26
  refine rf_bo (gx_33_5 R) ?_
  refine rf_bo (gx_33_5 R) ?_
  refine rf_w (px_33_5 R) (fun w8' w8 R_w8 => ?_)
  refine rf_ck (ox_33 R_w8) ?_
  refine rf_bT (ym_Pa_look R_w8) (fun u9' u9 r9 R_u9 => ?_)
  refine rf_bx0 (ym_Pa_beginsUnit R_u9) (fun u10' u10 r10 R_u10 => ?_)
  refine rf_ck (ox_33 R_u10) ?_
  refine rf_bT (ym_Pa_opens R_u10) (fun u11' u11 r11 R_u11 => ?_)
  refine rf_bo (rx_33_1 R_u11) ?_
  refine rf_br ?_ ?_
  · exact (yb_Pa_unit_69 hS R_u11)
  · exact (yb_Pa_unit_69 hS R_u11)
theorem yb_Pa_unit_0 {N : Nat} {o : Option Nat} {c : Nat → Nat} {m : MS} {u : CS} {S : SG_Pa_matched} {S' : SF_Pa_matched} (hS : SC_Pa_matched o S S') (R : RP o c m u) : RF 0 o VE c u (fb_Pa_unit_0 N S () u 33) (hb_Pa_unit_0 N S' () m) := by
  unfold fb_Pa_unit_0 hb_Pa_unit_0
  refine rf_ck (ox_33 R) ?_
  refine rf_bT (ym_Pa_look R) (fun u13' u13 r13 R_u13 => ?_)
  refine rf_br ?_ ?_
  · exact (yb_Pa_unit_26 hS R_u13)
  · refine rf_br ?_ ?_
    · exact (yb_Pa_unit_26 hS R_u13)
    · refine rf_ck (ox_33 R_u13) ?_
      refine rf_bT (hS.2.2.2.2.2.2.2.2.2.2.2.1 _ _ _ R_u13) (fun u14' u14 r14 R_u14 => ?_)
      refine rf_ck (ox_33 R_u14) ?_
      refine rf_bT (hS.2.1 _ _ _ _ R_u14) (fun u15' u15 r15 R_u15 => ?_)
      exact rf_ret R_u15 rfl
theorem ym_Pa_unit {N : Nat} {o : Option Nat} {c : Nat → Nat} {m : MS} {u : CS} {S : SG_Pa_matched} {S' : SF_Pa_matched} (hS : SC_Pa_matched o S S') (R : RP o c m u) : RF 0 o VE c u (fm_Pa_unit N S u 33) (hm_Pa_unit N S' m) := yb_Pa_unit_0 (N := N) hS R
theorem yb_Pa_signed_155 {N : Nat} {o : Option Nat} {c : Nat → Nat} {m : MS} {u : CS} {S : SG_Pa_matched} {S' : SF_Pa_matched} {G : (CS → Nat → Int32 → Int32 → Int32 → Int32 → Int32 → Int32 → Option (CS × (Int32 ⊕ Nat)))} {G' : (MS → Int32 → Int32 → Int32 → Int32 → Int32 → Int32 → Option (MS × (Int32 ⊕ Nat)))} (hS : SC_Pa_matched o S S') (hG : ∀ (c : Nat → Nat) (m : MS) (u : CS) (v1 : Int32) (v2 : Int32) (v3 : Int32) (v4 : Int32) (v5 : Int32) (v6 : Int32), RP o c m u → RF 0 o VE c u (G u 33 v1 v2 v3 v4 v5 v6) (G' m v1 v2 v3 v4 v5 v6)) (R : RP o c m u) {v1 : Int32} {v2 : Int32} {v3 : Int32} {v4 : Int32} {v5 : Int32} : RF 0 o VE c u (fb_Pa_signed_155 N S G u 33 v1 v2 v3 v4 v5) (hb_Pa_signed_155 N S' G' m v1 v2 v3 v4 v5) := by
  unfold fb_Pa_signed_155 hb_Pa_signed_155
  refine rf_br ?_ ?_
  · refine rf_ck (ox_33 R) ?_
    refine rf_bT (ym_Pa_closeSigns R) (fun u1' u1 r1 R_u1 => ?_)
    refine rf_bo (rx_33_1 R_u1) ?_
    refine rf_so ?_
    refine rf_ck (ox_15 R_u1) ?_
    refine rf_bx0 (ym_Tr_add R_u1) (fun u3' u3 r3 R_u3 => ?_)
    exact rf_ret R_u3 rfl
  · exact rf_ret R rfl
theorem yb_Pa_signed_127 {N : Nat} {o : Option Nat} {c : Nat → Nat} {m : MS} {u : CS} {S : SG_Pa_matched} {S' : SF_Pa_matched} {G : (CS → Nat → Int32 → Int32 → Int32 → Int32 → Int32 → Int32 → Option (CS × (Int32 ⊕ Nat)))} {G' : (MS → Int32 → Int32 → Int32 → Int32 → Int32 → Int32 → Option (MS × (Int32 ⊕ Nat)))} (hS : SC_Pa_matched o S S') (hG : ∀ (c : Nat → Nat) (m : MS) (u : CS) (v1 : Int32) (v2 : Int32) (v3 : Int32) (v4 : Int32) (v5 : Int32) (v6 : Int32), RP o c m u → RF 0 o VE c u (G u 33 v1 v2 v3 v4 v5 v6) (G' m v1 v2 v3 v4 v5 v6)) (R : RP o c m u) {v1 : Int32} {v2 : Int32} {v3 : Int32} {v4 : Int32} {v5 : Int32} {v6 : Int32} : RF 0 o VE c u (fb_Pa_signed_127 N S G u 33 v1 v2 v3 v4 v5 v6) (hb_Pa_signed_127 N S' G' m v1 v2 v3 v4 v5 v6) := by
  unfold fb_Pa_signed_127 hb_Pa_signed_127
  refine rf_bo (gx_33_5 R) ?_
  refine rf_w (px_33_5 R) (fun w6' w6 R_w6 => ?_)
  refine rf_ck (ox_33 R_w6) ?_
  refine rf_bT (hS.2.2.2.2.2.2.2.2.2.2.2.2.1 _ _ _ R_w6) (fun u7' u7 r7 R_u7 => ?_)
  refine rf_ck (ox_33 R_u7) ?_
  refine rf_bx0 (ym_Pa_chain R_u7) (fun u8' u8 r8 R_u8 => ?_)
  exact (hG _ _ _ _ _ _ _ _ _ R_u8)
theorem yb_Pa_signed_102 {N : Nat} {o : Option Nat} {c : Nat → Nat} {m : MS} {u : CS} {S : SG_Pa_matched} {S' : SF_Pa_matched} {G : (CS → Nat → Int32 → Int32 → Int32 → Int32 → Int32 → Int32 → Option (CS × (Int32 ⊕ Nat)))} {G' : (MS → Int32 → Int32 → Int32 → Int32 → Int32 → Int32 → Option (MS × (Int32 ⊕ Nat)))} (hS : SC_Pa_matched o S S') (hG : ∀ (c : Nat → Nat) (m : MS) (u : CS) (v1 : Int32) (v2 : Int32) (v3 : Int32) (v4 : Int32) (v5 : Int32) (v6 : Int32), RP o c m u → RF 0 o VE c u (G u 33 v1 v2 v3 v4 v5 v6) (G' m v1 v2 v3 v4 v5 v6)) (R : RP o c m u) {v1 : Int32} {v2 : Int32} {v3 : Int32} {v4 : Int32} {v5 : Int32} {v6 : Int32} {v7 : Int32} : RF 0 o VE c u (fb_Pa_signed_102 N S G u 33 v1 v2 v3 v4 v5 v6 v7) (hb_Pa_signed_102 N S' G' m v1 v2 v3 v4 v5 v6 v7) := by
  unfold fb_Pa_signed_102 hb_Pa_signed_102
  refine rf_bo (rx_33_1 R) ?_
  refine rf_bo (gx_33_5 R) ?_
  refine rf_so ?_
  refine rf_ck (ox_15 R) ?_
  refine rf_bx0 (ym_Tr_add R) (fun u11' u11 r11 R_u11 => ?_)
  refine rf_ck (ox_33 R_u11) ?_
  refine rf_bx0 (ym_Pa_chain R_u11) (fun u13' u13 r13 R_u13 => ?_)
  exact (yb_Pa_signed_127 hS hG R_u13)
theorem yb_Pa_signed_24 {N : Nat} {o : Option Nat} {c : Nat → Nat} {m : MS} {u : CS} {S : SG_Pa_matched} {S' : SF_Pa_matched} {G : (CS → Nat → Int32 → Int32 → Int32 → Int32 → Int32 → Int32 → Option (CS × (Int32 ⊕ Nat)))} {G' : (MS → Int32 → Int32 → Int32 → Int32 → Int32 → Int32 → Option (MS × (Int32 ⊕ Nat)))} (hS : SC_Pa_matched o S S') (hG : ∀ (c : Nat → Nat) (m : MS) (u : CS) (v1 : Int32) (v2 : Int32) (v3 : Int32) (v4 : Int32) (v5 : Int32) (v6 : Int32), RP o c m u → RF 0 o VE c u (G u 33 v1 v2 v3 v4 v5 v6) (G' m v1 v2 v3 v4 v5 v6)) (R : RP o c m u) {v1 : Int32} {v2 : Int32} {v3 : Int32} {v4 : Int32} {v5 : Int32} {v6 : Int32} : RF 0 o VE c u (fb_Pa_signed_24 N S G u 33 v1 v2 v3 v4 v5 v6) (hb_Pa_signed_24 N S' G' m v1 v2 v3 v4 v5 v6) := by
  unfold fb_Pa_signed_24 hb_Pa_signed_24
  refine rf_br ?_ ?_
  · exact (yb_Pa_signed_155 hS hG R)
  · refine rf_ck (ox_33 R) ?_
    refine rf_bT (ym_Pa_look R) (fun u14' u14 r14 R_u14 => ?_)
    refine rf_bx0 (ym_Pa_rank R_u14) (fun u15' u15 r15 R_u15 => ?_)
    refine rf_br ?_ ?_
    · exact (yb_Pa_signed_155 hS hG R_u15)
    · refine rf_ck (ox_33 R_u15) ?_
      refine rf_bT (ym_Pa_look R_u15) (fun u16' u16 r16 R_u16 => ?_)
      refine rf_bx0 (ym_Pa_rank R_u16) (fun u17' u17 r17 R_u17 => ?_)
      refine rf_ck (ox_33 R_u17) ?_
      refine rf_bT (ym_Pa_closeSigns R_u17) (fun u18' u18 r18 R_u18 => ?_)
      refine rf_bo (rx_33_3 R_u18) ?_
      refine rf_bo (gx_33_4 R_u18) ?_
      refine rf_bo (gx_33_5 R_u18) ?_
      refine rf_so ?_
      refine rf_wk (sx_34 R_u18) (fun w23' w23 R_w23 => ?_)
      refine rf_bo (gx_33_4 R_w23) ?_
      refine rf_w (px_33_4 R_w23) (fun w25' w25 R_w25 => ?_)
      refine rf_br ?_ ?_
      · exact (yb_Pa_signed_102 hS hG R_w25)
      · refine rf_br ?_ ?_
        · exact (yb_Pa_signed_102 hS hG R_w25)
        · exact (yb_Pa_signed_127 hS hG R_w25)
theorem yb_Pa_signed_0 {N : Nat} {o : Option Nat} {c : Nat → Nat} {m : MS} {u : CS} {S : SG_Pa_matched} {S' : SF_Pa_matched} {G : (CS → Nat → Int32 → Int32 → Int32 → Int32 → Int32 → Int32 → Option (CS × (Int32 ⊕ Nat)))} {G' : (MS → Int32 → Int32 → Int32 → Int32 → Int32 → Int32 → Option (MS × (Int32 ⊕ Nat)))} (hS : SC_Pa_matched o S S') (hG : ∀ (c : Nat → Nat) (m : MS) (u : CS) (v1 : Int32) (v2 : Int32) (v3 : Int32) (v4 : Int32) (v5 : Int32) (v6 : Int32), RP o c m u → RF 0 o VE c u (G u 33 v1 v2 v3 v4 v5 v6) (G' m v1 v2 v3 v4 v5 v6)) (R : RP o c m u) : RF 0 o VE c u (fb_Pa_signed_0 N S G u 33) (hb_Pa_signed_0 N S' G' m) := by
  unfold fb_Pa_signed_0 hb_Pa_signed_0
  refine rf_bo (gx_33_5 R) ?_
  refine rf_bo (gx_33_4 R) ?_
  refine rf_ck (ox_33 R) ?_
  refine rf_bT (hS.2.2.2.2.2.2.2.2.2.2.2.2.1 _ _ _ R) (fun u28' u28 r28 R_u28 => ?_)
  exact (hG _ _ _ _ _ _ _ _ _ R_u28)
theorem yg_Pa_signed {N : Nat} {o : Option Nat} {S : SG_Pa_matched} {S' : SF_Pa_matched} (hS : SC_Pa_matched o S S') : ∀ n, (∀ (c : Nat → Nat) (m : MS) (u : CS) (v1 : Int32) (v2 : Int32) (v3 : Int32) (v4 : Int32) (v5 : Int32) (v6 : Int32), RP o c m u → RF 0 o VE c u ((gg_Pa_signed N S n) u 33 v1 v2 v3 v4 v5 v6) ((hg_Pa_signed N S' n) m v1 v2 v3 v4 v5 v6)) := by
  intro n
  induction n with
  | zero => exact fun c m u v1 v2 v3 v4 v5 v6 R => rf_none
  | succ n ih => exact fun c m u v1 v2 v3 v4 v5 v6 R => yb_Pa_signed_24 (N := N) hS ih R
theorem ym_Pa_signed {N : Nat} {o : Option Nat} {c : Nat → Nat} {m : MS} {u : CS} {S : SG_Pa_matched} {S' : SF_Pa_matched} (hS : SC_Pa_matched o S S') (R : RP o c m u) : RF 0 o VE c u (fm_Pa_signed N S u 33) (hm_Pa_signed N S' m) := yb_Pa_signed_0 (N := N) hS (yg_Pa_signed (N := N) hS N) R
theorem yb_Pa_expression_84 {N : Nat} {o : Option Nat} {c : Nat → Nat} {m : MS} {u : CS} {S : SG_Pa_matched} {S' : SF_Pa_matched} (hS : SC_Pa_matched o S S') (R : RP o c m u) {v4 : Int32} : RF 0 o VE c u (fb_Pa_expression_84 N S () u 33 v4) (hb_Pa_expression_84 N S' () m v4) := by
  unfold fb_Pa_expression_84 hb_Pa_expression_84
  refine rf_bo (gx_33_6 R) ?_
  refine rf_w (px_33_6 R) (fun w2' w2 R_w2 => ?_)
  exact rf_ret R_w2 rfl
theorem yb_Pa_expression_28 {N : Nat} {o : Option Nat} {c : Nat → Nat} {m : MS} {u : CS} {S : SG_Pa_matched} {S' : SF_Pa_matched} (hS : SC_Pa_matched o S S') (R : RP o c m u) {v2 : Int32} {t1 : Int32} : RF 0 o VE c u (fb_Pa_expression_28 N S () u 33 v2 33 t1) (hb_Pa_expression_28 N S' () m v2 t1) := by
  unfold fb_Pa_expression_28 hb_Pa_expression_28
  refine rf_ck (ox_33 R) ?_
  refine rf_bT (ym_Pa_opens R) (fun u3' u3 r3 R_u3 => ?_)
  refine rf_bo (gx_33_5 R_u3) ?_
  refine rf_br ?_ ?_
  · refine rf_bo (gx_33_5 R_u3) ?_
    refine rf_w (px_33_5 R_u3) (fun w8' w8 R_w8 => ?_)
    refine rf_bo (rx_33_1 R_w8) ?_
    refine rf_ck (ox_33 R_w8) ?_
    refine rf_bT (hS.2.2.2.2.2.2.2.2.2.2.2.2.2.2.1 _ _ _ _ R_w8) (fun u10' u10 r10 R_u10 => ?_)
    refine rf_so ?_
    refine rf_ck (ox_15 R_u10) ?_
    refine rf_bx0 (ym_Tr_add R_u10) (fun u11' u11 r11 R_u11 => ?_)
    exact (yb_Pa_expression_84 hS R_u11)
  · refine rf_ck (ox_33 R_u3) ?_
    refine rf_bT (hS.2.2.2.2.2.2.2.2.2.2.2.2.2.1 _ _ _ R_u3) (fun u5' u5 r5 R_u5 => ?_)
    refine rf_ck (ox_33 R_u5) ?_
    refine rf_bT (hS.1 _ _ _ _ R_u5) (fun u6' u6 r6 R_u6 => ?_)
    exact (yb_Pa_expression_84 hS R_u6)
theorem yb_Pa_expression_27 {N : Nat} {o : Option Nat} {c : Nat → Nat} {m : MS} {u : CS} {S : SG_Pa_matched} {S' : SF_Pa_matched} (hS : SC_Pa_matched o S S') (R : RP o c m u) {v2 : Int32} : RF 0 o VE c u (fb_Pa_expression_27 N S () u 33 v2 33) (hb_Pa_expression_27 N S' () m v2) := by
  unfold fb_Pa_expression_27 hb_Pa_expression_27
  exact (yb_Pa_expression_28 hS R)
theorem yb_Pa_expression_23 {N : Nat} {o : Option Nat} {c : Nat → Nat} {m : MS} {u : CS} {S : SG_Pa_matched} {S' : SF_Pa_matched} (hS : SC_Pa_matched o S S') (R : RP o c m u) {v2 : Int32} : RF 0 o VE c u (fb_Pa_expression_23 N S () u 33 v2 33) (hb_Pa_expression_23 N S' () m v2) := by
  unfold fb_Pa_expression_23 hb_Pa_expression_23
  exact (yb_Pa_expression_28 hS R)
theorem yb_Pa_expression_0 {N : Nat} {o : Option Nat} {c : Nat → Nat} {m : MS} {u : CS} {S : SG_Pa_matched} {S' : SF_Pa_matched} (hS : SC_Pa_matched o S S') (R : RP o c m u) {v1 : Int32} : RF 0 o VE c u (fb_Pa_expression_0 N S () u 33 v1) (hb_Pa_expression_0 N S' () m v1) := by
  unfold fb_Pa_expression_0 hb_Pa_expression_0
  refine rf_ck (ox_33 R) ?_
  refine rf_bT (ym_Pa_look R) (fun u13' u13 r13 R_u13 => ?_)
  refine rf_bx0 (ym_Pa_beginsUnit R_u13) (fun u14' u14 r14 R_u14 => ?_)
  refine rf_br ?_ ?_
  · refine rf_br ?_ ?_
    · exact (yb_Pa_expression_27 hS R_u14)
    · refine rf_br ?_ ?_
      · exact (yb_Pa_expression_23 hS R_u14)
      · exact (yb_Pa_expression_27 hS R_u14)
  · exact (yb_Pa_expression_23 hS R_u14)
theorem ym_Pa_expression {N : Nat} {o : Option Nat} {c : Nat → Nat} {m : MS} {u : CS} {S : SG_Pa_matched} {S' : SF_Pa_matched} (hS : SC_Pa_matched o S S') (R : RP o c m u) {v1 : Int32} : RF 0 o VE c u (fm_Pa_expression N S u 33 v1) (hm_Pa_expression N S' m v1) := yb_Pa_expression_0 (N := N) hS R
theorem yb_Pa_list_80 {N : Nat} {o : Option Nat} {c : Nat → Nat} {m : MS} {u : CS} {S : SG_Pa_matched} {S' : SF_Pa_matched} (hS : SC_Pa_matched o S S') (R : RP o c m u) {v2 : Int32} {v3 : Int32} {v4 : Int32} : RF 0 o VE c u (fb_Pa_list_80 N S () u 33 v2 v3 v4) (hb_Pa_list_80 N S' () m v2 v3 v4) := by
  unfold fb_Pa_list_80 hb_Pa_list_80
  refine rf_ck (ox_33 R) ?_
  refine rf_bT (ym_Pa_need R) (fun u1' u1 r1 R_u1 => ?_)
  refine rf_bo (rx_33_1 R_u1) ?_
  refine rf_bo (rx_33_1 R_u1) ?_
  refine rf_so ?_
  refine rf_ck (ox_15 R_u1) ?_
  refine rf_bx0 (ym_Tr_length R_u1) (fun u4' u4 r4 R_u4 => ?_)
  refine rf_so ?_
  refine rf_ck (ox_15 R_u4) ?_
  refine rf_bx0 (ym_Tr_add R_u4) (fun u6' u6 r6 R_u6 => ?_)
  exact rf_ret R_u6 rfl
theorem yb_Pa_list_78 {N : Nat} {o : Option Nat} {c : Nat → Nat} {m : MS} {u : CS} {S : SG_Pa_matched} {S' : SF_Pa_matched} (hS : SC_Pa_matched o S S') (R : RP o c m u) {v2 : Int32} {v3 : Int32} {t0 : Int32} : RF 0 o VE c u (fb_Pa_list_78 N S () u 33 v2 v3 t0) (hb_Pa_list_78 N S' () m v2 v3 t0) := by
  unfold fb_Pa_list_78 hb_Pa_list_78
  exact (yb_Pa_list_80 hS R)
theorem yb_Pa_list_35 {N : Nat} {o : Option Nat} {c : Nat → Nat} {m : MS} {u : CS} {S : SG_Pa_matched} {S' : SF_Pa_matched} (hS : SC_Pa_matched o S S') (R : RP o c m u) {v1 : Int32} {v2 : Int32} {t0 : Int32} : RF 0 o VE c u (fb_Pa_list_35 N S () u 33 v1 v2 t0) (hb_Pa_list_35 N S' () m v1 v2 t0) := by
  unfold fb_Pa_list_35 hb_Pa_list_35
  refine rf_br ?_ ?_
  · exact (yb_Pa_list_80 hS R)
  · refine rf_ck (ox_33 R) ?_
    refine rf_bT (ym_Pa_look R) (fun u8' u8 r8 R_u8 => ?_)
    refine rf_br ?_ ?_
    · refine rf_bo (gx_33_5 R_u8) ?_
      refine rf_w (px_33_5 R_u8) (fun w10' w10 R_w10 => ?_)
      refine rf_br ?_ ?_
      · refine rf_ck (ox_33 R_w10) ?_
        refine rf_bT (hS.2.2.2.2.2.2.2.2.2.2.2.2.2.2.1 _ _ _ _ R_w10) (fun u11' u11 r11 R_u11 => ?_)
        exact (yb_Pa_list_78 hS R_u11)
      · refine rf_ck (ox_33 R_w10) ?_
        refine rf_bT (hS.2.2.2.2.2.2.2.2.2.2.2.2.2.2.2.2.2.1 _ _ _ R_w10) (fun u12' u12 r12 R_u12 => ?_)
        exact (yb_Pa_list_78 hS R_u12)
    · exact (yb_Pa_list_80 hS R_u8)
theorem yb_Pa_list_0 {N : Nat} {o : Option Nat} {c : Nat → Nat} {m : MS} {u : CS} {S : SG_Pa_matched} {S' : SF_Pa_matched} (hS : SC_Pa_matched o S S') (R : RP o c m u) {v1 : Int32} : RF 0 o VE c u (fb_Pa_list_0 N S () u 33 v1) (hb_Pa_list_0 N S' () m v1) := by
  unfold fb_Pa_list_0 hb_Pa_list_0
  refine rf_bo (gx_33_5 R) ?_
  refine rf_bo (gx_33_5 R) ?_
  refine rf_w (px_33_5 R) (fun w15' w15 R_w15 => ?_)
  refine rf_ck (ox_33 R_w15) ?_
  refine rf_bT (ym_Pa_look R_w15) (fun u16' u16 r16 R_u16 => ?_)
  refine rf_br ?_ ?_
  · exact (yb_Pa_list_35 hS R_u16)
  · refine rf_ck (ox_33 R_u16) ?_
    refine rf_bT (hS.2.2.2.2.2.2.2.2.2.2.2.2.2.2.2.2.2.2.1 _ _ _ _ _ R_u16) (fun u17' u17 r17 R_u17 => ?_)
    exact (yb_Pa_list_35 hS R_u17)
theorem ym_Pa_list {N : Nat} {o : Option Nat} {c : Nat → Nat} {m : MS} {u : CS} {S : SG_Pa_matched} {S' : SF_Pa_matched} (hS : SC_Pa_matched o S S') (R : RP o c m u) {v1 : Int32} : RF 0 o VE c u (fm_Pa_list N S u 33 v1) (hm_Pa_list N S' m v1) := yb_Pa_list_0 (N := N) hS R
theorem yb_Pa_tuple_0 {N : Nat} {o : Option Nat} {c : Nat → Nat} {m : MS} {u : CS} {S : SG_Pa_matched} {S' : SF_Pa_matched} (hS : SC_Pa_matched o S S') (R : RP o c m u) {v1 : Int32} : RF 0 o VE c u (fb_Pa_tuple_0 N S () u 33 v1) (hb_Pa_tuple_0 N S' () m v1) := by
  unfold fb_Pa_tuple_0 hb_Pa_tuple_0
  refine rf_bo (gx_33_5 R) ?_
  refine rf_bo (gx_33_5 R) ?_
  refine rf_w (px_33_5 R) (fun w3' w3 R_w3 => ?_)
  refine rf_ck (ox_33 R_w3) ?_
  refine rf_bT (hS.2.2.2.2.2.2.2.2.2.2.2.2.2.2.2.2.2.2.2 _ _ _ _ _ _ R_w3) (fun u4' u4 r4 R_u4 => ?_)
  refine rf_bo (rx_33_1 R_u4) ?_
  refine rf_bo (rx_33_1 R_u4) ?_
  refine rf_so ?_
  refine rf_ck (ox_15 R_u4) ?_
  refine rf_bx0 (ym_Tr_length R_u4) (fun u7' u7 r7 R_u7 => ?_)
  refine rf_so ?_
  refine rf_ck (ox_15 R_u7) ?_
  refine rf_bx0 (ym_Tr_add R_u7) (fun u9' u9 r9 R_u9 => ?_)
  exact rf_ret R_u9 rfl
theorem ym_Pa_tuple {N : Nat} {o : Option Nat} {c : Nat → Nat} {m : MS} {u : CS} {S : SG_Pa_matched} {S' : SF_Pa_matched} (hS : SC_Pa_matched o S S') (R : RP o c m u) {v1 : Int32} : RF 0 o VE c u (fm_Pa_tuple N S u 33 v1) (hm_Pa_tuple N S' m v1) := yb_Pa_tuple_0 (N := N) hS R
theorem yb_Pa_pattern_162 {N : Nat} {o : Option Nat} {c : Nat → Nat} {m : MS} {u : CS} {S : SG_Pa_matched} {S' : SF_Pa_matched} (hS : SC_Pa_matched o S S') (R : RP o c m u) {v3 : Int32} : RF 0 o VE c u (fb_Pa_pattern_162 N S () u 33 v3) (hb_Pa_pattern_162 N S' () m v3) := by
  unfold fb_Pa_pattern_162 hb_Pa_pattern_162
  refine rf_bo (gx_33_6 R) ?_
  refine rf_w (px_33_6 R) (fun w2' w2 R_w2 => ?_)
  exact rf_ret R_w2 rfl
theorem yb_Pa_pattern_137 {N : Nat} {o : Option Nat} {c : Nat → Nat} {m : MS} {u : CS} {S : SG_Pa_matched} {S' : SF_Pa_matched} (hS : SC_Pa_matched o S S') (R : RP o c m u) {v1 : Int32} : RF 0 o VE c u (fb_Pa_pattern_137 N S () u 33 v1) (hb_Pa_pattern_137 N S' () m v1) := by
  unfold fb_Pa_pattern_137 hb_Pa_pattern_137
  refine rf_bo (rx_33_1 R) ?_
  refine rf_ck (ox_33 R) ?_
  refine rf_bx0 (ym_Pa_leaf R) (fun u4' u4 r4 R_u4 => ?_)
  refine rf_so ?_
  refine rf_ck (ox_15 R_u4) ?_
  refine rf_bx0 (ym_Tr_add R_u4) (fun u5' u5 r5 R_u5 => ?_)
  exact (yb_Pa_pattern_162 hS R_u5)
theorem yb_Pa_pattern_0 {N : Nat} {o : Option Nat} {c : Nat → Nat} {m : MS} {u : CS} {S : SG_Pa_matched} {S' : SF_Pa_matched} (hS : SC_Pa_matched o S S') (R : RP o c m u) : RF 0 o VE c u (fb_Pa_pattern_0 N S () u 33) (hb_Pa_pattern_0 N S' () m) := by
  unfold fb_Pa_pattern_0 hb_Pa_pattern_0
  refine rf_bo (gx_33_5 R) ?_
  refine rf_ck (ox_33 R) ?_
  refine rf_bT (ym_Pa_look R) (fun u8' u8 r8 R_u8 => ?_)
  refine rf_bx0 (ym_Pa_beginsPattern R_u8) (fun u9' u9 r9 R_u9 => ?_)
  refine rf_ck (ox_33 R_u9) ?_
  refine rf_bT (ym_Pa_opens R_u9) (fun u10' u10 r10 R_u10 => ?_)
  refine rf_br ?_ ?_
  · refine rf_bo (gx_33_5 R_u10) ?_
    refine rf_w (px_33_5 R_u10) (fun w12' w12 R_w12 => ?_)
    refine rf_bo (rx_33_1 R_w12) ?_
    refine rf_ck (ox_33 R_w12) ?_
    refine rf_bT (hS.2.2.2.2.2.2.2.2.2.2.2.2.2.2.2.2.2.1 _ _ _ R_w12) (fun u14' u14 r14 R_u14 => ?_)
    refine rf_so ?_
    refine rf_ck (ox_15 R_u14) ?_
    refine rf_bx0 (ym_Tr_add R_u14) (fun u15' u15 r15 R_u15 => ?_)
    refine rf_ck (ox_33 R_u15) ?_
    refine rf_bT (ym_Pa_need R_u15) (fun u17' u17 r17 R_u17 => ?_)
    exact (yb_Pa_pattern_162 hS R_u17)
  · refine rf_br ?_ ?_
    · refine rf_ck (ox_33 R_u10) ?_
      refine rf_bT (hS.2.2.2.2.2.2.2.2.2.2.2.2.2.2.2.2.1 _ _ _ _ R_u10) (fun u18' u18 r18 R_u18 => ?_)
      exact (yb_Pa_pattern_162 hS R_u18)
    · refine rf_br ?_ ?_
      · refine rf_ck (ox_33 R_u10) ?_
        refine rf_bT (hS.2.2.2.2.2.2.2.2.2.2.2.2.2.2.2.1 _ _ _ _ R_u10) (fun u19' u19 r19 R_u19 => ?_)
        exact (yb_Pa_pattern_162 hS R_u19)
      · refine rf_br ?_ ?_
        · refine rf_bo (gx_33_5 R_u10) ?_
          refine rf_w (px_33_5 R_u10) (fun w21' w21 R_w21 => ?_)
          refine rf_ck (ox_33 R_w21) ?_
          refine rf_bT (ym_Pa_look R_w21) (fun u22' u22 r22 R_u22 => ?_)
          refine rf_br ?_ ?_
          · exact (yb_Pa_pattern_137 hS R_u22)
          · refine rf_ck (ox_33 R_u22) ?_
            refine rf_bT (ym_Pa_refuse R_u22) (fun u23' u23 r23 R_u23 => ?_)
            exact (yb_Pa_pattern_137 hS R_u23)
        · refine rf_ck (ox_33 R_u10) ?_
          refine rf_bx0 (ym_Pa_leaf R_u10) (fun u24' u24 r24 R_u24 => ?_)
          exact (yb_Pa_pattern_162 hS R_u24)
theorem ym_Pa_pattern {N : Nat} {o : Option Nat} {c : Nat → Nat} {m : MS} {u : CS} {S : SG_Pa_matched} {S' : SF_Pa_matched} (hS : SC_Pa_matched o S S') (R : RP o c m u) : RF 0 o VE c u (fm_Pa_pattern N S u 33) (hm_Pa_pattern N S' m) := yb_Pa_pattern_0 (N := N) hS R
theorem yb_Pa_row_78 {N : Nat} {o : Option Nat} {c : Nat → Nat} {m : MS} {u : CS} {S : SG_Pa_matched} {S' : SF_Pa_matched} {G : (CS → Nat → Int32 → Int32 → Int32 → Int32 → Int32 → Option (CS × (Int32 ⊕ Nat)))} {G' : (MS → Int32 → Int32 → Int32 → Int32 → Int32 → Option (MS × (Int32 ⊕ Nat)))} (hS : SC_Pa_matched o S S') (hG : ∀ (c : Nat → Nat) (m : MS) (u : CS) (v1 : Int32) (v2 : Int32) (v3 : Int32) (v4 : Int32) (v5 : Int32), RP o c m u → RF 0 o VE c u (G u 33 v1 v2 v3 v4 v5) (G' m v1 v2 v3 v4 v5)) (R : RP o c m u) {v3 : Int32} : RF 0 o VE c u (fb_Pa_row_78 N S G u v3) (hb_Pa_row_78 N S' G' m v3) := by
  unfold fb_Pa_row_78 hb_Pa_row_78
  exact rf_ret R rfl
theorem yb_Pa_row_67 {N : Nat} {o : Option Nat} {c : Nat → Nat} {m : MS} {u : CS} {S : SG_Pa_matched} {S' : SF_Pa_matched} {G : (CS → Nat → Int32 → Int32 → Int32 → Int32 → Int32 → Option (CS × (Int32 ⊕ Nat)))} {G' : (MS → Int32 → Int32 → Int32 → Int32 → Int32 → Option (MS × (Int32 ⊕ Nat)))} (hS : SC_Pa_matched o S S') (hG : ∀ (c : Nat → Nat) (m : MS) (u : CS) (v1 : Int32) (v2 : Int32) (v3 : Int32) (v4 : Int32) (v5 : Int32), RP o c m u → RF 0 o VE c u (G u 33 v1 v2 v3 v4 v5) (G' m v1 v2 v3 v4 v5)) (R : RP o c m u) {v1 : Int32} {v2 : Int32} {v3 : Int32} {v5 : Int32} {t1 : Int32} {t2 : Int32} : RF 0 o VE c u (fb_Pa_row_67 N S G u 33 v1 v2 v3 v5 33 t1 t2) (hb_Pa_row_67 N S' G' m v1 v2 v3 v5 t1 t2) := by
  unfold fb_Pa_row_67 hb_Pa_row_67
  refine rf_ck (ox_33 R) ?_
  refine rf_bx0 (ym_Pa_chain R) (fun u1' u1 r1 R_u1 => ?_)
  exact (hG _ _ _ _ _ _ _ _ R_u1)
theorem yb_Pa_row_23 {N : Nat} {o : Option Nat} {c : Nat → Nat} {m : MS} {u : CS} {S : SG_Pa_matched} {S' : SF_Pa_matched} {G : (CS → Nat → Int32 → Int32 → Int32 → Int32 → Int32 → Option (CS × (Int32 ⊕ Nat)))} {G' : (MS → Int32 → Int32 → Int32 → Int32 → Int32 → Option (MS × (Int32 ⊕ Nat)))} (hS : SC_Pa_matched o S S') (hG : ∀ (c : Nat → Nat) (m : MS) (u : CS) (v1 : Int32) (v2 : Int32) (v3 : Int32) (v4 : Int32) (v5 : Int32), RP o c m u → RF 0 o VE c u (G u 33 v1 v2 v3 v4 v5) (G' m v1 v2 v3 v4 v5)) (R : RP o c m u) {v1 : Int32} {v2 : Int32} {v3 : Int32} {v4 : Int32} {v5 : Int32} : RF 0 o VE c u (fb_Pa_row_23 N S G u 33 v1 v2 v3 v4 v5) (hb_Pa_row_23 N S' G' m v1 v2 v3 v4 v5) := by
  unfold fb_Pa_row_23 hb_Pa_row_23
  refine rf_br ?_ ?_
  · exact (yb_Pa_row_78 hS hG R)
  · refine rf_ck (ox_33 R) ?_
    refine rf_bT (ym_Pa_look R) (fun u2' u2 r2 R_u2 => ?_)
    refine rf_br ?_ ?_
    · refine rf_bo (gx_33_5 R_u2) ?_
      refine rf_w (px_33_5 R_u2) (fun w4' w4 R_w4 => ?_)
      refine rf_br ?_ ?_
      · refine rf_ck (ox_33 R_w4) ?_
        refine rf_bT (hS.2.2.2.2.2.2.2.2.2.2.2.2.2.2.1 _ _ _ _ R_w4) (fun u5' u5 r5 R_u5 => ?_)
        exact (yb_Pa_row_67 hS hG R_u5)
      · refine rf_ck (ox_33 R_w4) ?_
        refine rf_bT (hS.2.2.2.2.2.2.2.2.2.2.2.2.2.2.2.2.2.1 _ _ _ R_w4) (fun u6' u6 r6 R_u6 => ?_)
        exact (yb_Pa_row_67 hS hG R_u6)
    · exact (yb_Pa_row_78 hS hG R_u2)
theorem yb_Pa_row_16 {N : Nat} {o : Option Nat} {c : Nat → Nat} {m : MS} {u : CS} {S : SG_Pa_matched} {S' : SF_Pa_matched} {G : (CS → Nat → Int32 → Int32 → Int32 → Int32 → Int32 → Option (CS × (Int32 ⊕ Nat)))} {G' : (MS → Int32 → Int32 → Int32 → Int32 → Int32 → Option (MS × (Int32 ⊕ Nat)))} (hS : SC_Pa_matched o S S') (hG : ∀ (c : Nat → Nat) (m : MS) (u : CS) (v1 : Int32) (v2 : Int32) (v3 : Int32) (v4 : Int32) (v5 : Int32), RP o c m u → RF 0 o VE c u (G u 33 v1 v2 v3 v4 v5) (G' m v1 v2 v3 v4 v5)) (R : RP o c m u) {v1 : Int32} {v2 : Int32} {t0 : Int32} : RF 0 o VE c u (fb_Pa_row_16 N S G u 33 v1 v2 t0) (hb_Pa_row_16 N S' G' m v1 v2 t0) := by
  unfold fb_Pa_row_16 hb_Pa_row_16
  exact (hG _ _ _ _ _ _ _ _ R)
theorem yb_Pa_row_0 {N : Nat} {o : Option Nat} {c : Nat → Nat} {m : MS} {u : CS} {S : SG_Pa_matched} {S' : SF_Pa_matched} {G : (CS → Nat → Int32 → Int32 → Int32 → Int32 → Int32 → Option (CS × (Int32 ⊕ Nat)))} {G' : (MS → Int32 → Int32 → Int32 → Int32 → Int32 → Option (MS × (Int32 ⊕ Nat)))} (hS : SC_Pa_matched o S S') (hG : ∀ (c : Nat → Nat) (m : MS) (u : CS) (v1 : Int32) (v2 : Int32) (v3 : Int32) (v4 : Int32) (v5 : Int32), RP o c m u → RF 0 o VE c u (G u 33 v1 v2 v3 v4 v5) (G' m v1 v2 v3 v4 v5)) (R : RP o c m u) {v1 : Int32} {v2 : Int32} : RF 0 o VE c u (fb_Pa_row_0 N S G u 33 v1 v2) (hb_Pa_row_0 N S' G' m v1 v2) := by
  unfold fb_Pa_row_0 hb_Pa_row_0
  refine rf_br ?_ ?_
  · refine rf_ck (ox_33 R) ?_
    refine rf_bT (hS.2.2.2.2.2.2.2.2.2.2.2.2.2.2.1 _ _ _ _ R) (fun u7' u7 r7 R_u7 => ?_)
    exact (yb_Pa_row_16 hS hG R_u7)
  · refine rf_ck (ox_33 R) ?_
    refine rf_bT (hS.2.2.2.2.2.2.2.2.2.2.2.2.2.2.2.2.2.1 _ _ _ R) (fun u8' u8 r8 R_u8 => ?_)
    exact (yb_Pa_row_16 hS hG R_u8)
theorem yg_Pa_row {N : Nat} {o : Option Nat} {S : SG_Pa_matched} {S' : SF_Pa_matched} (hS : SC_Pa_matched o S S') : ∀ n, (∀ (c : Nat → Nat) (m : MS) (u : CS) (v1 : Int32) (v2 : Int32) (v3 : Int32) (v4 : Int32) (v5 : Int32), RP o c m u → RF 0 o VE c u ((gg_Pa_row N S n) u 33 v1 v2 v3 v4 v5) ((hg_Pa_row N S' n) m v1 v2 v3 v4 v5)) := by
  intro n
  induction n with
  | zero => exact fun c m u v1 v2 v3 v4 v5 R => rf_none
  | succ n ih => exact fun c m u v1 v2 v3 v4 v5 R => yb_Pa_row_23 (N := N) hS ih R
theorem ym_Pa_row {N : Nat} {o : Option Nat} {c : Nat → Nat} {m : MS} {u : CS} {S : SG_Pa_matched} {S' : SF_Pa_matched} (hS : SC_Pa_matched o S S') (R : RP o c m u) {v1 : Int32} {v2 : Int32} : RF 0 o VE c u (fm_Pa_row N S u 33 v1 v2) (hm_Pa_row N S' m v1 v2) := yb_Pa_row_0 (N := N) hS (yg_Pa_row (N := N) hS N) R
theorem yb_Pa_rowUpTo_18 {N : Nat} {o : Option Nat} {c : Nat → Nat} {m : MS} {u : CS} {S : SG_Pa_matched} {S' : SF_Pa_matched} (hS : SC_Pa_matched o S S') (R : RP o c m u) {v3 : Int32} {t0 : Int32} : RF 0 o VE c u (fb_Pa_rowUpTo_18 N S () u 33 v3 t0) (hb_Pa_rowUpTo_18 N S' () m v3 t0) := by
  unfold fb_Pa_rowUpTo_18 hb_Pa_rowUpTo_18
  refine rf_ck (ox_33 R) ?_
  refine rf_bT (ym_Pa_need R) (fun u1' u1 r1 R_u1 => ?_)
  exact rf_ret R_u1 rfl
theorem yb_Pa_rowUpTo_0 {N : Nat} {o : Option Nat} {c : Nat → Nat} {m : MS} {u : CS} {S : SG_Pa_matched} {S' : SF_Pa_matched} (hS : SC_Pa_matched o S S') (R : RP o c m u) {v1 : Int32} {v2 : Int32} {v3 : Int32} : RF 0 o VE c u (fb_Pa_rowUpTo_0 N S () u 33 v1 v2 v3) (hb_Pa_rowUpTo_0 N S' () m v1 v2 v3) := by
  unfold fb_Pa_rowUpTo_0 hb_Pa_rowUpTo_0
  refine rf_ck (ox_33 R) ?_
  refine rf_bT (ym_Pa_look R) (fun u2' u2 r2 R_u2 => ?_)
  refine rf_br ?_ ?_
  · exact (yb_Pa_rowUpTo_18 hS R_u2)
  · refine rf_ck (ox_33 R_u2) ?_
    refine rf_bT (hS.2.2.2.2.2.2.2.2.2.2.2.2.2.2.2.2.2.2.1 _ _ _ _ _ R_u2) (fun u3' u3 r3 R_u3 => ?_)
    exact (yb_Pa_rowUpTo_18 hS R_u3)
theorem ym_Pa_rowUpTo {N : Nat} {o : Option Nat} {c : Nat → Nat} {m : MS} {u : CS} {S : SG_Pa_matched} {S' : SF_Pa_matched} (hS : SC_Pa_matched o S S') (R : RP o c m u) {v1 : Int32} {v2 : Int32} {v3 : Int32} : RF 0 o VE c u (fm_Pa_rowUpTo N S u 33 v1 v2 v3) (hm_Pa_rowUpTo N S' m v1 v2 v3) := yb_Pa_rowUpTo_0 (N := N) hS R
theorem yrc_Pa_matched {N : Nat} {o : Option Nat} : ∀ d, SC_Pa_matched o (rc_Pa_matched N d) (hrc_Pa_matched N d) := by
  intro d
  induction d with
  | zero => exact ⟨fun c m u v1 R => rf_none, fun c m u v1 R => rf_none, fun c m u R => rf_none, fun c m u R => rf_none, fun c m u R => rf_none, fun c m u v1 v2 R => rf_none, fun c m u R => rf_none, fun c m u v1 R => rf_none, fun c m u R => rf_none, fun c m u R => rf_none, fun c m u R => rf_none, fun c m u R => rf_none, fun c m u R => rf_none, fun c m u R => rf_none, fun c m u v1 R => rf_none, fun c m u v1 R => rf_none, fun c m u v1 R => rf_none, fun c m u R => rf_none, fun c m u v1 v2 R => rf_none, fun c m u v1 v2 v3 R => rf_none⟩
  | succ d ih => exact ⟨fun c m u v1 R => ym_Pa_matched (N := N) ih R, fun c m u v1 R => ym_Pa_applied (N := N) ih R, fun c m u R => ym_Pa_fun (N := N) ih R, fun c m u R => ym_Pa_receive (N := N) ih R, fun c m u R => ym_Pa_choice (N := N) ih R, fun c m u v1 v2 R => ym_Pa_part (N := N) ih R, fun c m u R => ym_Pa_oneCase (N := N) ih R, fun c m u v1 R => ym_Pa_parts (N := N) ih R, fun c m u R => ym_Pa_caseOf (N := N) ih R, fun c m u R => ym_Pa_body (N := N) ih R, fun c m u R => ym_Pa_atomOrCall (N := N) ih R, fun c m u R => ym_Pa_primary (N := N) ih R, fun c m u R => ym_Pa_unit (N := N) ih R, fun c m u R => ym_Pa_signed (N := N) ih R, fun c m u v1 R => ym_Pa_expression (N := N) ih R, fun c m u v1 R => ym_Pa_list (N := N) ih R, fun c m u v1 R => ym_Pa_tuple (N := N) ih R, fun c m u R => ym_Pa_pattern (N := N) ih R, fun c m u v1 v2 R => ym_Pa_row (N := N) ih R, fun c m u v1 v2 v3 R => ym_Pa_rowUpTo (N := N) ih R⟩
theorem yr_Pa_part {N : Nat} {o : Option Nat} {c : Nat → Nat} {m : MS} {u : CS} (R : RP o c m u) {v1 : Int32} {v2 : Int32} : RF 0 o VE c u (fr_Pa_part N u 33 v1 v2) (hr_Pa_part N m v1 v2) := (yrc_Pa_matched (N := N) 300).2.2.2.2.2.1 _ _ _ _ _ R
theorem yr_Pa_rowUpTo {N : Nat} {o : Option Nat} {c : Nat → Nat} {m : MS} {u : CS} (R : RP o c m u) {v1 : Int32} {v2 : Int32} {v3 : Int32} : RF 0 o VE c u (fr_Pa_rowUpTo N u 33 v1 v2 v3) (hr_Pa_rowUpTo N m v1 v2 v3) := (yrc_Pa_matched (N := N) 300).2.2.2.2.2.2.2.2.2.2.2.2.2.2.2.2.2.2.2 _ _ _ _ _ _ R
theorem yb_Pa_clause_0 {N : Nat} {o : Option Nat} {c : Nat → Nat} {m : MS} {u : CS} (R : RP o c m u) : RF 0 o VE c u (fb_Pa_clause_0 N () u 33) (hb_Pa_clause_0 N () m) := by
  unfold fb_Pa_clause_0 hb_Pa_clause_0
  refine rf_ck (ox_33 R) ?_
  refine rf_bT (ym_Pa_need R) (fun u1' u1 r1 R_u1 => ?_)
  refine rf_ck (ox_33 R_u1) ?_
  refine rf_bT (ym_Pa_need R_u1) (fun u2' u2 r2 R_u2 => ?_)
  refine rf_ck (ox_33 R_u2) ?_
  refine rf_bT (yr_Pa_rowUpTo R_u2) (fun u3' u3 r3 R_u3 => ?_)
  refine rf_ck (ox_33 R_u3) ?_
  refine rf_bT (yr_Pa_part R_u3) (fun u4' u4 r4 R_u4 => ?_)
  exact rf_ret R_u4 rfl
theorem ym_Pa_clause {N : Nat} {o : Option Nat} {c : Nat → Nat} {m : MS} {u : CS} (R : RP o c m u) : RF 0 o VE c u (fm_Pa_clause N u 33) (hm_Pa_clause N m) := yb_Pa_clause_0 (N := N) R
theorem yb_Pa_oneFunction_58 {N : Nat} {o : Option Nat} {c : Nat → Nat} {m : MS} {u : CS} {G : (CS → Nat → Int32 → Int32 → Int32 → Int32 → Option (CS × (Unit ⊕ Nat)))} {G' : (MS → Int32 → Int32 → Int32 → Int32 → Option (MS × (Unit ⊕ Nat)))} (hG : ∀ (c : Nat → Nat) (m : MS) (u : CS) (v1 : Int32) (v2 : Int32) (v3 : Int32) (v4 : Int32), RP o c m u → RF 0 o VE c u (G u 33 v1 v2 v3 v4) (G' m v1 v2 v3 v4)) (R : RP o c m u) {v1 : Int32} {v2 : Int32} : RF 0 o VE c u (fb_Pa_oneFunction_58 N G u 33 v1 v2) (hb_Pa_oneFunction_58 N G' m v1 v2) := by
  unfold fb_Pa_oneFunction_58 hb_Pa_oneFunction_58
  refine rf_ck (ox_33 R) ?_
  refine rf_bT (ym_Pa_need R) (fun u1' u1 r1 R_u1 => ?_)
  refine rf_bo (rx_33_2 R_u1) ?_
  refine rf_bo (rx_33_0 R_u1) ?_
  refine rf_so ?_
  refine rf_bo (rx_4_3 R_u1) ?_
  refine rf_so ?_
  refine rf_ai (ax_7 R_u1) ?_
  refine rf_bo (rx_33_1 R_u1) ?_
  refine rf_bo (rx_33_1 R_u1) ?_
  refine rf_so ?_
  refine rf_bo (rx_15_2 R_u1) ?_
  refine rf_so ?_
  refine rf_ai (ax_18 R_u1) ?_
  refine rf_so ?_
  refine rf_ck (ox_15 R_u1) ?_
  refine rf_bx0 (ym_Tr_length R_u1) (fun u14' u14 r14 R_u14 => ?_)
  refine rf_bo (rx_33_0 R_u14) ?_
  refine rf_so ?_
  refine rf_bo (rx_4_4 R_u14) ?_
  refine rf_so ?_
  refine rf_ai (ax_8 R_u14) ?_
  refine rf_bo (rx_33_1 R_u14) ?_
  refine rf_so ?_
  refine rf_ck (ox_15 R_u14) ?_
  refine rf_bx0 (ym_Tr_length R_u14) (fun u22' u22 r22 R_u22 => ?_)
  refine rf_so ?_
  refine rf_ck (ox_22 R_u22) ?_
  refine rf_bx0 (ym_Co_addFunction R_u22) (fun u24' u24 r24 R_u24 => ?_)
  exact rf_ret R_u24 rfl
theorem yb_Pa_oneFunction_15 {N : Nat} {o : Option Nat} {c : Nat → Nat} {m : MS} {u : CS} {G : (CS → Nat → Int32 → Int32 → Int32 → Int32 → Option (CS × (Unit ⊕ Nat)))} {G' : (MS → Int32 → Int32 → Int32 → Int32 → Option (MS × (Unit ⊕ Nat)))} (hG : ∀ (c : Nat → Nat) (m : MS) (u : CS) (v1 : Int32) (v2 : Int32) (v3 : Int32) (v4 : Int32), RP o c m u → RF 0 o VE c u (G u 33 v1 v2 v3 v4) (G' m v1 v2 v3 v4)) (R : RP o c m u) {v1 : Int32} {v2 : Int32} {v3 : Int32} {v4 : Int32} : RF 0 o VE c u (fb_Pa_oneFunction_15 N G u 33 v1 v2 v3 v4) (hb_Pa_oneFunction_15 N G' m v1 v2 v3 v4) := by
  unfold fb_Pa_oneFunction_15 hb_Pa_oneFunction_15
  refine rf_br ?_ ?_
  · exact (yb_Pa_oneFunction_58 hG R)
  · refine rf_ck (ox_33 R) ?_
    refine rf_bT (ym_Pa_look R) (fun u26' u26 r26 R_u26 => ?_)
    refine rf_br ?_ ?_
    · refine rf_bo (gx_33_5 R_u26) ?_
      refine rf_w (px_33_5 R_u26) (fun w28' w28 R_w28 => ?_)
      refine rf_ck (ox_33 R_w28) ?_
      refine rf_bT (ym_Pa_clause R_w28) (fun u29' u29 r29 R_u29 => ?_)
      refine rf_ck (ox_33 R_u29) ?_
      refine rf_bx0 (ym_Pa_chain R_u29) (fun u30' u30 r30 R_u30 => ?_)
      exact (hG _ _ _ _ _ _ _ R_u30)
    · exact (yb_Pa_oneFunction_58 hG R_u26)
theorem yb_Pa_oneFunction_0 {N : Nat} {o : Option Nat} {c : Nat → Nat} {m : MS} {u : CS} {G : (CS → Nat → Int32 → Int32 → Int32 → Int32 → Option (CS × (Unit ⊕ Nat)))} {G' : (MS → Int32 → Int32 → Int32 → Int32 → Option (MS × (Unit ⊕ Nat)))} (hG : ∀ (c : Nat → Nat) (m : MS) (u : CS) (v1 : Int32) (v2 : Int32) (v3 : Int32) (v4 : Int32), RP o c m u → RF 0 o VE c u (G u 33 v1 v2 v3 v4) (G' m v1 v2 v3 v4)) (R : RP o c m u) : RF 0 o VE c u (fb_Pa_oneFunction_0 N G u 33) (hb_Pa_oneFunction_0 N G' m) := by
  unfold fb_Pa_oneFunction_0 hb_Pa_oneFunction_0
  refine rf_bo (gx_33_5 R) ?_
  refine rf_ck (ox_33 R) ?_
  refine rf_bT (ym_Pa_clause R) (fun u32' u32 r32 R_u32 => ?_)
  exact (hG _ _ _ _ _ _ _ R_u32)
theorem yg_Pa_oneFunction {N : Nat} {o : Option Nat} : ∀ n, (∀ (c : Nat → Nat) (m : MS) (u : CS) (v1 : Int32) (v2 : Int32) (v3 : Int32) (v4 : Int32), RP o c m u → RF 0 o VE c u ((gg_Pa_oneFunction N n) u 33 v1 v2 v3 v4) ((hg_Pa_oneFunction N n) m v1 v2 v3 v4)) := by
  intro n
  induction n with
  | zero => exact fun c m u v1 v2 v3 v4 R => rf_none
  | succ n ih => exact fun c m u v1 v2 v3 v4 R => yb_Pa_oneFunction_15 (N := N) ih R
theorem ym_Pa_oneFunction {N : Nat} {o : Option Nat} {c : Nat → Nat} {m : MS} {u : CS} (R : RP o c m u) : RF 0 o VE c u (fm_Pa_oneFunction N u 33) (hm_Pa_oneFunction N m) := yb_Pa_oneFunction_0 (N := N) (yg_Pa_oneFunction (N := N) N) R
theorem yb_Pa_parse_68 {N : Nat} {o : Option Nat} {c : Nat → Nat} {m : MS} {u : CS} {G : (CS → Nat → Int32 → Option (CS × Int32))} {G' : (MS → Int32 → Option (MS × Int32))} (hG : ∀ (c : Nat → Nat) (m : MS) (u : CS) (v1 : Int32), RP o c m u → RF 0 o VE c u (G u 33 v1) (G' m v1)) (R : RP o c m u) : RF 0 o VE c u (fb_Pa_parse_68 N G u 33) (hb_Pa_parse_68 N G' m) := by
  unfold fb_Pa_parse_68 hb_Pa_parse_68
  refine rf_bo (gx_33_7 R) ?_
  exact rf_ret R rfl
theorem yb_Pa_parse_64 {N : Nat} {o : Option Nat} {c : Nat → Nat} {m : MS} {u : CS} {G : (CS → Nat → Int32 → Option (CS × Int32))} {G' : (MS → Int32 → Option (MS × Int32))} (hG : ∀ (c : Nat → Nat) (m : MS) (u : CS) (v1 : Int32), RP o c m u → RF 0 o VE c u (G u 33 v1) (G' m v1)) (R : RP o c m u) : RF 0 o VE c u (fb_Pa_parse_64 N G u) (hb_Pa_parse_64 N G' m) := by
  unfold fb_Pa_parse_64 hb_Pa_parse_64
  exact rf_ret R rfl
theorem yb_Pa_parse_54 {N : Nat} {o : Option Nat} {c : Nat → Nat} {m : MS} {u : CS} {G : (CS → Nat → Int32 → Option (CS × Int32))} {G' : (MS → Int32 → Option (MS × Int32))} (hG : ∀ (c : Nat → Nat) (m : MS) (u : CS) (v1 : Int32), RP o c m u → RF 0 o VE c u (G u 33 v1) (G' m v1)) (R : RP o c m u) {v1 : Int32} : RF 0 o VE c u (fb_Pa_parse_54 N G u 33 v1) (hb_Pa_parse_54 N G' m v1) := by
  unfold fb_Pa_parse_54 hb_Pa_parse_54
  refine rf_ck (ox_33 R) ?_
  refine rf_bH (ym_Pa_oneFunction R) (fun u2' u2 r2 R_u2 => ?_) (fun u2' u2 R_u2 => ?_)
  · exact (hG _ _ _ _ R_u2)
  · exact (yb_Pa_parse_68 hG R_u2)
theorem yb_Pa_parse_36 {N : Nat} {o : Option Nat} {c : Nat → Nat} {m : MS} {u : CS} {G : (CS → Nat → Int32 → Option (CS × Int32))} {G' : (MS → Int32 → Option (MS × Int32))} (hG : ∀ (c : Nat → Nat) (m : MS) (u : CS) (v1 : Int32), RP o c m u → RF 0 o VE c u (G u 33 v1) (G' m v1)) (R : RP o c m u) {v1 : Int32} : RF 0 o VE c u (fb_Pa_parse_36 N G u 33 v1) (hb_Pa_parse_36 N G' m v1) := by
  unfold fb_Pa_parse_36 hb_Pa_parse_36
  refine rf_br ?_ ?_
  · exact (yb_Pa_parse_64 hG R)
  · refine rf_br ?_ ?_
    · exact (yb_Pa_parse_54 hG R)
    · refine rf_ck (ox_33 R) ?_
      refine rf_bH (ym_Pa_look R) (fun u3' u3 r3 R_u3 => ?_) (fun u3' u3 R_u3 => ?_)
      · refine rf_br ?_ ?_
        · exact (yb_Pa_parse_64 hG R_u3)
        · exact (yb_Pa_parse_54 hG R_u3)
      · exact (yb_Pa_parse_68 hG R_u3)
theorem yb_Pa_parse_0 {N : Nat} {o : Option Nat} {c : Nat → Nat} {m : MS} {u : CS} {G : (CS → Nat → Int32 → Option (CS × Int32))} {G' : (MS → Int32 → Option (MS × Int32))} (hG : ∀ (c : Nat → Nat) (m : MS) (u : CS) (v1 : Int32), RP o c m u → RF 0 o VE c u (G u 33 v1) (G' m v1)) (R : RP o c m u) : RF 0 o VE c u (fb_Pa_parse_0 N G u 33) (hb_Pa_parse_0 N G' m) := by
  unfold fb_Pa_parse_0 hb_Pa_parse_0
  refine rf_bo (rx_33_1 R) ?_
  refine rf_so ?_
  refine rf_ck (ox_15 R) ?_
  refine rf_bx0 (ym_Tr_clear R) (fun u5' u5 r5 R_u5 => ?_)
  refine rf_bo (rx_33_2 R_u5) ?_
  refine rf_so ?_
  refine rf_ck (ox_22 R_u5) ?_
  refine rf_bx0 (ym_Co_clear R_u5) (fun u8' u8 r8 R_u8 => ?_)
  refine rf_w (px_33_4 R_u8) (fun w10' w10 R_w10 => ?_)
  refine rf_w (px_33_5 R_w10) (fun w11' w11 R_w11 => ?_)
  refine rf_w (px_33_6 R_w11) (fun w12' w12 R_w12 => ?_)
  refine rf_w (px_33_7 R_w12) (fun w13' w13 R_w13 => ?_)
  exact (hG _ _ _ _ R_w13)
theorem yg_Pa_parse {N : Nat} {o : Option Nat} : ∀ n, (∀ (c : Nat → Nat) (m : MS) (u : CS) (v1 : Int32), RP o c m u → RF 0 o VE c u ((gg_Pa_parse N n) u 33 v1) ((hg_Pa_parse N n) m v1)) := by
  intro n
  induction n with
  | zero => exact fun c m u v1 R => rf_none
  | succ n ih => exact fun c m u v1 R => yb_Pa_parse_36 (N := N) ih R
theorem ym_Pa_parse {N : Nat} {o : Option Nat} {c : Nat → Nat} {m : MS} {u : CS} (R : RP o c m u) : RF 0 o VE c u (fm_Pa_parse N u 33) (hm_Pa_parse N m) := yb_Pa_parse_0 (N := N) (yg_Pa_parse (N := N) N) R
theorem yb_Cm_predefinedOf_54 {N : Nat} {o : Option Nat} {c : Nat → Nat} {m : MS} {u : CS} (R : RP o c m u) {t0 : Int32} : RF 0 o VE c u (fb_Cm_predefinedOf_54 N () u t0) (hb_Cm_predefinedOf_54 N () m t0) := by
  unfold fb_Cm_predefinedOf_54 hb_Cm_predefinedOf_54
  exact rf_ret R rfl
theorem yb_Cm_predefinedOf_53 {N : Nat} {o : Option Nat} {c : Nat → Nat} {m : MS} {u : CS} (R : RP o c m u) : RF 0 o VE c u (fb_Cm_predefinedOf_53 N () u) (hb_Cm_predefinedOf_53 N () m) := by
  unfold fb_Cm_predefinedOf_53 hb_Cm_predefinedOf_53
  exact (yb_Cm_predefinedOf_54 R)
theorem yb_Cm_predefinedOf_27 {N : Nat} {o : Option Nat} {c : Nat → Nat} {m : MS} {u : CS} (R : RP o c m u) {v2 : Int32} {v3 : Int32} : RF 0 o VE c u (fb_Cm_predefinedOf_27 N () u v2 v3) (hb_Cm_predefinedOf_27 N () m v2 v3) := by
  unfold fb_Cm_predefinedOf_27 hb_Cm_predefinedOf_27
  refine rf_br ?_ ?_
  · exact (yb_Cm_predefinedOf_53 R)
  · refine rf_br ?_ ?_
    · exact (yb_Cm_predefinedOf_53 R)
    · refine rf_ckk ?_
      refine rf_br ?_ ?_
      · exact (yb_Cm_predefinedOf_54 R)
      · exact (yb_Cm_predefinedOf_53 R)
theorem yb_Cm_predefinedOf_0 {N : Nat} {o : Option Nat} {c : Nat → Nat} {m : MS} {u : CS} (R : RP o c m u) {v1 : Int32} {v2 : Int32} : RF 0 o VE c u (fb_Cm_predefinedOf_0 N () u 35 v1 v2) (hb_Cm_predefinedOf_0 N () m v1 v2) := by
  unfold fb_Cm_predefinedOf_0 hb_Cm_predefinedOf_0
  refine rf_bo (rx_35_3 R) ?_
  refine rf_bo (rx_35_4 R) ?_
  refine rf_so ?_
  refine rf_ck (ox_1 R) ?_
  refine rf_bx0 (ym_Wo_seekIn R (by unfold isWd; omega) (by unfold isWd; omega)) (fun u3' u3 r3 R_u3 => ?_)
  refine rf_br ?_ ?_
  · refine rf_br ?_ ?_
    · exact rf_ret R_u3 rfl
    · exact (yb_Cm_predefinedOf_27 R_u3)
  · exact (yb_Cm_predefinedOf_27 R_u3)
theorem ym_Cm_predefinedOf {N : Nat} {o : Option Nat} {c : Nat → Nat} {m : MS} {u : CS} (R : RP o c m u) {v1 : Int32} {v2 : Int32} : RF 0 o VE c u (fm_Cm_predefinedOf N u 35 v1 v2) (hm_Cm_predefinedOf N m v1 v2) := yb_Cm_predefinedOf_0 (N := N) R
theorem yb_Cm_fault_0 {N : Nat} {o : Option Nat} {c : Nat → Nat} {m : MS} {u : CS} (R : RP o c m u) {v1 : Int32} {v2 : Int32} : RF 0 o VE c u (fb_Cm_fault_0 N () u 35 v1 v2) (hb_Cm_fault_0 N () m v1 v2) := by
  unfold fb_Cm_fault_0 hb_Cm_fault_0
  refine rf_bo (gx_35_14 R) ?_
  refine rf_lt ?_
  refine rf_w (px_35_14 R) (fun w3' w3 R_w3 => ?_)
  exact rf_ret R_w3 rfl
theorem ym_Cm_fault {N : Nat} {o : Option Nat} {c : Nat → Nat} {m : MS} {u : CS} (R : RP o c m u) {v1 : Int32} {v2 : Int32} : RF 0 o VE c u (fm_Cm_fault N u 35 v1 v2) (hm_Cm_fault N m v1 v2) := yb_Cm_fault_0 (N := N) R
theorem yb_Cm_bind_32 {N : Nat} {o : Option Nat} {c : Nat → Nat} {m : MS} {u : CS} (R : RP o c m u) : RF 0 o VE c u (fb_Cm_bind_32 N () u 35) (hb_Cm_bind_32 N () m) := by
  unfold fb_Cm_bind_32 hb_Cm_bind_32
  refine rf_bo (rx_35_8 R) ?_
  refine rf_bo (gx_35_9 R) ?_
  refine rf_bo (rx_35_8 R) ?_
  refine rf_bo (gx_35_9 R) ?_
  refine rf_so ?_
  refine rf_ai (ax_41 R) ?_
  refine rf_bo (gx_35_6 R) ?_
  refine rf_bo (rx_35_7 R) ?_
  refine rf_bo (gx_35_9 R) ?_
  refine rf_so ?_
  refine rf_ai (ax_40 R) ?_
  refine rf_lt ?_
  refine rf_so ?_
  refine rf_wk (sx_41 R) (fun w14' w14 R_w14 => ?_)
  exact rf_ret R_w14 rfl
theorem yb_Cm_bind_0 {N : Nat} {o : Option Nat} {c : Nat → Nat} {m : MS} {u : CS} (R : RP o c m u) {v1 : Int32} : RF 0 o VE c u (fb_Cm_bind_0 N () u 35 v1) (hb_Cm_bind_0 N () m v1) := by
  unfold fb_Cm_bind_0 hb_Cm_bind_0
  refine rf_bo (gx_35_6 R) ?_
  refine rf_bo (rx_35_5 R) ?_
  refine rf_so ?_
  refine rf_bo (nx_39 R) ?_
  refine rf_br ?_ ?_
  · exact (yb_Cm_bind_32 R)
  · refine rf_bo (rx_35_5 R) ?_
    refine rf_bo (gx_35_6 R) ?_
    refine rf_so ?_
    refine rf_wk (sx_39 R) (fun w22' w22 R_w22 => ?_)
    refine rf_bo (gx_35_6 R_w22) ?_
    refine rf_w (px_35_6 R_w22) (fun w24' w24 R_w24 => ?_)
    exact (yb_Cm_bind_32 R_w24)
theorem ym_Cm_bind {N : Nat} {o : Option Nat} {c : Nat → Nat} {m : MS} {u : CS} (R : RP o c m u) {v1 : Int32} : RF 0 o VE c u (fm_Cm_bind N u 35 v1) (hm_Cm_bind N m v1) := yb_Cm_bind_0 (N := N) R
theorem yb_Cm_nameInPattern_92 {N : Nat} {o : Option Nat} {c : Nat → Nat} {m : MS} {u : CS} (R : RP o c m u) : RF 0 o VE c u (fb_Cm_nameInPattern_92 N () u) (hb_Cm_nameInPattern_92 N () m) := by
  unfold fb_Cm_nameInPattern_92 hb_Cm_nameInPattern_92
  exact rf_ret R rfl
theorem yb_Cm_nameInPattern_46 {N : Nat} {o : Option Nat} {c : Nat → Nat} {m : MS} {u : CS} (R : RP o c m u) {v1 : Int32} {t1 : Int32} {t2 : Int32} {t3 : Int32} : RF 0 o VE c u (fb_Cm_nameInPattern_46 N () u 35 v1 35 t1 t2 t3) (hb_Cm_nameInPattern_46 N () m v1 t1 t2 t3) := by
  unfold fb_Cm_nameInPattern_46 hb_Cm_nameInPattern_46
  refine rf_ck (ox_35 R) ?_
  refine rf_bx0 (ym_Cm_isBound R) (fun u1' u1 r1 R_u1 => ?_)
  refine rf_br ?_ ?_
  · refine rf_bo (rx_35_2 R_u1) ?_
    refine rf_so ?_
    refine rf_ck (ox_22 R_u1) ?_
    refine rf_bx0 (ym_Co_put R_u1) (fun u3' u3 r3 R_u3 => ?_)
    refine rf_bo (rx_35_2 R_u3) ?_
    refine rf_so ?_
    refine rf_ck (ox_22 R_u3) ?_
    refine rf_bx0 (ym_Co_put R_u3) (fun u6' u6 r6 R_u6 => ?_)
    refine rf_ck (ox_35 R_u6) ?_
    refine rf_bx0 (ym_Cm_bind R_u6) (fun u8' u8 r8 R_u8 => ?_)
    exact (yb_Cm_nameInPattern_92 R_u8)
  · refine rf_bo (rx_35_2 R_u1) ?_
    refine rf_so ?_
    refine rf_ck (ox_22 R_u1) ?_
    refine rf_bx0 (ym_Co_put R_u1) (fun u10' u10 r10 R_u10 => ?_)
    refine rf_bo (rx_35_2 R_u10) ?_
    refine rf_so ?_
    refine rf_ck (ox_22 R_u10) ?_
    refine rf_bx0 (ym_Co_put R_u10) (fun u13' u13 r13 R_u13 => ?_)
    exact (yb_Cm_nameInPattern_92 R_u13)
theorem yb_Cm_nameInPattern_0 {N : Nat} {o : Option Nat} {c : Nat → Nat} {m : MS} {u : CS} (R : RP o c m u) {v1 : Int32} {v2 : Int32} : RF 0 o VE c u (fb_Cm_nameInPattern_0 N () u 35 v1 v2) (hb_Cm_nameInPattern_0 N () m v1 v2) := by
  unfold fb_Cm_nameInPattern_0 hb_Cm_nameInPattern_0
  refine rf_bo (rx_35_10 R) ?_
  refine rf_so ?_
  refine rf_wk (sx_42 R) (fun w17' w17 R_w17 => ?_)
  refine rf_br ?_ ?_
  · refine rf_bo (rx_35_2 R_w17) ?_
    refine rf_so ?_
    refine rf_ck (ox_22 R_w17) ?_
    refine rf_bx0 (ym_Co_put R_w17) (fun u24' u24 r24 R_u24 => ?_)
    exact (yb_Cm_nameInPattern_92 R_u24)
  · refine rf_bo (gx_35_13 R_w17) ?_
    refine rf_br ?_ ?_
    · exact (yb_Cm_nameInPattern_46 R_w17)
    · refine rf_bo (rx_35_7 R_w17) ?_
      refine rf_bo (gx_35_9 R_w17) ?_
      refine rf_so ?_
      refine rf_ai (ax_40 R_w17) ?_
      exact (yb_Cm_nameInPattern_46 R_w17)
theorem ym_Cm_nameInPattern {N : Nat} {o : Option Nat} {c : Nat → Nat} {m : MS} {u : CS} (R : RP o c m u) {v1 : Int32} {v2 : Int32} : RF 0 o VE c u (fm_Cm_nameInPattern N u 35 v1 v2) (hm_Cm_nameInPattern N m v1 v2) := yb_Cm_nameInPattern_0 (N := N) R
def SC_Cm_listPattern (o : Option Nat) (S : SG_Cm_listPattern) (S' : SF_Cm_listPattern) : Prop := (∀ (c : Nat → Nat) (m : MS) (u : CS) (v1 : Int32), RP o c m u → RF 0 o VE c u (S.1 u 35 v1) (S'.1 m v1)) ∧ (∀ (c : Nat → Nat) (m : MS) (u : CS) (v1 : Int32), RP o c m u → RF 0 o VE c u (S.2 u 35 v1) (S'.2 m v1))
theorem yb_Cm_listPattern_84 {N : Nat} {o : Option Nat} {c : Nat → Nat} {m : MS} {u : CS} {S : SG_Cm_listPattern} {S' : SF_Cm_listPattern} {G : (CS → Nat → Int32 → Int32 → Option (CS × Unit))} {G' : (MS → Int32 → Int32 → Option (MS × Unit))} (hS : SC_Cm_listPattern o S S') (hG : ∀ (c : Nat → Nat) (m : MS) (u : CS) (v1 : Int32) (v2 : Int32), RP o c m u → RF 0 o VE c u (G u 35 v1 v2) (G' m v1 v2)) (R : RP o c m u) : RF 0 o VE c u (fb_Cm_listPattern_84 N S G u) (hb_Cm_listPattern_84 N S' G' m) := by
  unfold fb_Cm_listPattern_84 hb_Cm_listPattern_84
  exact rf_ret R rfl
theorem yb_Cm_listPattern_10 {N : Nat} {o : Option Nat} {c : Nat → Nat} {m : MS} {u : CS} {S : SG_Cm_listPattern} {S' : SF_Cm_listPattern} {G : (CS → Nat → Int32 → Int32 → Option (CS × Unit))} {G' : (MS → Int32 → Int32 → Option (MS × Unit))} (hS : SC_Cm_listPattern o S S') (hG : ∀ (c : Nat → Nat) (m : MS) (u : CS) (v1 : Int32) (v2 : Int32), RP o c m u → RF 0 o VE c u (G u 35 v1 v2) (G' m v1 v2)) (R : RP o c m u) {v1 : Int32} {v2 : Int32} : RF 0 o VE c u (fb_Cm_listPattern_10 N S G u 35 v1 v2) (hb_Cm_listPattern_10 N S' G' m v1 v2) := by
  unfold fb_Cm_listPattern_10 hb_Cm_listPattern_10
  refine rf_br ?_ ?_
  · refine rf_bo (rx_35_1 R) ?_
    refine rf_so ?_
    refine rf_bo (rx_15_4 R) ?_
    refine rf_so ?_
    refine rf_ai (ax_20 R) ?_
    refine rf_br ?_ ?_
    · refine rf_bo (rx_35_2 R) ?_
      refine rf_so ?_
      refine rf_ck (ox_22 R) ?_
      refine rf_bx0 (ym_Co_put R) (fun u7' u7 r7 R_u7 => ?_)
      refine rf_ck (ox_35 R_u7) ?_
      refine rf_bx0 (ym_Cm_term R_u7) (fun u9' u9 r9 R_u9 => ?_)
      exact (yb_Cm_listPattern_84 hS hG R_u9)
    · refine rf_bo (rx_35_1 R) ?_
      refine rf_so ?_
      refine rf_bo (rx_15_4 R) ?_
      refine rf_so ?_
      refine rf_ai (ax_20 R) ?_
      refine rf_ck (ox_35 R) ?_
      refine rf_bx0 (hS.2 _ _ _ _ R) (fun u15' u15 r15 R_u15 => ?_)
      exact (yb_Cm_listPattern_84 hS hG R_u15)
  · refine rf_bo (rx_35_2 R) ?_
    refine rf_so ?_
    refine rf_ck (ox_22 R) ?_
    refine rf_bx0 (ym_Co_put R) (fun u17' u17 r17 R_u17 => ?_)
    refine rf_ck (ox_35 R_u17) ?_
    refine rf_bx0 (hS.2 _ _ _ _ R_u17) (fun u19' u19 r19 R_u19 => ?_)
    refine rf_bo (rx_35_1 R_u19) ?_
    refine rf_so ?_
    refine rf_bo (rx_15_5 R_u19) ?_
    refine rf_so ?_
    refine rf_ai (ax_21 R_u19) ?_
    exact (hG _ _ _ _ _ R_u19)
theorem yb_Cm_listPattern_0 {N : Nat} {o : Option Nat} {c : Nat → Nat} {m : MS} {u : CS} {S : SG_Cm_listPattern} {S' : SF_Cm_listPattern} {G : (CS → Nat → Int32 → Int32 → Option (CS × Unit))} {G' : (MS → Int32 → Int32 → Option (MS × Unit))} (hS : SC_Cm_listPattern o S S') (hG : ∀ (c : Nat → Nat) (m : MS) (u : CS) (v1 : Int32) (v2 : Int32), RP o c m u → RF 0 o VE c u (G u 35 v1 v2) (G' m v1 v2)) (R : RP o c m u) {v1 : Int32} : RF 0 o VE c u (fb_Cm_listPattern_0 N S G u 35 v1) (hb_Cm_listPattern_0 N S' G' m v1) := by
  unfold fb_Cm_listPattern_0 hb_Cm_listPattern_0
  refine rf_bo (rx_35_1 R) ?_
  refine rf_so ?_
  refine rf_bo (rx_15_2 R) ?_
  refine rf_so ?_
  refine rf_ai (ax_18 R) ?_
  exact (hG _ _ _ _ _ R)
theorem yg_Cm_listPattern {N : Nat} {o : Option Nat} {S : SG_Cm_listPattern} {S' : SF_Cm_listPattern} (hS : SC_Cm_listPattern o S S') : ∀ n, (∀ (c : Nat → Nat) (m : MS) (u : CS) (v1 : Int32) (v2 : Int32), RP o c m u → RF 0 o VE c u ((gg_Cm_listPattern N S n) u 35 v1 v2) ((hg_Cm_listPattern N S' n) m v1 v2)) := by
  intro n
  induction n with
  | zero => exact fun c m u v1 v2 R => rf_none
  | succ n ih => exact fun c m u v1 v2 R => yb_Cm_listPattern_10 (N := N) hS ih R
theorem ym_Cm_listPattern {N : Nat} {o : Option Nat} {c : Nat → Nat} {m : MS} {u : CS} {S : SG_Cm_listPattern} {S' : SF_Cm_listPattern} (hS : SC_Cm_listPattern o S S') (R : RP o c m u) {v1 : Int32} : RF 0 o VE c u (fm_Cm_listPattern N S u 35 v1) (hm_Cm_listPattern N S' m v1) := yb_Cm_listPattern_0 (N := N) hS (yg_Cm_listPattern (N := N) hS N) R
theorem yb_Cm_pattern_298 {N : Nat} {o : Option Nat} {c : Nat → Nat} {m : MS} {u : CS} {S : SG_Cm_listPattern} {S' : SF_Cm_listPattern} {G : (CS → Nat → Int32 → Option (CS × Unit))} {G' : (MS → Int32 → Option (MS × Unit))} (hS : SC_Cm_listPattern o S S') (hG : ∀ (c : Nat → Nat) (m : MS) (u : CS) (v2 : Int32), RP o c m u → RF 0 o VE c u (G u 35 v2) (G' m v2)) (R : RP o c m u) : RF 0 o VE c u (fb_Cm_pattern_298 N S G u) (hb_Cm_pattern_298 N S' G' m) := by
  unfold fb_Cm_pattern_298 hb_Cm_pattern_298
  exact rf_ret R rfl
theorem yb_Cm_pattern_268 {N : Nat} {o : Option Nat} {c : Nat → Nat} {m : MS} {u : CS} {S : SG_Cm_listPattern} {S' : SF_Cm_listPattern} {G : (CS → Nat → Int32 → Option (CS × Unit))} {G' : (MS → Int32 → Option (MS × Unit))} (hS : SC_Cm_listPattern o S S') (hG : ∀ (c : Nat → Nat) (m : MS) (u : CS) (v2 : Int32), RP o c m u → RF 0 o VE c u (G u 35 v2) (G' m v2)) (R : RP o c m u) {v2 : Int32} : RF 0 o VE c u (fb_Cm_pattern_268 N S G u 35 v2) (hb_Cm_pattern_268 N S' G' m v2) := by
  unfold fb_Cm_pattern_268 hb_Cm_pattern_268
  refine rf_br ?_ ?_
  · exact (yb_Cm_pattern_298 hS hG R)
  · refine rf_ck (ox_35 R) ?_
    refine rf_bx0 (hS.2 _ _ _ _ R) (fun u1' u1 r1 R_u1 => ?_)
    refine rf_bo (rx_35_1 R_u1) ?_
    refine rf_so ?_
    refine rf_bo (rx_15_5 R_u1) ?_
    refine rf_so ?_
    refine rf_ai (ax_21 R_u1) ?_
    exact (hG _ _ _ _ R_u1)
theorem yb_Cm_pattern_0 {N : Nat} {o : Option Nat} {c : Nat → Nat} {m : MS} {u : CS} {S : SG_Cm_listPattern} {S' : SF_Cm_listPattern} {G : (CS → Nat → Int32 → Option (CS × Unit))} {G' : (MS → Int32 → Option (MS × Unit))} (hS : SC_Cm_listPattern o S S') (hG : ∀ (c : Nat → Nat) (m : MS) (u : CS) (v2 : Int32), RP o c m u → RF 0 o VE c u (G u 35 v2) (G' m v2)) (R : RP o c m u) {v1 : Int32} : RF 0 o VE c u (fb_Cm_pattern_0 N S G u 35 v1) (hb_Cm_pattern_0 N S' G' m v1) := by
  unfold fb_Cm_pattern_0 hb_Cm_pattern_0
  refine rf_bo (rx_35_1 R) ?_
  refine rf_so ?_
  refine rf_bo (rx_15_0 R) ?_
  refine rf_so ?_
  refine rf_ai (ax_16 R) ?_
  refine rf_br ?_ ?_
  · refine rf_bo (rx_35_2 R) ?_
    refine rf_so ?_
    refine rf_ck (ox_22 R) ?_
    refine rf_bx0 (ym_Co_put R) (fun u13' u13 r13 R_u13 => ?_)
    refine rf_bo (rx_35_1 R_u13) ?_
    refine rf_so ?_
    refine rf_bo (rx_15_2 R_u13) ?_
    refine rf_so ?_
    refine rf_ai (ax_18 R_u13) ?_
    refine rf_ck (ox_35 R_u13) ?_
    refine rf_bx0 (ym_Cm_term R_u13) (fun u20' u20 r20 R_u20 => ?_)
    exact (yb_Cm_pattern_298 hS hG R_u20)
  · refine rf_br ?_ ?_
    · refine rf_bo (rx_35_2 R) ?_
      refine rf_so ?_
      refine rf_ck (ox_22 R) ?_
      refine rf_bx0 (ym_Co_put R) (fun u22' u22 r22 R_u22 => ?_)
      refine rf_bo (rx_35_1 R_u22) ?_
      refine rf_so ?_
      refine rf_bo (rx_15_2 R_u22) ?_
      refine rf_so ?_
      refine rf_ai (ax_18 R_u22) ?_
      refine rf_ck (ox_35 R_u22) ?_
      refine rf_bx0 (ym_Cm_term R_u22) (fun u29' u29 r29 R_u29 => ?_)
      exact (yb_Cm_pattern_298 hS hG R_u29)
    · refine rf_br ?_ ?_
      · refine rf_bo (rx_35_1 R) ?_
        refine rf_so ?_
        refine rf_bo (rx_15_2 R) ?_
        refine rf_so ?_
        refine rf_ai (ax_18 R) ?_
        refine rf_bo (rx_35_1 R) ?_
        refine rf_so ?_
        refine rf_bo (rx_15_1 R) ?_
        refine rf_so ?_
        refine rf_ai (ax_17 R) ?_
        refine rf_ck (ox_35 R) ?_
        refine rf_bx0 (ym_Cm_nameInPattern R) (fun u40' u40 r40 R_u40 => ?_)
        exact (yb_Cm_pattern_298 hS hG R_u40)
      · refine rf_br ?_ ?_
        · refine rf_bo (rx_35_2 R) ?_
          refine rf_so ?_
          refine rf_ck (ox_22 R) ?_
          refine rf_bx0 (ym_Co_put R) (fun u42' u42 r42 R_u42 => ?_)
          refine rf_ck (ox_35 R_u42) ?_
          refine rf_bx0 (ym_Cm_string R_u42) (fun u44' u44 r44 R_u44 => ?_)
          exact (yb_Cm_pattern_298 hS hG R_u44)
        · refine rf_br ?_ ?_
          · refine rf_bo (rx_35_1 R) ?_
            refine rf_so ?_
            refine rf_bo (rx_15_2 R) ?_
            refine rf_so ?_
            refine rf_ai (ax_18 R) ?_
            refine rf_ck (ox_35 R) ?_
            refine rf_bx0 (hS.2 _ _ _ _ R) (fun u50' u50 r50 R_u50 => ?_)
            exact (yb_Cm_pattern_298 hS hG R_u50)
          · refine rf_br ?_ ?_
            · refine rf_bo (rx_35_2 R) ?_
              refine rf_so ?_
              refine rf_ck (ox_22 R) ?_
              refine rf_bx0 (ym_Co_put R) (fun u52' u52 r52 R_u52 => ?_)
              refine rf_bo (rx_35_2 R_u52) ?_
              refine rf_bo (rx_35_1 R_u52) ?_
              refine rf_so ?_
              refine rf_bo (rx_15_3 R_u52) ?_
              refine rf_so ?_
              refine rf_ai (ax_19 R_u52) ?_
              refine rf_so ?_
              refine rf_ck (ox_22 R_u52) ?_
              refine rf_bx0 (ym_Co_put R_u52) (fun u60' u60 r60 R_u60 => ?_)
              refine rf_bo (rx_35_1 R_u60) ?_
              refine rf_so ?_
              refine rf_bo (rx_15_2 R_u60) ?_
              refine rf_so ?_
              refine rf_ai (ax_18 R_u60) ?_
              exact (hG _ _ _ _ R_u60)
            · refine rf_br ?_ ?_
              · refine rf_ck (ox_35 R) ?_
                refine rf_bx0 (hS.1 _ _ _ _ R) (fun u67' u67 r67 R_u67 => ?_)
                exact (yb_Cm_pattern_298 hS hG R_u67)
              · refine rf_br ?_ ?_
                · refine rf_ck (ox_35 R) ?_
                  refine rf_bx0 (hS.1 _ _ _ _ R) (fun u68' u68 r68 R_u68 => ?_)
                  exact (yb_Cm_pattern_298 hS hG R_u68)
                · refine rf_br ?_ ?_
                  · refine rf_ck (ox_35 R) ?_
                    refine rf_bx0 (hS.1 _ _ _ _ R) (fun u69' u69 r69 R_u69 => ?_)
                    exact (yb_Cm_pattern_298 hS hG R_u69)
                  · refine rf_br ?_ ?_
                    · refine rf_ck (ox_35 R) ?_
                      refine rf_bx0 (hS.1 _ _ _ _ R) (fun u70' u70 r70 R_u70 => ?_)
                      exact (yb_Cm_pattern_298 hS hG R_u70)
                    · refine rf_br ?_ ?_
                      · refine rf_ck (ox_35 R) ?_
                        refine rf_bx0 (hS.1 _ _ _ _ R) (fun u71' u71 r71 R_u71 => ?_)
                        exact (yb_Cm_pattern_298 hS hG R_u71)
                      · refine rf_br ?_ ?_
                        · refine rf_ck (ox_35 R) ?_
                          refine rf_bx0 (hS.1 _ _ _ _ R) (fun u72' u72 r72 R_u72 => ?_)
                          exact (yb_Cm_pattern_298 hS hG R_u72)
                        · refine rf_br ?_ ?_
                          · refine rf_ck (ox_35 R) ?_
                            refine rf_bx0 (hS.1 _ _ _ _ R) (fun u73' u73 r73 R_u73 => ?_)
                            exact (yb_Cm_pattern_298 hS hG R_u73)
                          · refine rf_br ?_ ?_
                            · refine rf_ck (ox_35 R) ?_
                              refine rf_bx0 (hS.1 _ _ _ _ R) (fun u74' u74 r74 R_u74 => ?_)
                              exact (yb_Cm_pattern_298 hS hG R_u74)
                            · refine rf_br ?_ ?_
                              · refine rf_ck (ox_35 R) ?_
                                refine rf_bx0 (hS.1 _ _ _ _ R) (fun u75' u75 r75 R_u75 => ?_)
                                exact (yb_Cm_pattern_298 hS hG R_u75)
                              · refine rf_br ?_ ?_
                                · refine rf_ck (ox_35 R) ?_
                                  refine rf_bx0 (hS.1 _ _ _ _ R) (fun u76' u76 r76 R_u76 => ?_)
                                  exact (yb_Cm_pattern_298 hS hG R_u76)
                                · refine rf_br ?_ ?_
                                  · refine rf_bo (rx_35_2 R) ?_
                                    refine rf_so ?_
                                    refine rf_ck (ox_22 R) ?_
                                    refine rf_bx0 (ym_Co_put R) (fun u78' u78 r78 R_u78 => ?_)
                                    refine rf_bo (rx_35_1 R_u78) ?_
                                    refine rf_so ?_
                                    refine rf_bo (rx_15_2 R_u78) ?_
                                    refine rf_bo (rx_35_1 R_u78) ?_
                                    refine rf_so ?_
                                    refine rf_bo (rx_15_2 R_u78) ?_
                                    refine rf_so ?_
                                    refine rf_ai (ax_18 R_u78) ?_
                                    refine rf_so ?_
                                    refine rf_ai (ax_18 R_u78) ?_
                                    refine rf_ck (ox_35 R_u78) ?_
                                    refine rf_bx0 (ym_Cm_term R_u78) (fun u90' u90 r90 R_u90 => ?_)
                                    exact (yb_Cm_pattern_298 hS hG R_u90)
                                  · refine rf_ck (ox_35 R) ?_
                                    refine rf_bx0 (hS.1 _ _ _ _ R) (fun u91' u91 r91 R_u91 => ?_)
                                    exact (yb_Cm_pattern_298 hS hG R_u91)
theorem yg_Cm_pattern {N : Nat} {o : Option Nat} {S : SG_Cm_listPattern} {S' : SF_Cm_listPattern} (hS : SC_Cm_listPattern o S S') : ∀ n, (∀ (c : Nat → Nat) (m : MS) (u : CS) (v2 : Int32), RP o c m u → RF 0 o VE c u ((gg_Cm_pattern N S n) u 35 v2) ((hg_Cm_pattern N S' n) m v2)) := by
  intro n
  induction n with
  | zero => exact fun c m u v2 R => rf_none
  | succ n ih => exact fun c m u v2 R => yb_Cm_pattern_268 (N := N) hS ih R
theorem ym_Cm_pattern {N : Nat} {o : Option Nat} {c : Nat → Nat} {m : MS} {u : CS} {S : SG_Cm_listPattern} {S' : SF_Cm_listPattern} (hS : SC_Cm_listPattern o S S') (R : RP o c m u) {v1 : Int32} : RF 0 o VE c u (fm_Cm_pattern N S u 35 v1) (hm_Cm_pattern N S' m v1) := yb_Cm_pattern_0 (N := N) hS (yg_Cm_pattern (N := N) hS N) R
theorem yrc_Cm_listPattern {N : Nat} {o : Option Nat} : ∀ d, SC_Cm_listPattern o (rc_Cm_listPattern N d) (hrc_Cm_listPattern N d) := by
  intro d
  induction d with
  | zero => exact ⟨fun c m u v1 R => rf_none, fun c m u v1 R => rf_none⟩
  | succ d ih => exact ⟨fun c m u v1 R => ym_Cm_listPattern (N := N) ih R, fun c m u v1 R => ym_Cm_pattern (N := N) ih R⟩
theorem yr_Cm_pattern {N : Nat} {o : Option Nat} {c : Nat → Nat} {m : MS} {u : CS} (R : RP o c m u) {v1 : Int32} : RF 0 o VE c u (fr_Cm_pattern N u 35 v1) (hr_Cm_pattern N m v1) := (yrc_Cm_listPattern (N := N) 300).2 _ _ _ _ R
theorem yb_Cm_notInGuard_14 {N : Nat} {o : Option Nat} {c : Nat → Nat} {m : MS} {u : CS} (R : RP o c m u) : RF 0 o VE c u (fb_Cm_notInGuard_14 N () u) (hb_Cm_notInGuard_14 N () m) := by
  unfold fb_Cm_notInGuard_14 hb_Cm_notInGuard_14
  exact rf_ret R rfl
theorem yb_Cm_notInGuard_0 {N : Nat} {o : Option Nat} {c : Nat → Nat} {m : MS} {u : CS} (R : RP o c m u) {v1 : Int32} : RF 0 o VE c u (fb_Cm_notInGuard_0 N () u 35 v1) (hb_Cm_notInGuard_0 N () m v1) := by
  unfold fb_Cm_notInGuard_0 hb_Cm_notInGuard_0
  refine rf_bo (gx_35_12 R) ?_
  refine rf_br ?_ ?_
  · exact (yb_Cm_notInGuard_14 R)
  · refine rf_ck (ox_35 R) ?_
    refine rf_bx0 (ym_Cm_fault R) (fun u2' u2 r2 R_u2 => ?_)
    exact (yb_Cm_notInGuard_14 R_u2)
theorem ym_Cm_notInGuard {N : Nat} {o : Option Nat} {c : Nat → Nat} {m : MS} {u : CS} (R : RP o c m u) {v1 : Int32} : RF 0 o VE c u (fm_Cm_notInGuard N u 35 v1) (hm_Cm_notInGuard N m v1) := yb_Cm_notInGuard_0 (N := N) R
theorem yb_Cm_joining_106 {N : Nat} {o : Option Nat} {c : Nat → Nat} {m : MS} {u : CS} (R : RP o c m u) {v1 : Int32} : RF 0 o VE c u (fb_Cm_joining_106 N () u 35 v1) (hb_Cm_joining_106 N () m v1) := by
  unfold fb_Cm_joining_106 hb_Cm_joining_106
  refine rf_bo (rx_35_2 R) ?_
  refine rf_so ?_
  refine rf_ck (ox_22 R) ?_
  refine rf_bx0 (ym_Co_put R) (fun u2' u2 r2 R_u2 => ?_)
  exact rf_ret R_u2 rfl
theorem yb_Cm_joining_0 {N : Nat} {o : Option Nat} {c : Nat → Nat} {m : MS} {u : CS} (R : RP o c m u) {v1 : Int32} {v2 : Int32} : RF 0 o VE c u (fb_Cm_joining_0 N () u 35 v1 v2) (hb_Cm_joining_0 N () m v1 v2) := by
  unfold fb_Cm_joining_0 hb_Cm_joining_0
  refine rf_br ?_ ?_
  · refine rf_bo (rx_35_2 R) ?_
    refine rf_so ?_
    refine rf_ck (ox_22 R) ?_
    refine rf_bx0 (ym_Co_put R) (fun u5' u5 r5 R_u5 => ?_)
    exact (yb_Cm_joining_106 R_u5)
  · refine rf_br ?_ ?_
    · refine rf_bo (rx_35_2 R) ?_
      refine rf_so ?_
      refine rf_ck (ox_22 R) ?_
      refine rf_bx0 (ym_Co_put R) (fun u8' u8 r8 R_u8 => ?_)
      exact (yb_Cm_joining_106 R_u8)
    · refine rf_br ?_ ?_
      · refine rf_bo (rx_35_2 R) ?_
        refine rf_so ?_
        refine rf_ck (ox_22 R) ?_
        refine rf_bx0 (ym_Co_put R) (fun u11' u11 r11 R_u11 => ?_)
        exact (yb_Cm_joining_106 R_u11)
      · refine rf_br ?_ ?_
        · refine rf_bo (rx_35_2 R) ?_
          refine rf_so ?_
          refine rf_ck (ox_22 R) ?_
          refine rf_bx0 (ym_Co_put R) (fun u14' u14 r14 R_u14 => ?_)
          exact (yb_Cm_joining_106 R_u14)
        · refine rf_br ?_ ?_
          · refine rf_bo (rx_35_2 R) ?_
            refine rf_so ?_
            refine rf_ck (ox_22 R) ?_
            refine rf_bx0 (ym_Co_put R) (fun u17' u17 r17 R_u17 => ?_)
            exact (yb_Cm_joining_106 R_u17)
          · refine rf_br ?_ ?_
            · refine rf_ck (ox_35 R) ?_
              refine rf_bx0 (ym_Cm_notInGuard R) (fun u19' u19 r19 R_u19 => ?_)
              refine rf_bo (rx_35_2 R_u19) ?_
              refine rf_so ?_
              refine rf_ck (ox_22 R_u19) ?_
              refine rf_bx0 (ym_Co_put R_u19) (fun u21' u21 r21 R_u21 => ?_)
              exact (yb_Cm_joining_106 R_u21)
            · refine rf_br ?_ ?_
              · refine rf_ck (ox_35 R) ?_
                refine rf_bx0 (ym_Cm_notInGuard R) (fun u23' u23 r23 R_u23 => ?_)
                refine rf_bo (rx_35_2 R_u23) ?_
                refine rf_so ?_
                refine rf_ck (ox_22 R_u23) ?_
                refine rf_bx0 (ym_Co_put R_u23) (fun u25' u25 r25 R_u25 => ?_)
                exact (yb_Cm_joining_106 R_u25)
              · refine rf_bo (rx_35_2 R) ?_
                refine rf_so ?_
                refine rf_ck (ox_22 R) ?_
                refine rf_bx0 (ym_Co_put R) (fun u28' u28 r28 R_u28 => ?_)
                exact (yb_Cm_joining_106 R_u28)
theorem ym_Cm_joining {N : Nat} {o : Option Nat} {c : Nat → Nat} {m : MS} {u : CS} (R : RP o c m u) {v1 : Int32} {v2 : Int32} : RF 0 o VE c u (fm_Cm_joining N u 35 v1 v2) (hm_Cm_joining N m v1 v2) := yb_Cm_joining_0 (N := N) R
end
section
set_option maxRecDepth 100000
theorem yb_Cm_funOf_48 {N : Nat} {o : Option Nat} {c : Nat → Nat} {m : MS} {u : CS} (R : RP o c m u) {v2 : Int32} : RF 0 o VE c u (fb_Cm_funOf_48 N () u 35 v2) (hb_Cm_funOf_48 N () m v2) := by
  unfold fb_Cm_funOf_48 hb_Cm_funOf_48
  refine rf_bo (rx_35_2 R) ?_
  refine rf_so ?_
  refine rf_ck (ox_22 R) ?_
  refine rf_bx0 (ym_Co_put R) (fun u2' u2 r2 R_u2 => ?_)
  refine rf_bo (rx_35_2 R_u2) ?_
  refine rf_so ?_
  refine rf_ck (ox_22 R_u2) ?_
  refine rf_bx0 (ym_Co_put R_u2) (fun u5' u5 r5 R_u5 => ?_)
  exact rf_ret R_u5 rfl
theorem yb_Cm_funOf_0 {N : Nat} {o : Option Nat} {c : Nat → Nat} {m : MS} {u : CS} (R : RP o c m u) {v1 : Int32} : RF 0 o VE c u (fb_Cm_funOf_0 N () u 35 v1) (hb_Cm_funOf_0 N () m v1) := by
  unfold fb_Cm_funOf_0 hb_Cm_funOf_0
  refine rf_bo (rx_35_2 R) ?_
  refine rf_bo (rx_35_1 R) ?_
  refine rf_so ?_
  refine rf_bo (rx_15_2 R) ?_
  refine rf_so ?_
  refine rf_ai (ax_18 R) ?_
  refine rf_bo (rx_35_1 R) ?_
  refine rf_so ?_
  refine rf_bo (rx_15_3 R) ?_
  refine rf_so ?_
  refine rf_ai (ax_19 R) ?_
  refine rf_so ?_
  refine rf_ck (ox_22 R) ?_
  refine rf_bx0 (ym_Co_seek R) (fun u18' u18 r18 R_u18 => ?_)
  refine rf_br ?_ ?_
  · refine rf_bo (rx_35_1 R_u18) ?_
    refine rf_so ?_
    refine rf_bo (rx_15_1 R_u18) ?_
    refine rf_so ?_
    refine rf_ai (ax_17 R_u18) ?_
    refine rf_ck (ox_35 R_u18) ?_
    refine rf_bx0 (ym_Cm_fault R_u18) (fun u25' u25 r25 R_u25 => ?_)
    exact (yb_Cm_funOf_48 R_u25)
  · exact (yb_Cm_funOf_48 R_u18)
theorem ym_Cm_funOf {N : Nat} {o : Option Nat} {c : Nat → Nat} {m : MS} {u : CS} (R : RP o c m u) {v1 : Int32} : RF 0 o VE c u (fm_Cm_funOf N u 35 v1) (hm_Cm_funOf N m v1) := yb_Cm_funOf_0 (N := N) R
def SC_Cm_fun (o : Option Nat) (S : SG_Cm_fun) (S' : SF_Cm_fun) : Prop := (∀ (c : Nat → Nat) (m : MS) (u : CS) (v1 : Int32), RP o c m u → RF 0 o VE c u (S.1 u 35 v1) (S'.1 m v1)) ∧ (∀ (c : Nat → Nat) (m : MS) (u : CS) (v1 : Int32) (v2 : Int32), RP o c m u → RF 0 o VE c u (S.2.1 u 35 v1 v2) (S'.2.1 m v1 v2)) ∧ (∀ (c : Nat → Nat) (m : MS) (u : CS) (v1 : Int32) (v2 : Int32) (v3 : Int32) (v4 : Int32), RP o c m u → RF 0 o VE c u (S.2.2.1 u 35 v1 v2 v3 v4) (S'.2.2.1 m v1 v2 v3 v4)) ∧ (∀ (c : Nat → Nat) (m : MS) (u : CS) (v1 : Int32) (v2 : Int32), RP o c m u → RF 0 o VE c u (S.2.2.2.1 u 35 v1 v2) (S'.2.2.2.1 m v1 v2)) ∧ (∀ (c : Nat → Nat) (m : MS) (u : CS) (v1 : Int32) (v2 : Int32), RP o c m u → RF 0 o VE c u (S.2.2.2.2.1 u 35 v1 v2) (S'.2.2.2.2.1 m v1 v2)) ∧ (∀ (c : Nat → Nat) (m : MS) (u : CS) (v1 : Int32) (v2 : Int32), RP o c m u → RF 0 o VE c u (S.2.2.2.2.2.1 u 35 v1 v2) (S'.2.2.2.2.2.1 m v1 v2)) ∧ (∀ (c : Nat → Nat) (m : MS) (u : CS) (v1 : Int32) (v2 : Int32), RP o c m u → RF 0 o VE c u (S.2.2.2.2.2.2.1 u 35 v1 v2) (S'.2.2.2.2.2.2.1 m v1 v2)) ∧ (∀ (c : Nat → Nat) (m : MS) (u : CS) (v1 : Int32), RP o c m u → RF 0 o VE c u (S.2.2.2.2.2.2.2.1 u 35 v1) (S'.2.2.2.2.2.2.2.1 m v1)) ∧ (∀ (c : Nat → Nat) (m : MS) (u : CS) (v1 : Int32), RP o c m u → RF 0 o VE c u (S.2.2.2.2.2.2.2.2.1 u 35 v1) (S'.2.2.2.2.2.2.2.2.1 m v1)) ∧ (∀ (c : Nat → Nat) (m : MS) (u : CS) (v1 : Int32), RP o c m u → RF 0 o VE c u (S.2.2.2.2.2.2.2.2.2.1 u 35 v1) (S'.2.2.2.2.2.2.2.2.2.1 m v1)) ∧ (∀ (c : Nat → Nat) (m : MS) (u : CS) (v1 : Int32) (v2 : Int32), RP o c m u → RF 0 o VE c u (S.2.2.2.2.2.2.2.2.2.2.1 u 35 v1 v2) (S'.2.2.2.2.2.2.2.2.2.2.1 m v1 v2)) ∧ (∀ (c : Nat → Nat) (m : MS) (u : CS) (v1 : Int32) (v2 : Int32), RP o c m u → RF 0 o VE c u (S.2.2.2.2.2.2.2.2.2.2.2.1 u 35 v1 v2) (S'.2.2.2.2.2.2.2.2.2.2.2.1 m v1 v2)) ∧ (∀ (c : Nat → Nat) (m : MS) (u : CS) (v1 : Int32) (v2 : Int32) (v3 : Int32), RP o c m u → RF 0 o VE c u (S.2.2.2.2.2.2.2.2.2.2.2.2 u 35 v1 v2 v3) (S'.2.2.2.2.2.2.2.2.2.2.2.2 m v1 v2 v3))
theorem yb_Cm_fun_308 {N : Nat} {o : Option Nat} {c : Nat → Nat} {m : MS} {u : CS} {S : SG_Cm_fun} {S' : SF_Cm_fun} (hS : SC_Cm_fun o S S') (R : RP o c m u) {t1 : Int32} : RF 0 o VE c u (fb_Cm_fun_308 N S () u 35 t1) (hb_Cm_fun_308 N S' () m t1) := by
  unfold fb_Cm_fun_308 hb_Cm_fun_308
  refine rf_ckk ?_
  refine rf_w (px_35_11 R) (fun w1' w1 R_w1 => ?_)
  exact rf_ret R_w1 rfl
theorem yb_Cm_fun_303 {N : Nat} {o : Option Nat} {c : Nat → Nat} {m : MS} {u : CS} {S : SG_Cm_fun} {S' : SF_Cm_fun} (hS : SC_Cm_fun o S S') (R : RP o c m u) : RF 0 o VE c u (fb_Cm_fun_303 N S () u 35) (hb_Cm_fun_303 N S' () m) := by
  unfold fb_Cm_fun_303 hb_Cm_fun_303
  exact (yb_Cm_fun_308 hS R)
theorem yb_Cm_fun_0 {N : Nat} {o : Option Nat} {c : Nat → Nat} {m : MS} {u : CS} {S : SG_Cm_fun} {S' : SF_Cm_fun} (hS : SC_Cm_fun o S S') (R : RP o c m u) {v1 : Int32} : RF 0 o VE c u (fb_Cm_fun_0 N S () u 35 v1) (hb_Cm_fun_0 N S' () m v1) := by
  unfold fb_Cm_fun_0 hb_Cm_fun_0
  refine rf_bo (rx_35_1 R) ?_
  refine rf_so ?_
  refine rf_bo (rx_15_2 R) ?_
  refine rf_so ?_
  refine rf_ai (ax_18 R) ?_
  refine rf_bo (rx_35_1 R) ?_
  refine rf_so ?_
  refine rf_bo (rx_15_3 R) ?_
  refine rf_so ?_
  refine rf_ai (ax_19 R) ?_
  refine rf_bo (rx_35_1 R) ?_
  refine rf_bo (rx_35_1 R) ?_
  refine rf_so ?_
  refine rf_bo (rx_15_2 R) ?_
  refine rf_so ?_
  refine rf_ai (ax_18 R) ?_
  refine rf_so ?_
  refine rf_ck (ox_15 R) ?_
  refine rf_bx0 (ym_Tr_length R) (fun u18' u18 r18 R_u18 => ?_)
  refine rf_bo (gx_35_12 R_u18) ?_
  refine rf_w (px_35_12 R_u18) (fun w21' w21 R_w21 => ?_)
  refine rf_bo (rx_35_2 R_w21) ?_
  refine rf_so ?_
  refine rf_ck (ox_22 R_w21) ?_
  refine rf_bx0 (ym_Co_put R_w21) (fun u23' u23 r23 R_u23 => ?_)
  refine rf_bo (rx_35_2 R_u23) ?_
  refine rf_so ?_
  refine rf_ck (ox_22 R_u23) ?_
  refine rf_bx0 (ym_Co_hook R_u23) (fun u26' u26 r26 R_u26 => ?_)
  refine rf_bo (rx_35_2 R_u26) ?_
  refine rf_so ?_
  refine rf_bo (rx_22_10 R_u26) ?_
  refine rf_so ?_
  refine rf_wk (sx_30 R_u26) (fun w32' w32 R_w32 => ?_)
  refine rf_bo (rx_35_2 R_w32) ?_
  refine rf_so ?_
  refine rf_bo (rx_22_11 R_w32) ?_
  refine rf_bo (rx_35_2 R_w32) ?_
  refine rf_so ?_
  refine rf_bo (gx_22_1 R_w32) ?_
  refine rf_so ?_
  refine rf_wk (sx_31 R_w32) (fun w40' w40 R_w40 => ?_)
  refine rf_bo (gx_35_9 R_w40) ?_
  refine rf_lt ?_
  refine rf_w (px_35_9 R_w40) (fun w43' w43 R_w43 => ?_)
  refine rf_bo (rx_35_7 R_w43) ?_
  refine rf_bo (gx_35_9 R_w43) ?_
  refine rf_bo (gx_35_6 R_w43) ?_
  refine rf_so ?_
  refine rf_wk (sx_40 R_w43) (fun w48' w48 R_w48 => ?_)
  refine rf_bo (rx_35_8 R_w48) ?_
  refine rf_bo (gx_35_9 R_w48) ?_
  refine rf_so ?_
  refine rf_wk (sx_41 R_w48) (fun w52' w52 R_w52 => ?_)
  refine rf_bo (rx_35_0 R_w52) ?_
  refine rf_so ?_
  refine rf_bo (rx_4_4 R_w52) ?_
  refine rf_bo (rx_35_1 R_w52) ?_
  refine rf_so ?_
  refine rf_bo (rx_15_1 R_w52) ?_
  refine rf_so ?_
  refine rf_ai (ax_17 R_w52) ?_
  refine rf_so ?_
  refine rf_ai (ax_8 R_w52) ?_
  refine rf_ck (ox_35 R_w52) ?_
  refine rf_bx0 (hS.2.2.2.2.2.2.2.2.2.2.2.2 _ _ _ _ _ _ R_w52) (fun u63' u63 r63 R_u63 => ?_)
  refine rf_bo (rx_35_2 R_u63) ?_
  refine rf_so ?_
  refine rf_ck (ox_22 R_u63) ?_
  refine rf_bx0 (ym_Co_put R_u63) (fun u65' u65 r65 R_u65 => ?_)
  refine rf_bo (rx_35_8 R_u65) ?_
  refine rf_bo (gx_35_9 R_u65) ?_
  refine rf_so ?_
  refine rf_ai (ax_41 R_u65) ?_
  refine rf_bo (gx_35_9 R_u65) ?_
  refine rf_w (px_35_9 R_u65) (fun w72' w72 R_w72 => ?_)
  refine rf_ckk ?_
  refine rf_w (px_35_12 R_w72) (fun w73' w73 R_w73 => ?_)
  refine rf_bo (rx_35_2 R_w73) ?_
  refine rf_so ?_
  refine rf_ck (ox_22 R_w73) ?_
  refine rf_bx0 (ym_Co_arrive R_w73) (fun u75' u75 r75 R_u75 => ?_)
  refine rf_bo (rx_35_2 R_u75) ?_
  refine rf_so ?_
  refine rf_ck (ox_22 R_u75) ?_
  refine rf_bx0 (ym_Co_put R_u75) (fun u78' u78 r78 R_u78 => ?_)
  refine rf_bo (rx_35_2 R_u78) ?_
  refine rf_so ?_
  refine rf_ck (ox_22 R_u78) ?_
  refine rf_bx0 (ym_Co_put R_u78) (fun u81' u81 r81 R_u81 => ?_)
  refine rf_bo (rx_35_2 R_u81) ?_
  refine rf_so ?_
  refine rf_bo (rx_22_12 R_u81) ?_
  refine rf_bo (rx_35_2 R_u81) ?_
  refine rf_so ?_
  refine rf_bo (gx_22_1 R_u81) ?_
  refine rf_so ?_
  refine rf_wk (sx_32 R_u81) (fun w90' w90 R_w90 => ?_)
  refine rf_bo (rx_35_2 R_w90) ?_
  refine rf_so ?_
  refine rf_ck (ox_22 R_w90) ?_
  refine rf_bx0 (ym_Co_put R_w90) (fun u92' u92 r92 R_u92 => ?_)
  refine rf_bo (rx_35_1 R_u92) ?_
  refine rf_so ?_
  refine rf_bo (rx_15_1 R_u92) ?_
  refine rf_so ?_
  refine rf_ai (ax_17 R_u92) ?_
  refine rf_bo (rx_35_1 R_u92) ?_
  refine rf_so ?_
  refine rf_bo (rx_15_4 R_u92) ?_
  refine rf_so ?_
  refine rf_ai (ax_20 R_u92) ?_
  refine rf_ck (ox_35 R_u92) ?_
  refine rf_bx0 (ym_Cm_hold R_u92) (fun u104' u104 r104 R_u104 => ?_)
  refine rf_bo (rx_35_2 R_u104) ?_
  refine rf_bo (rx_35_2 R_u104) ?_
  refine rf_so ?_
  refine rf_bo (rx_22_12 R_u104) ?_
  refine rf_so ?_
  refine rf_ai (ax_32 R_u104) ?_
  refine rf_so ?_
  refine rf_ck (ox_22 R_u104) ?_
  refine rf_bx0 (ym_Co_set R_u104) (fun u111' u111 r111 R_u111 => ?_)
  refine rf_bo (gx_35_11 R_u111) ?_
  refine rf_br ?_ ?_
  · refine rf_br ?_ ?_
    · exact (yb_Cm_fun_308 hS R_u111)
    · exact (yb_Cm_fun_303 hS R_u111)
  · exact (yb_Cm_fun_303 hS R_u111)
theorem ym_Cm_fun {N : Nat} {o : Option Nat} {c : Nat → Nat} {m : MS} {u : CS} {S : SG_Cm_fun} {S' : SF_Cm_fun} (hS : SC_Cm_fun o S S') (R : RP o c m u) {v1 : Int32} : RF 0 o VE c u (fm_Cm_fun N S u 35 v1) (hm_Cm_fun N S' m v1) := yb_Cm_fun_0 (N := N) hS R
theorem yb_Cm_receive_173 {N : Nat} {o : Option Nat} {c : Nat → Nat} {m : MS} {u : CS} {S : SG_Cm_fun} {S' : SF_Cm_fun} (hS : SC_Cm_fun o S S') (R : RP o c m u) {v7 : Int32} : RF 0 o VE c u (fb_Cm_receive_173 N S () u 35 v7) (hb_Cm_receive_173 N S' () m v7) := by
  unfold fb_Cm_receive_173 hb_Cm_receive_173
  refine rf_bo (rx_35_2 R) ?_
  refine rf_so ?_
  refine rf_ck (ox_22 R) ?_
  refine rf_bx0 (ym_Co_arrive R) (fun u2' u2 r2 R_u2 => ?_)
  exact rf_ret R_u2 rfl
theorem yb_Cm_receive_71 {N : Nat} {o : Option Nat} {c : Nat → Nat} {m : MS} {u : CS} {S : SG_Cm_fun} {S' : SF_Cm_fun} (hS : SC_Cm_fun o S S') (R : RP o c m u) {v1 : Int32} {v2 : Int32} {v3 : Int32} {v4 : Int32} {t1 : Int32} : RF 0 o VE c u (fb_Cm_receive_71 N S () u 35 v1 v2 v3 v4 (some 22) t1) (hb_Cm_receive_71 N S' () m v1 v2 v3 v4 t1) := by
  unfold fb_Cm_receive_71 hb_Cm_receive_71
  refine rf_so ?_
  refine rf_ck (ox_22 R) ?_
  refine rf_bx0 (ym_Co_put R) (fun u4' u4 r4 R_u4 => ?_)
  refine rf_bo (rx_35_2 R_u4) ?_
  refine rf_so ?_
  refine rf_bo (gx_22_1 R_u4) ?_
  refine rf_bo (rx_35_2 R_u4) ?_
  refine rf_so ?_
  refine rf_ck (ox_22 R_u4) ?_
  refine rf_bx0 (ym_Co_put R_u4) (fun u10' u10 r10 R_u10 => ?_)
  refine rf_bo (rx_35_2 R_u10) ?_
  refine rf_so ?_
  refine rf_ck (ox_22 R_u10) ?_
  refine rf_bx0 (ym_Co_hook R_u10) (fun u13' u13 r13 R_u13 => ?_)
  refine rf_bo (rx_35_1 R_u13) ?_
  refine rf_so ?_
  refine rf_bo (rx_15_3 R_u13) ?_
  refine rf_so ?_
  refine rf_ai (ax_19 R_u13) ?_
  refine rf_ck (ox_35 R_u13) ?_
  refine rf_bx0 (hS.2.2.1 _ _ _ _ _ _ _ R_u13) (fun u20' u20 r20 R_u20 => ?_)
  refine rf_bo (rx_35_2 R_u20) ?_
  refine rf_so ?_
  refine rf_ck (ox_22 R_u20) ?_
  refine rf_bx0 (ym_Co_put R_u20) (fun u22' u22 r22 R_u22 => ?_)
  refine rf_bo (rx_35_2 R_u22) ?_
  refine rf_so ?_
  refine rf_ck (ox_22 R_u22) ?_
  refine rf_bx0 (ym_Co_put R_u22) (fun u25' u25 r25 R_u25 => ?_)
  refine rf_bo (rx_35_2 R_u25) ?_
  refine rf_so ?_
  refine rf_ck (ox_22 R_u25) ?_
  refine rf_bx0 (ym_Co_arrive R_u25) (fun u28' u28 r28 R_u28 => ?_)
  refine rf_br ?_ ?_
  · exact (yb_Cm_receive_173 hS R_u28)
  · refine rf_bo (rx_35_1 R_u28) ?_
    refine rf_so ?_
    refine rf_bo (rx_15_4 R_u28) ?_
    refine rf_so ?_
    refine rf_ai (ax_20 R_u28) ?_
    refine rf_ck (ox_35 R_u28) ?_
    refine rf_bx0 (hS.2.2.2.1 _ _ _ _ _ R_u28) (fun u35' u35 r35 R_u35 => ?_)
    refine rf_ck (ox_35 R_u35) ?_
    refine rf_bx0 (ym_Cm_forget R_u35) (fun u36' u36 r36 R_u36 => ?_)
    exact (yb_Cm_receive_173 hS R_u36)
theorem yb_Cm_receive_48 {N : Nat} {o : Option Nat} {c : Nat → Nat} {m : MS} {u : CS} {S : SG_Cm_fun} {S' : SF_Cm_fun} (hS : SC_Cm_fun o S S') (R : RP o c m u) {v1 : Int32} {v2 : Int32} {v3 : Int32} {v4 : Int32} : RF 0 o VE c u (fb_Cm_receive_48 N S () u 35 v1 v2 v3 v4) (hb_Cm_receive_48 N S' () m v1 v2 v3 v4) := by
  unfold fb_Cm_receive_48 hb_Cm_receive_48
  refine rf_bo (rx_35_2 R) ?_
  refine rf_so ?_
  refine rf_ck (ox_22 R) ?_
  refine rf_bx0 (ym_Co_put R) (fun u38' u38 r38 R_u38 => ?_)
  refine rf_bo (rx_35_2 R_u38) ?_
  refine rf_br ?_ ?_
  · exact (yb_Cm_receive_71 hS R_u38)
  · exact (yb_Cm_receive_71 hS R_u38)
theorem yb_Cm_receive_22 {N : Nat} {o : Option Nat} {c : Nat → Nat} {m : MS} {u : CS} {S : SG_Cm_fun} {S' : SF_Cm_fun} (hS : SC_Cm_fun o S S') (R : RP o c m u) {v1 : Int32} {v2 : Int32} {v3 : Int32} {t0 : Int32} : RF 0 o VE c u (fb_Cm_receive_22 N S () u 35 v1 v2 v3 t0) (hb_Cm_receive_22 N S' () m v1 v2 v3 t0) := by
  unfold fb_Cm_receive_22 hb_Cm_receive_22
  refine rf_br ?_ ?_
  · exact (yb_Cm_receive_48 hS R)
  · refine rf_bo (rx_35_1 R) ?_
    refine rf_so ?_
    refine rf_bo (rx_15_2 R) ?_
    refine rf_so ?_
    refine rf_ai (ax_18 R) ?_
    refine rf_ck (ox_35 R) ?_
    refine rf_bx0 (hS.2.2.2.2.2.2.2.2.2.2.1 _ _ _ _ _ R) (fun u46' u46 r46 R_u46 => ?_)
    refine rf_ck (ox_35 R_u46) ?_
    refine rf_bx0 (ym_Cm_forget R_u46) (fun u47' u47 r47 R_u47 => ?_)
    exact (yb_Cm_receive_48 hS R_u47)
theorem yb_Cm_receive_0 {N : Nat} {o : Option Nat} {c : Nat → Nat} {m : MS} {u : CS} {S : SG_Cm_fun} {S' : SF_Cm_fun} (hS : SC_Cm_fun o S S') (R : RP o c m u) {v1 : Int32} {v2 : Int32} : RF 0 o VE c u (fb_Cm_receive_0 N S () u 35 v1 v2) (hb_Cm_receive_0 N S' () m v1 v2) := by
  unfold fb_Cm_receive_0 hb_Cm_receive_0
  refine rf_bo (gx_35_6 R) ?_
  refine rf_bo (rx_35_1 R) ?_
  refine rf_so ?_
  refine rf_bo (rx_15_2 R) ?_
  refine rf_so ?_
  refine rf_ai (ax_18 R) ?_
  refine rf_br ?_ ?_
  · exact (yb_Cm_receive_22 hS R)
  · exact (yb_Cm_receive_22 hS R)
theorem ym_Cm_receive {N : Nat} {o : Option Nat} {c : Nat → Nat} {m : MS} {u : CS} {S : SG_Cm_fun} {S' : SF_Cm_fun} (hS : SC_Cm_fun o S S') (R : RP o c m u) {v1 : Int32} {v2 : Int32} : RF 0 o VE c u (fm_Cm_receive N S u 35 v1 v2) (hm_Cm_receive N S' m v1 v2) := yb_Cm_receive_0 (N := N) hS R
theorem yb_Cm_parts_38 {N : Nat} {o : Option Nat} {c : Nat → Nat} {m : MS} {u : CS} {S : SG_Cm_fun} {S' : SF_Cm_fun} {G : (CS → Nat → Int32 → Int32 → Int32 → Int32 → Int32 → Option (CS × Int32))} {G' : (MS → Int32 → Int32 → Int32 → Int32 → Int32 → Option (MS × Int32))} (hS : SC_Cm_fun o S S') (hG : ∀ (c : Nat → Nat) (m : MS) (u : CS) (v2 : Int32) (v3 : Int32) (v4 : Int32) (v5 : Int32) (v6 : Int32), RP o c m u → RF 0 o VE c u (G u 35 v2 v3 v4 v5 v6) (G' m v2 v3 v4 v5 v6)) (R : RP o c m u) {v2 : Int32} {v3 : Int32} {v4 : Int32} {v5 : Int32} {v6 : Int32} {v7 : Int32} {v8 : Int32} : RF 0 o VE c u (fb_Cm_parts_38 N S G u 35 v2 v3 v4 v5 v6 v7 v8) (hb_Cm_parts_38 N S' G' m v2 v3 v4 v5 v6 v7 v8) := by
  unfold fb_Cm_parts_38 hb_Cm_parts_38
  refine rf_bo (rx_35_1 R) ?_
  refine rf_so ?_
  refine rf_bo (rx_15_4 R) ?_
  refine rf_so ?_
  refine rf_ai (ax_20 R) ?_
  refine rf_ck (ox_35 R) ?_
  refine rf_bx0 (hS.2.2.2.1 _ _ _ _ _ R) (fun u6' u6 r6 R_u6 => ?_)
  refine rf_ck (ox_35 R_u6) ?_
  refine rf_bx0 (ym_Cm_forget R_u6) (fun u7' u7 r7 R_u7 => ?_)
  refine rf_bo (rx_35_2 R_u7) ?_
  refine rf_so ?_
  refine rf_ck (ox_22 R_u7) ?_
  refine rf_bx0 (ym_Co_put R_u7) (fun u9' u9 r9 R_u9 => ?_)
  refine rf_bo (rx_35_2 R_u9) ?_
  refine rf_so ?_
  refine rf_ck (ox_22 R_u9) ?_
  refine rf_bx0 (ym_Co_hook R_u9) (fun u12' u12 r12 R_u12 => ?_)
  refine rf_bo (rx_35_2 R_u12) ?_
  refine rf_so ?_
  refine rf_ck (ox_22 R_u12) ?_
  refine rf_bx0 (ym_Co_arrive R_u12) (fun u15' u15 r15 R_u15 => ?_)
  refine rf_bo (rx_35_1 R_u15) ?_
  refine rf_so ?_
  refine rf_bo (rx_15_5 R_u15) ?_
  refine rf_so ?_
  refine rf_ai (ax_21 R_u15) ?_
  exact (hG _ _ _ _ _ _ _ _ R_u15)
theorem yb_Cm_parts_6 {N : Nat} {o : Option Nat} {c : Nat → Nat} {m : MS} {u : CS} {S : SG_Cm_fun} {S' : SF_Cm_fun} {G : (CS → Nat → Int32 → Int32 → Int32 → Int32 → Int32 → Option (CS × Int32))} {G' : (MS → Int32 → Int32 → Int32 → Int32 → Int32 → Option (MS × Int32))} (hS : SC_Cm_fun o S S') (hG : ∀ (c : Nat → Nat) (m : MS) (u : CS) (v2 : Int32) (v3 : Int32) (v4 : Int32) (v5 : Int32) (v6 : Int32), RP o c m u → RF 0 o VE c u (G u 35 v2 v3 v4 v5 v6) (G' m v2 v3 v4 v5 v6)) (R : RP o c m u) {v2 : Int32} {v3 : Int32} {v4 : Int32} {v5 : Int32} {v6 : Int32} : RF 0 o VE c u (fb_Cm_parts_6 N S G u 35 v2 v3 v4 v5 v6) (hb_Cm_parts_6 N S' G' m v2 v3 v4 v5 v6) := by
  unfold fb_Cm_parts_6 hb_Cm_parts_6
  refine rf_br ?_ ?_
  · exact rf_ret R rfl
  · refine rf_bo (gx_35_6 R) ?_
    refine rf_ck (ox_35 R) ?_
    refine rf_bx0 (hS.2.2.2.2.2.2.2.2.2.2.2.1 _ _ _ _ _ R) (fun u23' u23 r23 R_u23 => ?_)
    refine rf_br ?_ ?_
    · exact (yb_Cm_parts_38 hS hG R_u23)
    · refine rf_bo (rx_35_2 R_u23) ?_
      refine rf_so ?_
      refine rf_ck (ox_22 R_u23) ?_
      refine rf_bx0 (ym_Co_put R_u23) (fun u25' u25 r25 R_u25 => ?_)
      exact (yb_Cm_parts_38 hS hG R_u25)
theorem yb_Cm_parts_0 {N : Nat} {o : Option Nat} {c : Nat → Nat} {m : MS} {u : CS} {S : SG_Cm_fun} {S' : SF_Cm_fun} {G : (CS → Nat → Int32 → Int32 → Int32 → Int32 → Int32 → Option (CS × Int32))} {G' : (MS → Int32 → Int32 → Int32 → Int32 → Int32 → Option (MS × Int32))} (hS : SC_Cm_fun o S S') (hG : ∀ (c : Nat → Nat) (m : MS) (u : CS) (v2 : Int32) (v3 : Int32) (v4 : Int32) (v5 : Int32) (v6 : Int32), RP o c m u → RF 0 o VE c u (G u 35 v2 v3 v4 v5 v6) (G' m v2 v3 v4 v5 v6)) (R : RP o c m u) {v1 : Int32} {v2 : Int32} {v3 : Int32} {v4 : Int32} : RF 0 o VE c u (fb_Cm_parts_0 N S G u 35 v1 v2 v3 v4) (hb_Cm_parts_0 N S' G' m v1 v2 v3 v4) := by
  unfold fb_Cm_parts_0 hb_Cm_parts_0
  exact (hG _ _ _ _ _ _ _ _ R)
theorem yg_Cm_parts {N : Nat} {o : Option Nat} {S : SG_Cm_fun} {S' : SF_Cm_fun} (hS : SC_Cm_fun o S S') : ∀ n, (∀ (c : Nat → Nat) (m : MS) (u : CS) (v2 : Int32) (v3 : Int32) (v4 : Int32) (v5 : Int32) (v6 : Int32), RP o c m u → RF 0 o VE c u ((gg_Cm_parts N S n) u 35 v2 v3 v4 v5 v6) ((hg_Cm_parts N S' n) m v2 v3 v4 v5 v6)) := by
  intro n
  induction n with
  | zero => exact fun c m u v2 v3 v4 v5 v6 R => rf_none
  | succ n ih => exact fun c m u v2 v3 v4 v5 v6 R => yb_Cm_parts_6 (N := N) hS ih R
theorem ym_Cm_parts {N : Nat} {o : Option Nat} {c : Nat → Nat} {m : MS} {u : CS} {S : SG_Cm_fun} {S' : SF_Cm_fun} (hS : SC_Cm_fun o S S') (R : RP o c m u) {v1 : Int32} {v2 : Int32} {v3 : Int32} {v4 : Int32} : RF 0 o VE c u (fm_Cm_parts N S u 35 v1 v2 v3 v4) (hm_Cm_parts N S' m v1 v2 v3 v4) := yb_Cm_parts_0 (N := N) hS (yg_Cm_parts (N := N) hS N) R
theorem yb_Cm_body_58 {N : Nat} {o : Option Nat} {c : Nat → Nat} {m : MS} {u : CS} {S : SG_Cm_fun} {S' : SF_Cm_fun} {G : (CS → Nat → Int32 → Int32 → Option (CS × Unit))} {G' : (MS → Int32 → Int32 → Option (MS × Unit))} (hS : SC_Cm_fun o S S') (hG : ∀ (c : Nat → Nat) (m : MS) (u : CS) (v2 : Int32) (v3 : Int32), RP o c m u → RF 0 o VE c u (G u 35 v2 v3) (G' m v2 v3)) (R : RP o c m u) {v2 : Int32} {v3 : Int32} : RF 0 o VE c u (fb_Cm_body_58 N S G u 35 v2 v3) (hb_Cm_body_58 N S' G' m v2 v3) := by
  unfold fb_Cm_body_58 hb_Cm_body_58
  refine rf_bo (rx_35_1 R) ?_
  refine rf_so ?_
  refine rf_bo (rx_15_5 R) ?_
  refine rf_so ?_
  refine rf_ai (ax_21 R) ?_
  exact (hG _ _ _ _ _ R)
theorem yb_Cm_body_41 {N : Nat} {o : Option Nat} {c : Nat → Nat} {m : MS} {u : CS} {S : SG_Cm_fun} {S' : SF_Cm_fun} {G : (CS → Nat → Int32 → Int32 → Option (CS × Unit))} {G' : (MS → Int32 → Int32 → Option (MS × Unit))} (hS : SC_Cm_fun o S S') (hG : ∀ (c : Nat → Nat) (m : MS) (u : CS) (v2 : Int32) (v3 : Int32), RP o c m u → RF 0 o VE c u (G u 35 v2 v3) (G' m v2 v3)) (R : RP o c m u) {v2 : Int32} {v3 : Int32} {v4 : Int32} {t1 : Int32} {t2 : Int32} : RF 0 o VE c u (fb_Cm_body_41 N S G u 35 v2 v3 v4 35 t1 t2) (hb_Cm_body_41 N S' G' m v2 v3 v4 t1 t2) := by
  unfold fb_Cm_body_41 hb_Cm_body_41
  refine rf_ck (ox_35 R) ?_
  refine rf_bx0 (hS.2.2.2.2.2.2.2.2.2.2.1 _ _ _ _ _ R) (fun u6' u6 r6 R_u6 => ?_)
  refine rf_br ?_ ?_
  · exact (yb_Cm_body_58 hS hG R_u6)
  · refine rf_bo (rx_35_2 R_u6) ?_
    refine rf_so ?_
    refine rf_ck (ox_22 R_u6) ?_
    refine rf_bx0 (ym_Co_put R_u6) (fun u8' u8 r8 R_u8 => ?_)
    exact (yb_Cm_body_58 hS hG R_u8)
theorem yb_Cm_body_40 {N : Nat} {o : Option Nat} {c : Nat → Nat} {m : MS} {u : CS} {S : SG_Cm_fun} {S' : SF_Cm_fun} {G : (CS → Nat → Int32 → Int32 → Option (CS × Unit))} {G' : (MS → Int32 → Int32 → Option (MS × Unit))} (hS : SC_Cm_fun o S S') (hG : ∀ (c : Nat → Nat) (m : MS) (u : CS) (v2 : Int32) (v3 : Int32), RP o c m u → RF 0 o VE c u (G u 35 v2 v3) (G' m v2 v3)) (R : RP o c m u) {v2 : Int32} {v3 : Int32} {v4 : Int32} {t1 : Int32} : RF 0 o VE c u (fb_Cm_body_40 N S G u 35 v2 v3 v4 35 t1) (hb_Cm_body_40 N S' G' m v2 v3 v4 t1) := by
  unfold fb_Cm_body_40 hb_Cm_body_40
  exact (yb_Cm_body_41 hS hG R)
theorem yb_Cm_body_23 {N : Nat} {o : Option Nat} {c : Nat → Nat} {m : MS} {u : CS} {S : SG_Cm_fun} {S' : SF_Cm_fun} {G : (CS → Nat → Int32 → Int32 → Option (CS × Unit))} {G' : (MS → Int32 → Int32 → Option (MS × Unit))} (hS : SC_Cm_fun o S S') (hG : ∀ (c : Nat → Nat) (m : MS) (u : CS) (v2 : Int32) (v3 : Int32), RP o c m u → RF 0 o VE c u (G u 35 v2 v3) (G' m v2 v3)) (R : RP o c m u) {v2 : Int32} {v3 : Int32} {t0 : Int32} : RF 0 o VE c u (fb_Cm_body_23 N S G u 35 v2 v3 t0) (hb_Cm_body_23 N S' G' m v2 v3 t0) := by
  unfold fb_Cm_body_23 hb_Cm_body_23
  refine rf_br ?_ ?_
  · exact (yb_Cm_body_40 hS hG R)
  · refine rf_br ?_ ?_
    · exact (yb_Cm_body_41 hS hG R)
    · exact (yb_Cm_body_40 hS hG R)
theorem yb_Cm_body_2 {N : Nat} {o : Option Nat} {c : Nat → Nat} {m : MS} {u : CS} {S : SG_Cm_fun} {S' : SF_Cm_fun} {G : (CS → Nat → Int32 → Int32 → Option (CS × Unit))} {G' : (MS → Int32 → Int32 → Option (MS × Unit))} (hS : SC_Cm_fun o S S') (hG : ∀ (c : Nat → Nat) (m : MS) (u : CS) (v2 : Int32) (v3 : Int32), RP o c m u → RF 0 o VE c u (G u 35 v2 v3) (G' m v2 v3)) (R : RP o c m u) {v2 : Int32} {v3 : Int32} : RF 0 o VE c u (fb_Cm_body_2 N S G u 35 v2 v3) (hb_Cm_body_2 N S' G' m v2 v3) := by
  unfold fb_Cm_body_2 hb_Cm_body_2
  refine rf_br ?_ ?_
  · exact rf_ret R rfl
  · refine rf_bo (rx_35_1 R) ?_
    refine rf_so ?_
    refine rf_bo (rx_15_5 R) ?_
    refine rf_so ?_
    refine rf_ai (ax_21 R) ?_
    refine rf_br ?_ ?_
    · exact (yb_Cm_body_23 hS hG R)
    · exact (yb_Cm_body_23 hS hG R)
theorem yb_Cm_body_0 {N : Nat} {o : Option Nat} {c : Nat → Nat} {m : MS} {u : CS} {S : SG_Cm_fun} {S' : SF_Cm_fun} {G : (CS → Nat → Int32 → Int32 → Option (CS × Unit))} {G' : (MS → Int32 → Int32 → Option (MS × Unit))} (hS : SC_Cm_fun o S S') (hG : ∀ (c : Nat → Nat) (m : MS) (u : CS) (v2 : Int32) (v3 : Int32), RP o c m u → RF 0 o VE c u (G u 35 v2 v3) (G' m v2 v3)) (R : RP o c m u) {v1 : Int32} {v2 : Int32} : RF 0 o VE c u (fb_Cm_body_0 N S G u 35 v1 v2) (hb_Cm_body_0 N S' G' m v1 v2) := by
  unfold fb_Cm_body_0 hb_Cm_body_0
  exact (hG _ _ _ _ _ R)
theorem yg_Cm_body {N : Nat} {o : Option Nat} {S : SG_Cm_fun} {S' : SF_Cm_fun} (hS : SC_Cm_fun o S S') : ∀ n, (∀ (c : Nat → Nat) (m : MS) (u : CS) (v2 : Int32) (v3 : Int32), RP o c m u → RF 0 o VE c u ((gg_Cm_body N S n) u 35 v2 v3) ((hg_Cm_body N S' n) m v2 v3)) := by
  intro n
  induction n with
  | zero => exact fun c m u v2 v3 R => rf_none
  | succ n ih => exact fun c m u v2 v3 R => yb_Cm_body_2 (N := N) hS ih R
theorem ym_Cm_body {N : Nat} {o : Option Nat} {c : Nat → Nat} {m : MS} {u : CS} {S : SG_Cm_fun} {S' : SF_Cm_fun} (hS : SC_Cm_fun o S S') (R : RP o c m u) {v1 : Int32} {v2 : Int32} : RF 0 o VE c u (fm_Cm_body N S u 35 v1 v2) (hm_Cm_body N S' m v1 v2) := yb_Cm_body_0 (N := N) hS (yg_Cm_body (N := N) hS N) R
theorem yb_Cm_compound_455 {N : Nat} {o : Option Nat} {c : Nat → Nat} {m : MS} {u : CS} {S : SG_Cm_fun} {S' : SF_Cm_fun} (hS : SC_Cm_fun o S S') (R : RP o c m u) : RF 0 o VE c u (fb_Cm_compound_455 N S () u) (hb_Cm_compound_455 N S' () m) := by
  unfold fb_Cm_compound_455 hb_Cm_compound_455
  exact rf_ret R rfl
theorem yb_Cm_compound_72 {N : Nat} {o : Option Nat} {c : Nat → Nat} {m : MS} {u : CS} {S : SG_Cm_fun} {S' : SF_Cm_fun} (hS : SC_Cm_fun o S S') (R : RP o c m u) {t1 : Int32} : RF 0 o VE c u (fb_Cm_compound_72 N S () u (some 22) t1) (hb_Cm_compound_72 N S' () m t1) := by
  unfold fb_Cm_compound_72 hb_Cm_compound_72
  refine rf_so ?_
  refine rf_ck (ox_22 R) ?_
  refine rf_bx0 (ym_Co_put R) (fun u1' u1 r1 R_u1 => ?_)
  exact rf_ret R_u1 rfl
theorem yb_Cm_compound_33 {N : Nat} {o : Option Nat} {c : Nat → Nat} {m : MS} {u : CS} {S : SG_Cm_fun} {S' : SF_Cm_fun} (hS : SC_Cm_fun o S S') (R : RP o c m u) {v1 : Int32} : RF 0 o VE c u (fb_Cm_compound_33 N S () u 35 v1) (hb_Cm_compound_33 N S' () m v1) := by
  unfold fb_Cm_compound_33 hb_Cm_compound_33
  refine rf_bo (rx_35_1 R) ?_
  refine rf_so ?_
  refine rf_bo (rx_15_2 R) ?_
  refine rf_so ?_
  refine rf_ai (ax_18 R) ?_
  refine rf_ck (ox_35 R) ?_
  refine rf_bx0 (hS.2.2.2.2.2.2.2.2.2.2.1 _ _ _ _ _ R) (fun u8' u8 r8 R_u8 => ?_)
  refine rf_bo (rx_35_2 R_u8) ?_
  refine rf_bo (rx_35_1 R_u8) ?_
  refine rf_so ?_
  refine rf_bo (rx_15_0 R_u8) ?_
  refine rf_so ?_
  refine rf_ai (ax_16 R_u8) ?_
  refine rf_br ?_ ?_
  · exact (yb_Cm_compound_72 hS R_u8)
  · exact (yb_Cm_compound_72 hS R_u8)
theorem yb_Cm_compound_0 {N : Nat} {o : Option Nat} {c : Nat → Nat} {m : MS} {u : CS} {S : SG_Cm_fun} {S' : SF_Cm_fun} (hS : SC_Cm_fun o S S') (R : RP o c m u) {v1 : Int32} {v2 : Int32} : RF 0 o VE c u (fb_Cm_compound_0 N S () u 35 v1 v2) (hb_Cm_compound_0 N S' () m v1 v2) := by
  unfold fb_Cm_compound_0 hb_Cm_compound_0
  refine rf_bo (gx_35_6 R) ?_
  refine rf_bo (rx_35_1 R) ?_
  refine rf_so ?_
  refine rf_bo (rx_15_0 R) ?_
  refine rf_so ?_
  refine rf_ai (ax_16 R) ?_
  refine rf_br ?_ ?_
  · exact (yb_Cm_compound_33 hS R)
  · refine rf_bo (rx_35_1 R) ?_
    refine rf_so ?_
    refine rf_bo (rx_15_0 R) ?_
    refine rf_so ?_
    refine rf_ai (ax_16 R) ?_
    refine rf_br ?_ ?_
    · exact (yb_Cm_compound_33 hS R)
    · refine rf_bo (rx_35_1 R) ?_
      refine rf_so ?_
      refine rf_bo (rx_15_1 R) ?_
      refine rf_so ?_
      refine rf_ai (ax_17 R) ?_
      refine rf_ck (ox_35 R) ?_
      refine rf_bx0 (ym_Cm_notInGuard R) (fun u31' u31 r31 R_u31 => ?_)
      refine rf_bo (rx_35_1 R_u31) ?_
      refine rf_so ?_
      refine rf_bo (rx_15_0 R_u31) ?_
      refine rf_so ?_
      refine rf_ai (ax_16 R_u31) ?_
      refine rf_br ?_ ?_
      · refine rf_bo (rx_35_1 R_u31) ?_
        refine rf_so ?_
        refine rf_bo (rx_15_2 R_u31) ?_
        refine rf_so ?_
        refine rf_ai (ax_18 R_u31) ?_
        refine rf_ck (ox_35 R_u31) ?_
        refine rf_bx0 (hS.2.2.2.1 _ _ _ _ _ R_u31) (fun u42' u42 r42 R_u42 => ?_)
        refine rf_ck (ox_35 R_u42) ?_
        refine rf_bx0 (ym_Cm_forget R_u42) (fun u43' u43 r43 R_u43 => ?_)
        exact (yb_Cm_compound_455 hS R_u43)
      · refine rf_br ?_ ?_
        · refine rf_bo (rx_35_1 R_u31) ?_
          refine rf_so ?_
          refine rf_bo (rx_15_2 R_u31) ?_
          refine rf_so ?_
          refine rf_ai (ax_18 R_u31) ?_
          refine rf_ck (ox_35 R_u31) ?_
          refine rf_bx0 (hS.2.2.2.2.2.2.2.2.2.2.1 _ _ _ _ _ R_u31) (fun u49' u49 r49 R_u49 => ?_)
          refine rf_bo (rx_35_1 R_u49) ?_
          refine rf_so ?_
          refine rf_bo (rx_15_3 R_u49) ?_
          refine rf_so ?_
          refine rf_ai (ax_19 R_u49) ?_
          refine rf_ck (ox_35 R_u49) ?_
          refine rf_bx0 (hS.2.2.1 _ _ _ _ _ _ _ R_u49) (fun u55' u55 r55 R_u55 => ?_)
          refine rf_bo (rx_35_2 R_u55) ?_
          refine rf_so ?_
          refine rf_ck (ox_22 R_u55) ?_
          refine rf_bx0 (ym_Co_put R_u55) (fun u57' u57 r57 R_u57 => ?_)
          refine rf_bo (rx_35_2 R_u57) ?_
          refine rf_so ?_
          refine rf_ck (ox_22 R_u57) ?_
          refine rf_bx0 (ym_Co_arrive R_u57) (fun u60' u60 r60 R_u60 => ?_)
          exact (yb_Cm_compound_455 hS R_u60)
        · refine rf_br ?_ ?_
          · refine rf_bo (rx_35_1 R_u31) ?_
            refine rf_so ?_
            refine rf_bo (rx_15_3 R_u31) ?_
            refine rf_so ?_
            refine rf_ai (ax_19 R_u31) ?_
            refine rf_ck (ox_35 R_u31) ?_
            refine rf_bx0 (hS.2.2.1 _ _ _ _ _ _ _ R_u31) (fun u67' u67 r67 R_u67 => ?_)
            refine rf_bo (rx_35_2 R_u67) ?_
            refine rf_so ?_
            refine rf_ck (ox_22 R_u67) ?_
            refine rf_bx0 (ym_Co_put R_u67) (fun u69' u69 r69 R_u69 => ?_)
            refine rf_bo (rx_35_2 R_u69) ?_
            refine rf_so ?_
            refine rf_ck (ox_22 R_u69) ?_
            refine rf_bx0 (ym_Co_arrive R_u69) (fun u72' u72 r72 R_u72 => ?_)
            exact (yb_Cm_compound_455 hS R_u72)
          · refine rf_br ?_ ?_
            · refine rf_ck (ox_35 R_u31) ?_
              refine rf_bx0 (hS.2.1 _ _ _ _ _ R_u31) (fun u74' u74 r74 R_u74 => ?_)
              exact (yb_Cm_compound_455 hS R_u74)
            · refine rf_br ?_ ?_
              · refine rf_ck (ox_35 R_u31) ?_
                refine rf_bx0 (hS.1 _ _ _ _ R_u31) (fun u75' u75 r75 R_u75 => ?_)
                exact (yb_Cm_compound_455 hS R_u75)
              · refine rf_br ?_ ?_
                · refine rf_ck (ox_35 R_u31) ?_
                  refine rf_bx0 (ym_Cm_funOf R_u31) (fun u76' u76 r76 R_u76 => ?_)
                  exact (yb_Cm_compound_455 hS R_u76)
                · refine rf_br ?_ ?_
                  · exact (yb_Cm_compound_455 hS R_u31)
                  · refine rf_br ?_ ?_
                    · exact (yb_Cm_compound_455 hS R_u31)
                    · refine rf_br ?_ ?_
                      · exact (yb_Cm_compound_455 hS R_u31)
                      · refine rf_br ?_ ?_
                        · exact (yb_Cm_compound_455 hS R_u31)
                        · refine rf_br ?_ ?_
                          · exact (yb_Cm_compound_455 hS R_u31)
                          · refine rf_br ?_ ?_
                            · refine rf_bo (rx_35_2 R_u31) ?_
                              refine rf_so ?_
                              refine rf_ck (ox_22 R_u31) ?_
                              refine rf_bx0 (ym_Co_put R_u31) (fun u78' u78 r78 R_u78 => ?_)
                              refine rf_bo (rx_35_2 R_u78) ?_
                              refine rf_so ?_
                              refine rf_ck (ox_22 R_u78) ?_
                              refine rf_bx0 (ym_Co_hook R_u78) (fun u81' u81 r81 R_u81 => ?_)
                              refine rf_bo (rx_35_1 R_u81) ?_
                              refine rf_so ?_
                              refine rf_bo (rx_15_2 R_u81) ?_
                              refine rf_so ?_
                              refine rf_ai (ax_18 R_u81) ?_
                              refine rf_ck (ox_35 R_u81) ?_
                              refine rf_bx0 (hS.2.2.2.2.2.2.2.2.2.2.1 _ _ _ _ _ R_u81) (fun u88' u88 r88 R_u88 => ?_)
                              refine rf_bo (rx_35_2 R_u88) ?_
                              refine rf_so ?_
                              refine rf_ck (ox_22 R_u88) ?_
                              refine rf_bx0 (ym_Co_put R_u88) (fun u90' u90 r90 R_u90 => ?_)
                              refine rf_ck (ox_35 R_u90) ?_
                              refine rf_bx0 (ym_Cm_forget R_u90) (fun u92' u92 r92 R_u92 => ?_)
                              refine rf_bo (rx_35_2 R_u92) ?_
                              refine rf_so ?_
                              refine rf_ck (ox_22 R_u92) ?_
                              refine rf_bx0 (ym_Co_arrive R_u92) (fun u94' u94 r94 R_u94 => ?_)
                              exact (yb_Cm_compound_455 hS R_u94)
                            · refine rf_br ?_ ?_
                              · refine rf_bo (rx_35_1 R_u31) ?_
                                refine rf_so ?_
                                refine rf_bo (rx_15_3 R_u31) ?_
                                refine rf_so ?_
                                refine rf_ai (ax_19 R_u31) ?_
                                refine rf_ck (ox_35 R_u31) ?_
                                refine rf_bx0 (hS.2.2.2.2.2.2.2.2.2.2.1 _ _ _ _ _ R_u31) (fun u101' u101 r101 R_u101 => ?_)
                                refine rf_bo (rx_35_2 R_u101) ?_
                                refine rf_so ?_
                                refine rf_ck (ox_22 R_u101) ?_
                                refine rf_bx0 (ym_Co_put R_u101) (fun u103' u103 r103 R_u103 => ?_)
                                refine rf_bo (rx_35_1 R_u103) ?_
                                refine rf_so ?_
                                refine rf_bo (rx_15_2 R_u103) ?_
                                refine rf_so ?_
                                refine rf_ai (ax_18 R_u103) ?_
                                refine rf_ck (ox_35 R_u103) ?_
                                refine rf_bx0 (yr_Cm_pattern R_u103) (fun u110' u110 r110 R_u110 => ?_)
                                refine rf_bo (rx_35_2 R_u110) ?_
                                refine rf_so ?_
                                refine rf_ck (ox_22 R_u110) ?_
                                refine rf_bx0 (ym_Co_put R_u110) (fun u112' u112 r112 R_u112 => ?_)
                                exact (yb_Cm_compound_455 hS R_u112)
                              · refine rf_br ?_ ?_
                                · refine rf_bo (rx_35_1 R_u31) ?_
                                  refine rf_so ?_
                                  refine rf_bo (rx_15_2 R_u31) ?_
                                  refine rf_so ?_
                                  refine rf_ai (ax_18 R_u31) ?_
                                  refine rf_ck (ox_35 R_u31) ?_
                                  refine rf_bx0 (hS.2.2.2.2.2.2.2.2.2.2.1 _ _ _ _ _ R_u31) (fun u119' u119 r119 R_u119 => ?_)
                                  refine rf_bo (rx_35_1 R_u119) ?_
                                  refine rf_so ?_
                                  refine rf_bo (rx_15_3 R_u119) ?_
                                  refine rf_so ?_
                                  refine rf_ai (ax_19 R_u119) ?_
                                  refine rf_ck (ox_35 R_u119) ?_
                                  refine rf_bx0 (hS.2.2.2.2.2.2.2.2.2.2.1 _ _ _ _ _ R_u119) (fun u125' u125 r125 R_u125 => ?_)
                                  refine rf_bo (rx_35_2 R_u125) ?_
                                  refine rf_so ?_
                                  refine rf_ck (ox_22 R_u125) ?_
                                  refine rf_bx0 (ym_Co_put R_u125) (fun u127' u127 r127 R_u127 => ?_)
                                  exact (yb_Cm_compound_455 hS R_u127)
                                · exact (yb_Cm_compound_455 hS R_u31)
theorem ym_Cm_compound {N : Nat} {o : Option Nat} {c : Nat → Nat} {m : MS} {u : CS} {S : SG_Cm_fun} {S' : SF_Cm_fun} (hS : SC_Cm_fun o S S') (R : RP o c m u) {v1 : Int32} {v2 : Int32} : RF 0 o VE c u (fm_Cm_compound N S u 35 v1 v2) (hm_Cm_compound N S' m v1 v2) := yb_Cm_compound_0 (N := N) hS R
theorem yb_Cm_apply_87 {N : Nat} {o : Option Nat} {c : Nat → Nat} {m : MS} {u : CS} {S : SG_Cm_fun} {S' : SF_Cm_fun} {G : (CS → Nat → Int32 → Int32 → Int32 → Option (CS × Unit))} {G' : (MS → Int32 → Int32 → Int32 → Option (MS × Unit))} (hS : SC_Cm_fun o S S') (hG : ∀ (c : Nat → Nat) (m : MS) (u : CS) (v2 : Int32) (v3 : Int32) (v4 : Int32), RP o c m u → RF 0 o VE c u (G u 35 v2 v3 v4) (G' m v2 v3 v4)) (R : RP o c m u) {v2 : Int32} {v3 : Int32} {v4 : Int32} {t1 : Int32} : RF 0 o VE c u (fb_Cm_apply_87 N S G u 35 v2 v3 v4 (some 22) t1) (hb_Cm_apply_87 N S' G' m v2 v3 v4 t1) := by
  unfold fb_Cm_apply_87 hb_Cm_apply_87
  refine rf_so ?_
  refine rf_ck (ox_22 R) ?_
  refine rf_bx0 (ym_Co_put R) (fun u1' u1 r1 R_u1 => ?_)
  refine rf_bo (rx_35_2 R_u1) ?_
  refine rf_bo (rx_35_1 R_u1) ?_
  refine rf_so ?_
  refine rf_bo (rx_15_3 R_u1) ?_
  refine rf_so ?_
  refine rf_ai (ax_19 R_u1) ?_
  refine rf_so ?_
  refine rf_ck (ox_22 R_u1) ?_
  refine rf_bx0 (ym_Co_put R_u1) (fun u9' u9 r9 R_u9 => ?_)
  refine rf_bo (rx_35_2 R_u9) ?_
  refine rf_bo (rx_35_0 R_u9) ?_
  refine rf_so ?_
  refine rf_bo (rx_4_4 R_u9) ?_
  refine rf_so ?_
  refine rf_ai (ax_8 R_u9) ?_
  refine rf_so ?_
  refine rf_ck (ox_22 R_u9) ?_
  refine rf_bx0 (ym_Co_put R_u9) (fun u17' u17 r17 R_u17 => ?_)
  refine rf_bo (rx_35_1 R_u17) ?_
  refine rf_so ?_
  refine rf_bo (rx_15_5 R_u17) ?_
  refine rf_so ?_
  refine rf_ai (ax_21 R_u17) ?_
  exact (hG _ _ _ _ _ _ R_u17)
theorem yb_Cm_apply_85 {N : Nat} {o : Option Nat} {c : Nat → Nat} {m : MS} {u : CS} {S : SG_Cm_fun} {S' : SF_Cm_fun} {G : (CS → Nat → Int32 → Int32 → Int32 → Option (CS × Unit))} {G' : (MS → Int32 → Int32 → Int32 → Option (MS × Unit))} (hS : SC_Cm_fun o S S') (hG : ∀ (c : Nat → Nat) (m : MS) (u : CS) (v2 : Int32) (v3 : Int32) (v4 : Int32), RP o c m u → RF 0 o VE c u (G u 35 v2 v3 v4) (G' m v2 v3 v4)) (R : RP o c m u) {v2 : Int32} {v3 : Int32} {v4 : Int32} : RF 0 o VE c u (fb_Cm_apply_85 N S G u 35 v2 v3 v4 (some 22)) (hb_Cm_apply_85 N S' G' m v2 v3 v4) := by
  unfold fb_Cm_apply_85 hb_Cm_apply_85
  exact (yb_Cm_apply_87 hS hG R)
theorem yb_Cm_apply_40 {N : Nat} {o : Option Nat} {c : Nat → Nat} {m : MS} {u : CS} {S : SG_Cm_fun} {S' : SF_Cm_fun} {G : (CS → Nat → Int32 → Int32 → Int32 → Option (CS × Unit))} {G' : (MS → Int32 → Int32 → Int32 → Option (MS × Unit))} (hS : SC_Cm_fun o S S') (hG : ∀ (c : Nat → Nat) (m : MS) (u : CS) (v2 : Int32) (v3 : Int32) (v4 : Int32), RP o c m u → RF 0 o VE c u (G u 35 v2 v3 v4) (G' m v2 v3 v4)) (R : RP o c m u) {v2 : Int32} {v3 : Int32} {v4 : Int32} : RF 0 o VE c u (fb_Cm_apply_40 N S G u 35 v2 v3 v4) (hb_Cm_apply_40 N S' G' m v2 v3 v4) := by
  unfold fb_Cm_apply_40 hb_Cm_apply_40
  refine rf_br ?_ ?_
  · exact rf_ret R rfl
  · refine rf_bo (rx_35_1 R) ?_
    refine rf_so ?_
    refine rf_bo (rx_15_2 R) ?_
    refine rf_so ?_
    refine rf_ai (ax_18 R) ?_
    refine rf_ck (ox_35 R) ?_
    refine rf_bx0 (hS.2.2.2.2.2.2.2.2.2.1 _ _ _ _ R) (fun u29' u29 r29 R_u29 => ?_)
    refine rf_bo (rx_35_2 R_u29) ?_
    refine rf_br ?_ ?_
    · exact (yb_Cm_apply_85 hS hG R_u29)
    · refine rf_bo (rx_35_1 R_u29) ?_
      refine rf_so ?_
      refine rf_bo (rx_15_5 R_u29) ?_
      refine rf_so ?_
      refine rf_ai (ax_21 R_u29) ?_
      refine rf_br ?_ ?_
      · exact (yb_Cm_apply_87 hS hG R_u29)
      · exact (yb_Cm_apply_85 hS hG R_u29)
theorem yb_Cm_apply_0 {N : Nat} {o : Option Nat} {c : Nat → Nat} {m : MS} {u : CS} {S : SG_Cm_fun} {S' : SF_Cm_fun} {G : (CS → Nat → Int32 → Int32 → Int32 → Option (CS × Unit))} {G' : (MS → Int32 → Int32 → Int32 → Option (MS × Unit))} (hS : SC_Cm_fun o S S') (hG : ∀ (c : Nat → Nat) (m : MS) (u : CS) (v2 : Int32) (v3 : Int32) (v4 : Int32), RP o c m u → RF 0 o VE c u (G u 35 v2 v3 v4) (G' m v2 v3 v4)) (R : RP o c m u) {v1 : Int32} {v2 : Int32} : RF 0 o VE c u (fb_Cm_apply_0 N S G u 35 v1 v2) (hb_Cm_apply_0 N S' G' m v1 v2) := by
  unfold fb_Cm_apply_0 hb_Cm_apply_0
  refine rf_bo (rx_35_1 R) ?_
  refine rf_so ?_
  refine rf_bo (rx_15_1 R) ?_
  refine rf_so ?_
  refine rf_ai (ax_17 R) ?_
  refine rf_ck (ox_35 R) ?_
  refine rf_bx0 (ym_Cm_notInGuard R) (fun u41' u41 r41 R_u41 => ?_)
  refine rf_bo (rx_35_1 R_u41) ?_
  refine rf_so ?_
  refine rf_bo (rx_15_2 R_u41) ?_
  refine rf_so ?_
  refine rf_ai (ax_18 R_u41) ?_
  refine rf_ck (ox_35 R_u41) ?_
  refine rf_bx0 (hS.2.2.2.2.2.2.2.2.2.2.1 _ _ _ _ _ R_u41) (fun u47' u47 r47 R_u47 => ?_)
  refine rf_bo (rx_35_1 R_u47) ?_
  refine rf_so ?_
  refine rf_bo (rx_15_3 R_u47) ?_
  refine rf_so ?_
  refine rf_ai (ax_19 R_u47) ?_
  exact (hG _ _ _ _ _ _ R_u47)
theorem yg_Cm_apply {N : Nat} {o : Option Nat} {S : SG_Cm_fun} {S' : SF_Cm_fun} (hS : SC_Cm_fun o S S') : ∀ n, (∀ (c : Nat → Nat) (m : MS) (u : CS) (v2 : Int32) (v3 : Int32) (v4 : Int32), RP o c m u → RF 0 o VE c u ((gg_Cm_apply N S n) u 35 v2 v3 v4) ((hg_Cm_apply N S' n) m v2 v3 v4)) := by
  intro n
  induction n with
  | zero => exact fun c m u v2 v3 v4 R => rf_none
  | succ n ih => exact fun c m u v2 v3 v4 R => yb_Cm_apply_40 (N := N) hS ih R
theorem ym_Cm_apply {N : Nat} {o : Option Nat} {c : Nat → Nat} {m : MS} {u : CS} {S : SG_Cm_fun} {S' : SF_Cm_fun} (hS : SC_Cm_fun o S S') (R : RP o c m u) {v1 : Int32} {v2 : Int32} : RF 0 o VE c u (fm_Cm_apply N S u 35 v1 v2) (hm_Cm_apply N S' m v1 v2) := yb_Cm_apply_0 (N := N) hS (yg_Cm_apply (N := N) hS N) R
theorem yb_Cm_call_198 {N : Nat} {o : Option Nat} {c : Nat → Nat} {m : MS} {u : CS} {S : SG_Cm_fun} {S' : SF_Cm_fun} (hS : SC_Cm_fun o S S') (R : RP o c m u) {v3 : Int32} {v4 : Int32} {v6 : Int32} {t1 : Int32} : RF 0 o VE c u (fb_Cm_call_198 N S () u 35 v3 v4 v6 (some 22) t1) (hb_Cm_call_198 N S' () m v3 v4 v6 t1) := by
  unfold fb_Cm_call_198 hb_Cm_call_198
  refine rf_so ?_
  refine rf_ck (ox_22 R) ?_
  refine rf_bx0 (ym_Co_put R) (fun u1' u1 r1 R_u1 => ?_)
  refine rf_bo (rx_35_2 R_u1) ?_
  refine rf_so ?_
  refine rf_ck (ox_22 R_u1) ?_
  refine rf_bx0 (ym_Co_put R_u1) (fun u4' u4 r4 R_u4 => ?_)
  refine rf_bo (rx_35_2 R_u4) ?_
  refine rf_so ?_
  refine rf_ck (ox_22 R_u4) ?_
  refine rf_bx0 (ym_Co_put R_u4) (fun u7' u7 r7 R_u7 => ?_)
  refine rf_bo (rx_35_2 R_u7) ?_
  refine rf_bo (rx_35_0 R_u7) ?_
  refine rf_so ?_
  refine rf_bo (rx_4_4 R_u7) ?_
  refine rf_so ?_
  refine rf_ai (ax_8 R_u7) ?_
  refine rf_so ?_
  refine rf_ck (ox_22 R_u7) ?_
  refine rf_bx0 (ym_Co_put R_u7) (fun u15' u15 r15 R_u15 => ?_)
  exact rf_ret R_u15 rfl
theorem yb_Cm_call_170 {N : Nat} {o : Option Nat} {c : Nat → Nat} {m : MS} {u : CS} {S : SG_Cm_fun} {S' : SF_Cm_fun} (hS : SC_Cm_fun o S S') (R : RP o c m u) {v5 : Int32} {t1 : Int32} : RF 0 o VE c u (fb_Cm_call_170 N S () u 35 v5 (some 22) t1) (hb_Cm_call_170 N S' () m v5 t1) := by
  unfold fb_Cm_call_170 hb_Cm_call_170
  refine rf_so ?_
  refine rf_ck (ox_22 R) ?_
  refine rf_bx0 (ym_Co_put R) (fun u17' u17 r17 R_u17 => ?_)
  refine rf_bo (rx_35_2 R_u17) ?_
  refine rf_so ?_
  refine rf_ck (ox_22 R_u17) ?_
  refine rf_bx0 (ym_Co_put R_u17) (fun u20' u20 r20 R_u20 => ?_)
  exact rf_ret R_u20 rfl
theorem yb_Cm_call_152 {N : Nat} {o : Option Nat} {c : Nat → Nat} {m : MS} {u : CS} {S : SG_Cm_fun} {S' : SF_Cm_fun} (hS : SC_Cm_fun o S S') (R : RP o c m u) {v5 : Int32} {t0 : Int32} : RF 0 o VE c u (fb_Cm_call_152 N S () u 35 v5 t0) (hb_Cm_call_152 N S' () m v5 t0) := by
  unfold fb_Cm_call_152 hb_Cm_call_152
  refine rf_bo (rx_35_2 R) ?_
  refine rf_br ?_ ?_
  · exact (yb_Cm_call_170 hS R)
  · exact (yb_Cm_call_170 hS R)
theorem yb_Cm_call_147 {N : Nat} {o : Option Nat} {c : Nat → Nat} {m : MS} {u : CS} {S : SG_Cm_fun} {S' : SF_Cm_fun} (hS : SC_Cm_fun o S S') (R : RP o c m u) {v5 : Int32} : RF 0 o VE c u (fb_Cm_call_147 N S () u 35 v5) (hb_Cm_call_147 N S' () m v5) := by
  unfold fb_Cm_call_147 hb_Cm_call_147
  exact (yb_Cm_call_152 hS R)
theorem yb_Cm_call_96 {N : Nat} {o : Option Nat} {c : Nat → Nat} {m : MS} {u : CS} {S : SG_Cm_fun} {S' : SF_Cm_fun} (hS : SC_Cm_fun o S S') (R : RP o c m u) {v1 : Int32} {v2 : Int32} {v3 : Int32} {v4 : Int32} {v5 : Int32} {v6 : Int32} : RF 0 o VE c u (fb_Cm_call_96 N S () u 35 v1 v2 v3 v4 v5 v6) (hb_Cm_call_96 N S' () m v1 v2 v3 v4 v5 v6) := by
  unfold fb_Cm_call_96 hb_Cm_call_96
  refine rf_bo (rx_35_1 R) ?_
  refine rf_so ?_
  refine rf_bo (rx_15_3 R) ?_
  refine rf_so ?_
  refine rf_ai (ax_19 R) ?_
  refine rf_ck (ox_35 R) ?_
  refine rf_bx0 (hS.2.2.2.2.2.2.2.2.2.1 _ _ _ _ R) (fun u28' u28 r28 R_u28 => ?_)
  refine rf_br ?_ ?_
  · refine rf_bo (rx_35_2 R_u28) ?_
    refine rf_br ?_ ?_
    · exact (yb_Cm_call_198 hS R_u28)
    · exact (yb_Cm_call_198 hS R_u28)
  · refine rf_br ?_ ?_
    · exact (yb_Cm_call_147 hS R_u28)
    · refine rf_br ?_ ?_
      · exact (yb_Cm_call_147 hS R_u28)
      · refine rf_br ?_ ?_
        · exact (yb_Cm_call_147 hS R_u28)
        · refine rf_br ?_ ?_
          · exact (yb_Cm_call_147 hS R_u28)
          · refine rf_br ?_ ?_
            · exact (yb_Cm_call_147 hS R_u28)
            · exact (yb_Cm_call_152 hS R_u28)
theorem yb_Cm_call_91 {N : Nat} {o : Option Nat} {c : Nat → Nat} {m : MS} {u : CS} {S : SG_Cm_fun} {S' : SF_Cm_fun} (hS : SC_Cm_fun o S S') (R : RP o c m u) {v1 : Int32} {v2 : Int32} {v3 : Int32} {v4 : Int32} {v5 : Int32} {v6 : Int32} : RF 0 o VE c u (fb_Cm_call_91 N S () u 35 v1 v2 v3 v4 v5 v6) (hb_Cm_call_91 N S' () m v1 v2 v3 v4 v5 v6) := by
  unfold fb_Cm_call_91 hb_Cm_call_91
  refine rf_ck (ox_35 R) ?_
  refine rf_bx0 (ym_Cm_notInGuard R) (fun u30' u30 r30 R_u30 => ?_)
  exact (yb_Cm_call_96 hS R_u30)
theorem yb_Cm_call_77 {N : Nat} {o : Option Nat} {c : Nat → Nat} {m : MS} {u : CS} {S : SG_Cm_fun} {S' : SF_Cm_fun} (hS : SC_Cm_fun o S S') (R : RP o c m u) {v1 : Int32} {v2 : Int32} {v3 : Int32} {v4 : Int32} {v5 : Int32} {v6 : Int32} : RF 0 o VE c u (fb_Cm_call_77 N S () u 35 v1 v2 v3 v4 v5 v6) (hb_Cm_call_77 N S' () m v1 v2 v3 v4 v5 v6) := by
  unfold fb_Cm_call_77 hb_Cm_call_77
  refine rf_br ?_ ?_
  · exact (yb_Cm_call_91 hS R)
  · refine rf_br ?_ ?_
    · exact (yb_Cm_call_96 hS R)
    · exact (yb_Cm_call_91 hS R)
theorem yb_Cm_call_0 {N : Nat} {o : Option Nat} {c : Nat → Nat} {m : MS} {u : CS} {S : SG_Cm_fun} {S' : SF_Cm_fun} (hS : SC_Cm_fun o S S') (R : RP o c m u) {v1 : Int32} {v2 : Int32} : RF 0 o VE c u (fb_Cm_call_0 N S () u 35 v1 v2) (hb_Cm_call_0 N S' () m v1 v2) := by
  unfold fb_Cm_call_0 hb_Cm_call_0
  refine rf_bo (rx_35_1 R) ?_
  refine rf_so ?_
  refine rf_bo (rx_15_1 R) ?_
  refine rf_so ?_
  refine rf_ai (ax_17 R) ?_
  refine rf_bo (rx_35_1 R) ?_
  refine rf_so ?_
  refine rf_bo (rx_15_4 R) ?_
  refine rf_so ?_
  refine rf_ai (ax_20 R) ?_
  refine rf_bo (rx_35_1 R) ?_
  refine rf_so ?_
  refine rf_bo (rx_15_2 R) ?_
  refine rf_so ?_
  refine rf_ai (ax_18 R) ?_
  refine rf_ck (ox_35 R) ?_
  refine rf_bx0 (ym_Cm_predefinedOf R) (fun u46' u46 r46 R_u46 => ?_)
  refine rf_bo (rx_35_2 R_u46) ?_
  refine rf_bo (rx_35_1 R_u46) ?_
  refine rf_so ?_
  refine rf_bo (rx_15_2 R_u46) ?_
  refine rf_so ?_
  refine rf_ai (ax_18 R_u46) ?_
  refine rf_so ?_
  refine rf_ck (ox_22 R_u46) ?_
  refine rf_bx0 (ym_Co_seek R_u46) (fun u53' u53 r53 R_u53 => ?_)
  refine rf_br ?_ ?_
  · refine rf_br ?_ ?_
    · refine rf_ck (ox_35 R_u53) ?_
      refine rf_bx0 (ym_Cm_fault R_u53) (fun u55' u55 r55 R_u55 => ?_)
      exact (yb_Cm_call_77 hS R_u55)
    · exact (yb_Cm_call_77 hS R_u53)
  · exact (yb_Cm_call_77 hS R_u53)
theorem ym_Cm_call {N : Nat} {o : Option Nat} {c : Nat → Nat} {m : MS} {u : CS} {S : SG_Cm_fun} {S' : SF_Cm_fun} (hS : SC_Cm_fun o S S') (R : RP o c m u) {v1 : Int32} {v2 : Int32} : RF 0 o VE c u (fm_Cm_call N S u 35 v1 v2) (hm_Cm_call N S' m v1 v2) := yb_Cm_call_0 (N := N) hS R
theorem yb_Cm_signs_198 {N : Nat} {o : Option Nat} {c : Nat → Nat} {m : MS} {u : CS} {S : SG_Cm_fun} {S' : SF_Cm_fun} {G : (CS → Nat → Int32 → Int32 → Int32 → Int32 → Int32 → Option (CS × Unit))} {G' : (MS → Int32 → Int32 → Int32 → Int32 → Int32 → Option (MS × Unit))} (hS : SC_Cm_fun o S S') (hG : ∀ (c : Nat → Nat) (m : MS) (u : CS) (v2 : Int32) (v3 : Int32) (v4 : Int32) (v5 : Int32) (v6 : Int32), RP o c m u → RF 0 o VE c u (G u 35 v2 v3 v4 v5 v6) (G' m v2 v3 v4 v5 v6)) (R : RP o c m u) {v2 : Int32} {v3 : Int32} {v4 : Int32} {v5 : Int32} {v6 : Int32} : RF 0 o VE c u (fb_Cm_signs_198 N S G u 35 v2 v3 v4 v5 v6) (hb_Cm_signs_198 N S' G' m v2 v3 v4 v5 v6) := by
  unfold fb_Cm_signs_198 hb_Cm_signs_198
  refine rf_bo (rx_35_1 R) ?_
  refine rf_so ?_
  refine rf_bo (rx_15_5 R) ?_
  refine rf_so ?_
  refine rf_ai (ax_21 R) ?_
  exact (hG _ _ _ _ _ _ _ _ R)
theorem yb_Cm_signs_82 {N : Nat} {o : Option Nat} {c : Nat → Nat} {m : MS} {u : CS} {S : SG_Cm_fun} {S' : SF_Cm_fun} {G : (CS → Nat → Int32 → Int32 → Int32 → Int32 → Int32 → Option (CS × Unit))} {G' : (MS → Int32 → Int32 → Int32 → Int32 → Int32 → Option (MS × Unit))} (hS : SC_Cm_fun o S S') (hG : ∀ (c : Nat → Nat) (m : MS) (u : CS) (v2 : Int32) (v3 : Int32) (v4 : Int32) (v5 : Int32) (v6 : Int32), RP o c m u → RF 0 o VE c u (G u 35 v2 v3 v4 v5 v6) (G' m v2 v3 v4 v5 v6)) (R : RP o c m u) {v2 : Int32} {v3 : Int32} {v4 : Int32} {v5 : Int32} {v6 : Int32} {v7 : Int32} {v8 : Int32} : RF 0 o VE c u (fb_Cm_signs_82 N S G u 35 v2 v3 v4 v5 v6 v7 v8) (hb_Cm_signs_82 N S' G' m v2 v3 v4 v5 v6 v7 v8) := by
  unfold fb_Cm_signs_82 hb_Cm_signs_82
  refine rf_br ?_ ?_
  · refine rf_bo (rx_35_2 R) ?_
    refine rf_so ?_
    refine rf_ck (ox_22 R) ?_
    refine rf_bx0 (ym_Co_put R) (fun u22' u22 r22 R_u22 => ?_)
    refine rf_bo (rx_35_2 R_u22) ?_
    refine rf_so ?_
    refine rf_ck (ox_22 R_u22) ?_
    refine rf_bx0 (ym_Co_hook R_u22) (fun u25' u25 r25 R_u25 => ?_)
    refine rf_bo (gx_35_6 R_u25) ?_
    exact (yb_Cm_signs_198 hS hG R_u25)
  · refine rf_br ?_ ?_
    · refine rf_br ?_ ?_
      · refine rf_ck (ox_35 R) ?_
        refine rf_bx0 (ym_Cm_forget R) (fun u16' u16 r16 R_u16 => ?_)
        refine rf_bo (rx_35_2 R_u16) ?_
        refine rf_so ?_
        refine rf_ck (ox_22 R_u16) ?_
        refine rf_bx0 (ym_Co_arrive R_u16) (fun u18' u18 r18 R_u18 => ?_)
        exact (yb_Cm_signs_198 hS hG R_u18)
      · refine rf_br ?_ ?_
        · refine rf_ck (ox_35 R) ?_
          refine rf_bx0 (ym_Cm_forget R) (fun u12' u12 r12 R_u12 => ?_)
          refine rf_bo (rx_35_2 R_u12) ?_
          refine rf_so ?_
          refine rf_ck (ox_22 R_u12) ?_
          refine rf_bx0 (ym_Co_arrive R_u12) (fun u14' u14 r14 R_u14 => ?_)
          exact (yb_Cm_signs_198 hS hG R_u14)
        · refine rf_bo (rx_35_1 R) ?_
          refine rf_so ?_
          refine rf_bo (rx_15_1 R) ?_
          refine rf_so ?_
          refine rf_ai (ax_17 R) ?_
          refine rf_ck (ox_35 R) ?_
          refine rf_bx0 (ym_Cm_joining R) (fun u11' u11 r11 R_u11 => ?_)
          exact (yb_Cm_signs_198 hS hG R_u11)
    · refine rf_ck (ox_35 R) ?_
      refine rf_bx0 (hS.2.2.2.2.2.2.2.2.2.2.1 _ _ _ _ _ R) (fun u20' u20 r20 R_u20 => ?_)
      exact (yb_Cm_signs_198 hS hG R_u20)
theorem yb_Cm_signs_13 {N : Nat} {o : Option Nat} {c : Nat → Nat} {m : MS} {u : CS} {S : SG_Cm_fun} {S' : SF_Cm_fun} {G : (CS → Nat → Int32 → Int32 → Int32 → Int32 → Int32 → Option (CS × Unit))} {G' : (MS → Int32 → Int32 → Int32 → Int32 → Int32 → Option (MS × Unit))} (hS : SC_Cm_fun o S S') (hG : ∀ (c : Nat → Nat) (m : MS) (u : CS) (v2 : Int32) (v3 : Int32) (v4 : Int32) (v5 : Int32) (v6 : Int32), RP o c m u → RF 0 o VE c u (G u 35 v2 v3 v4 v5 v6) (G' m v2 v3 v4 v5 v6)) (R : RP o c m u) {v2 : Int32} {v3 : Int32} {v4 : Int32} {v5 : Int32} {v6 : Int32} : RF 0 o VE c u (fb_Cm_signs_13 N S G u 35 v2 v3 v4 v5 v6) (hb_Cm_signs_13 N S' G' m v2 v3 v4 v5 v6) := by
  unfold fb_Cm_signs_13 hb_Cm_signs_13
  refine rf_br ?_ ?_
  · exact rf_ret R rfl
  · refine rf_bo (rx_35_1 R) ?_
    refine rf_so ?_
    refine rf_bo (rx_15_0 R) ?_
    refine rf_so ?_
    refine rf_ai (ax_16 R) ?_
    refine rf_bo (rx_35_1 R) ?_
    refine rf_so ?_
    refine rf_bo (rx_15_2 R) ?_
    refine rf_so ?_
    refine rf_ai (ax_18 R) ?_
    refine rf_br ?_ ?_
    · refine rf_br ?_ ?_
      · refine rf_bo (rx_35_2 R) ?_
        refine rf_so ?_
        refine rf_ck (ox_22 R) ?_
        refine rf_bx0 (ym_Co_put R) (fun u39' u39 r39 R_u39 => ?_)
        refine rf_bo (rx_35_2 R_u39) ?_
        refine rf_so ?_
        refine rf_ck (ox_22 R_u39) ?_
        refine rf_bx0 (ym_Co_hook R_u39) (fun u42' u42 r42 R_u42 => ?_)
        refine rf_bo (gx_35_6 R_u42) ?_
        exact (yb_Cm_signs_198 hS hG R_u42)
      · exact (yb_Cm_signs_82 hS hG R)
    · exact (yb_Cm_signs_82 hS hG R)
theorem yb_Cm_signs_0 {N : Nat} {o : Option Nat} {c : Nat → Nat} {m : MS} {u : CS} {S : SG_Cm_fun} {S' : SF_Cm_fun} {G : (CS → Nat → Int32 → Int32 → Int32 → Int32 → Int32 → Option (CS × Unit))} {G' : (MS → Int32 → Int32 → Int32 → Int32 → Int32 → Option (MS × Unit))} (hS : SC_Cm_fun o S S') (hG : ∀ (c : Nat → Nat) (m : MS) (u : CS) (v2 : Int32) (v3 : Int32) (v4 : Int32) (v5 : Int32) (v6 : Int32), RP o c m u → RF 0 o VE c u (G u 35 v2 v3 v4 v5 v6) (G' m v2 v3 v4 v5 v6)) (R : RP o c m u) {v1 : Int32} : RF 0 o VE c u (fb_Cm_signs_0 N S G u 35 v1) (hb_Cm_signs_0 N S' G' m v1) := by
  unfold fb_Cm_signs_0 hb_Cm_signs_0
  exact (hG _ _ _ _ _ _ _ _ R)
theorem yg_Cm_signs {N : Nat} {o : Option Nat} {S : SG_Cm_fun} {S' : SF_Cm_fun} (hS : SC_Cm_fun o S S') : ∀ n, (∀ (c : Nat → Nat) (m : MS) (u : CS) (v2 : Int32) (v3 : Int32) (v4 : Int32) (v5 : Int32) (v6 : Int32), RP o c m u → RF 0 o VE c u ((gg_Cm_signs N S n) u 35 v2 v3 v4 v5 v6) ((hg_Cm_signs N S' n) m v2 v3 v4 v5 v6)) := by
  intro n
  induction n with
  | zero => exact fun c m u v2 v3 v4 v5 v6 R => rf_none
  | succ n ih => exact fun c m u v2 v3 v4 v5 v6 R => yb_Cm_signs_13 (N := N) hS ih R
theorem ym_Cm_signs {N : Nat} {o : Option Nat} {c : Nat → Nat} {m : MS} {u : CS} {S : SG_Cm_fun} {S' : SF_Cm_fun} (hS : SC_Cm_fun o S S') (R : RP o c m u) {v1 : Int32} : RF 0 o VE c u (fm_Cm_signs N S u 35 v1) (hm_Cm_signs N S' m v1) := yb_Cm_signs_0 (N := N) hS (yg_Cm_signs (N := N) hS N) R
theorem yb_Cm_list_93 {N : Nat} {o : Option Nat} {c : Nat → Nat} {m : MS} {u : CS} {S : SG_Cm_fun} {S' : SF_Cm_fun} (hS : SC_Cm_fun o S S') (R : RP o c m u) : RF 0 o VE c u (fb_Cm_list_93 N S () u) (hb_Cm_list_93 N S' () m) := by
  unfold fb_Cm_list_93 hb_Cm_list_93
  exact rf_ret R rfl
theorem yb_Cm_list_57 {N : Nat} {o : Option Nat} {c : Nat → Nat} {m : MS} {u : CS} {S : SG_Cm_fun} {S' : SF_Cm_fun} (hS : SC_Cm_fun o S S') (R : RP o c m u) {v1 : Int32} : RF 0 o VE c u (fb_Cm_list_57 N S () u 35 v1) (hb_Cm_list_57 N S' () m v1) := by
  unfold fb_Cm_list_57 hb_Cm_list_57
  refine rf_bo (rx_35_1 R) ?_
  refine rf_so ?_
  refine rf_bo (rx_15_3 R) ?_
  refine rf_so ?_
  refine rf_ai (ax_19 R) ?_
  refine rf_br ?_ ?_
  · exact (yb_Cm_list_93 hS R)
  · refine rf_bo (rx_35_2 R) ?_
    refine rf_so ?_
    refine rf_ck (ox_22 R) ?_
    refine rf_bx0 (ym_Co_put R) (fun u7' u7 r7 R_u7 => ?_)
    refine rf_bo (rx_35_2 R_u7) ?_
    refine rf_bo (rx_35_1 R_u7) ?_
    refine rf_so ?_
    refine rf_bo (rx_15_3 R_u7) ?_
    refine rf_so ?_
    refine rf_ai (ax_19 R_u7) ?_
    refine rf_so ?_
    refine rf_ck (ox_22 R_u7) ?_
    refine rf_bx0 (ym_Co_put R_u7) (fun u15' u15 r15 R_u15 => ?_)
    exact (yb_Cm_list_93 hS R_u15)
theorem yb_Cm_list_0 {N : Nat} {o : Option Nat} {c : Nat → Nat} {m : MS} {u : CS} {S : SG_Cm_fun} {S' : SF_Cm_fun} (hS : SC_Cm_fun o S S') (R : RP o c m u) {v1 : Int32} : RF 0 o VE c u (fb_Cm_list_0 N S () u 35 v1) (hb_Cm_list_0 N S' () m v1) := by
  unfold fb_Cm_list_0 hb_Cm_list_0
  refine rf_bo (rx_35_1 R) ?_
  refine rf_so ?_
  refine rf_bo (rx_15_2 R) ?_
  refine rf_so ?_
  refine rf_ai (ax_18 R) ?_
  refine rf_ck (ox_35 R) ?_
  refine rf_bx0 (hS.2.2.2.2.2.2.2.2.2.1 _ _ _ _ R) (fun u22' u22 r22 R_u22 => ?_)
  refine rf_bo (rx_35_1 R_u22) ?_
  refine rf_so ?_
  refine rf_bo (rx_15_4 R_u22) ?_
  refine rf_so ?_
  refine rf_ai (ax_20 R_u22) ?_
  refine rf_br ?_ ?_
  · refine rf_bo (rx_35_2 R_u22) ?_
    refine rf_so ?_
    refine rf_ck (ox_22 R_u22) ?_
    refine rf_bx0 (ym_Co_put R_u22) (fun u29' u29 r29 R_u29 => ?_)
    refine rf_ck (ox_35 R_u29) ?_
    refine rf_bx0 (ym_Cm_term R_u29) (fun u31' u31 r31 R_u31 => ?_)
    exact (yb_Cm_list_57 hS R_u31)
  · refine rf_bo (rx_35_1 R_u22) ?_
    refine rf_so ?_
    refine rf_bo (rx_15_4 R_u22) ?_
    refine rf_so ?_
    refine rf_ai (ax_20 R_u22) ?_
    refine rf_ck (ox_35 R_u22) ?_
    refine rf_bx0 (hS.2.2.2.2.2.2.2.2.2.2.1 _ _ _ _ _ R_u22) (fun u37' u37 r37 R_u37 => ?_)
    exact (yb_Cm_list_57 hS R_u37)
theorem ym_Cm_list {N : Nat} {o : Option Nat} {c : Nat → Nat} {m : MS} {u : CS} {S : SG_Cm_fun} {S' : SF_Cm_fun} (hS : SC_Cm_fun o S S') (R : RP o c m u) {v1 : Int32} : RF 0 o VE c u (fm_Cm_list N S u 35 v1) (hm_Cm_list N S' m v1) := yb_Cm_list_0 (N := N) hS R
theorem yb_Cm_row_2 {N : Nat} {o : Option Nat} {c : Nat → Nat} {m : MS} {u : CS} {S : SG_Cm_fun} {S' : SF_Cm_fun} {G : (CS → Nat → Int32 → Option (CS × Unit))} {G' : (MS → Int32 → Option (MS × Unit))} (hS : SC_Cm_fun o S S') (hG : ∀ (c : Nat → Nat) (m : MS) (u : CS) (v2 : Int32), RP o c m u → RF 0 o VE c u (G u 35 v2) (G' m v2)) (R : RP o c m u) {v2 : Int32} : RF 0 o VE c u (fb_Cm_row_2 N S G u 35 v2) (hb_Cm_row_2 N S' G' m v2) := by
  unfold fb_Cm_row_2 hb_Cm_row_2
  refine rf_br ?_ ?_
  · exact rf_ret R rfl
  · refine rf_ck (ox_35 R) ?_
    refine rf_bx0 (hS.2.2.2.2.2.2.2.2.2.2.1 _ _ _ _ _ R) (fun u1' u1 r1 R_u1 => ?_)
    refine rf_bo (rx_35_1 R_u1) ?_
    refine rf_so ?_
    refine rf_bo (rx_15_5 R_u1) ?_
    refine rf_so ?_
    refine rf_ai (ax_21 R_u1) ?_
    exact (hG _ _ _ _ R_u1)
theorem yb_Cm_row_0 {N : Nat} {o : Option Nat} {c : Nat → Nat} {m : MS} {u : CS} {S : SG_Cm_fun} {S' : SF_Cm_fun} {G : (CS → Nat → Int32 → Option (CS × Unit))} {G' : (MS → Int32 → Option (MS × Unit))} (hS : SC_Cm_fun o S S') (hG : ∀ (c : Nat → Nat) (m : MS) (u : CS) (v2 : Int32), RP o c m u → RF 0 o VE c u (G u 35 v2) (G' m v2)) (R : RP o c m u) {v1 : Int32} : RF 0 o VE c u (fb_Cm_row_0 N S G u 35 v1) (hb_Cm_row_0 N S' G' m v1) := by
  unfold fb_Cm_row_0 hb_Cm_row_0
  exact (hG _ _ _ _ R)
theorem yg_Cm_row {N : Nat} {o : Option Nat} {S : SG_Cm_fun} {S' : SF_Cm_fun} (hS : SC_Cm_fun o S S') : ∀ n, (∀ (c : Nat → Nat) (m : MS) (u : CS) (v2 : Int32), RP o c m u → RF 0 o VE c u ((gg_Cm_row N S n) u 35 v2) ((hg_Cm_row N S' n) m v2)) := by
  intro n
  induction n with
  | zero => exact fun c m u v2 R => rf_none
  | succ n ih => exact fun c m u v2 R => yb_Cm_row_2 (N := N) hS ih R
theorem ym_Cm_row {N : Nat} {o : Option Nat} {c : Nat → Nat} {m : MS} {u : CS} {S : SG_Cm_fun} {S' : SF_Cm_fun} (hS : SC_Cm_fun o S S') (R : RP o c m u) {v1 : Int32} : RF 0 o VE c u (fm_Cm_row N S u 35 v1) (hm_Cm_row N S' m v1) := yb_Cm_row_0 (N := N) hS (yg_Cm_row (N := N) hS N) R
theorem yb_Cm_expression_359 {N : Nat} {o : Option Nat} {c : Nat → Nat} {m : MS} {u : CS} {S : SG_Cm_fun} {S' : SF_Cm_fun} (hS : SC_Cm_fun o S S') (R : RP o c m u) : RF 0 o VE c u (fb_Cm_expression_359 N S () u) (hb_Cm_expression_359 N S' () m) := by
  unfold fb_Cm_expression_359 hb_Cm_expression_359
  exact rf_ret R rfl
theorem yb_Cm_expression_227 {N : Nat} {o : Option Nat} {c : Nat → Nat} {m : MS} {u : CS} {S : SG_Cm_fun} {S' : SF_Cm_fun} (hS : SC_Cm_fun o S S') (R : RP o c m u) {v1 : Int32} : RF 0 o VE c u (fb_Cm_expression_227 N S () u 35 v1) (hb_Cm_expression_227 N S' () m v1) := by
  unfold fb_Cm_expression_227 hb_Cm_expression_227
  refine rf_bo (rx_35_2 R) ?_
  refine rf_so ?_
  refine rf_ck (ox_22 R) ?_
  refine rf_bx0 (ym_Co_put R) (fun u2' u2 r2 R_u2 => ?_)
  refine rf_bo (rx_35_2 R_u2) ?_
  refine rf_bo (rx_35_1 R_u2) ?_
  refine rf_so ?_
  refine rf_bo (rx_15_2 R_u2) ?_
  refine rf_so ?_
  refine rf_ai (ax_18 R_u2) ?_
  refine rf_so ?_
  refine rf_ck (ox_22 R_u2) ?_
  refine rf_bx0 (ym_Co_put R_u2) (fun u10' u10 r10 R_u10 => ?_)
  exact (yb_Cm_expression_359 hS R_u10)
theorem yb_Cm_expression_221 {N : Nat} {o : Option Nat} {c : Nat → Nat} {m : MS} {u : CS} {S : SG_Cm_fun} {S' : SF_Cm_fun} (hS : SC_Cm_fun o S S') (R : RP o c m u) {v1 : Int32} {v3 : Int32} : RF 0 o VE c u (fb_Cm_expression_221 N S () u 35 v1 v3) (hb_Cm_expression_221 N S' () m v1 v3) := by
  unfold fb_Cm_expression_221 hb_Cm_expression_221
  refine rf_ck (ox_35 R) ?_
  refine rf_bx0 (ym_Cm_fault R) (fun u12' u12 r12 R_u12 => ?_)
  exact (yb_Cm_expression_227 hS R_u12)
theorem yb_Cm_expression_0 {N : Nat} {o : Option Nat} {c : Nat → Nat} {m : MS} {u : CS} {S : SG_Cm_fun} {S' : SF_Cm_fun} (hS : SC_Cm_fun o S S') (R : RP o c m u) {v1 : Int32} {v2 : Int32} : RF 0 o VE c u (fb_Cm_expression_0 N S () u 35 v1 v2) (hb_Cm_expression_0 N S' () m v1 v2) := by
  unfold fb_Cm_expression_0 hb_Cm_expression_0
  refine rf_bo (rx_35_1 R) ?_
  refine rf_so ?_
  refine rf_bo (rx_15_1 R) ?_
  refine rf_so ?_
  refine rf_ai (ax_17 R) ?_
  refine rf_bo (rx_35_1 R) ?_
  refine rf_so ?_
  refine rf_bo (rx_15_0 R) ?_
  refine rf_so ?_
  refine rf_ai (ax_16 R) ?_
  refine rf_br ?_ ?_
  · refine rf_bo (rx_35_2 R) ?_
    refine rf_so ?_
    refine rf_ck (ox_22 R) ?_
    refine rf_bx0 (ym_Co_put R) (fun u24' u24 r24 R_u24 => ?_)
    refine rf_bo (rx_35_1 R_u24) ?_
    refine rf_so ?_
    refine rf_bo (rx_15_2 R_u24) ?_
    refine rf_so ?_
    refine rf_ai (ax_18 R_u24) ?_
    refine rf_ck (ox_35 R_u24) ?_
    refine rf_bx0 (ym_Cm_term R_u24) (fun u31' u31 r31 R_u31 => ?_)
    exact (yb_Cm_expression_359 hS R_u31)
  · refine rf_br ?_ ?_
    · refine rf_bo (rx_35_2 R) ?_
      refine rf_so ?_
      refine rf_ck (ox_22 R) ?_
      refine rf_bx0 (ym_Co_put R) (fun u33' u33 r33 R_u33 => ?_)
      refine rf_bo (rx_35_1 R_u33) ?_
      refine rf_so ?_
      refine rf_bo (rx_15_2 R_u33) ?_
      refine rf_so ?_
      refine rf_ai (ax_18 R_u33) ?_
      refine rf_ck (ox_35 R_u33) ?_
      refine rf_bx0 (ym_Cm_term R_u33) (fun u40' u40 r40 R_u40 => ?_)
      exact (yb_Cm_expression_359 hS R_u40)
    · refine rf_br ?_ ?_
      · refine rf_bo (rx_35_1 R) ?_
        refine rf_so ?_
        refine rf_bo (rx_15_2 R) ?_
        refine rf_so ?_
        refine rf_ai (ax_18 R) ?_
        refine rf_br ?_ ?_
        · exact (yb_Cm_expression_221 hS R)
        · refine rf_bo (rx_35_1 R) ?_
          refine rf_so ?_
          refine rf_bo (rx_15_2 R) ?_
          refine rf_so ?_
          refine rf_ai (ax_18 R) ?_
          refine rf_ck (ox_35 R) ?_
          refine rf_bx0 (ym_Cm_isBound R) (fun u51' u51 r51 R_u51 => ?_)
          refine rf_br ?_ ?_
          · exact (yb_Cm_expression_221 hS R_u51)
          · exact (yb_Cm_expression_227 hS R_u51)
      · refine rf_br ?_ ?_
        · refine rf_ck (ox_35 R) ?_
          refine rf_bx0 (ym_Cm_notInGuard R) (fun u52' u52 r52 R_u52 => ?_)
          refine rf_bo (rx_35_2 R_u52) ?_
          refine rf_so ?_
          refine rf_ck (ox_22 R_u52) ?_
          refine rf_bx0 (ym_Co_put R_u52) (fun u54' u54 r54 R_u54 => ?_)
          refine rf_ck (ox_35 R_u54) ?_
          refine rf_bx0 (ym_Cm_string R_u54) (fun u56' u56 r56 R_u56 => ?_)
          exact (yb_Cm_expression_359 hS R_u56)
        · refine rf_br ?_ ?_
          · refine rf_bo (rx_35_1 R) ?_
            refine rf_so ?_
            refine rf_bo (rx_15_2 R) ?_
            refine rf_so ?_
            refine rf_ai (ax_18 R) ?_
            refine rf_ck (ox_35 R) ?_
            refine rf_bx0 (hS.2.2.2.2.2.2.2.2.2.2.1 _ _ _ _ _ R) (fun u62' u62 r62 R_u62 => ?_)
            exact (yb_Cm_expression_359 hS R_u62)
          · refine rf_br ?_ ?_
            · refine rf_bo (rx_35_1 R) ?_
              refine rf_so ?_
              refine rf_bo (rx_15_2 R) ?_
              refine rf_so ?_
              refine rf_ai (ax_18 R) ?_
              refine rf_ck (ox_35 R) ?_
              refine rf_bx0 (hS.2.2.2.2.2.2.2.2.2.1 _ _ _ _ R) (fun u68' u68 r68 R_u68 => ?_)
              refine rf_bo (rx_35_2 R_u68) ?_
              refine rf_so ?_
              refine rf_ck (ox_22 R_u68) ?_
              refine rf_bx0 (ym_Co_put R_u68) (fun u70' u70 r70 R_u70 => ?_)
              refine rf_bo (rx_35_2 R_u70) ?_
              refine rf_bo (rx_35_1 R_u70) ?_
              refine rf_so ?_
              refine rf_bo (rx_15_3 R_u70) ?_
              refine rf_so ?_
              refine rf_ai (ax_19 R_u70) ?_
              refine rf_so ?_
              refine rf_ck (ox_22 R_u70) ?_
              refine rf_bx0 (ym_Co_put R_u70) (fun u78' u78 r78 R_u78 => ?_)
              exact (yb_Cm_expression_359 hS R_u78)
            · refine rf_br ?_ ?_
              · refine rf_ck (ox_35 R) ?_
                refine rf_bx0 (hS.2.2.2.2.2.2.2.2.1 _ _ _ _ R) (fun u80' u80 r80 R_u80 => ?_)
                exact (yb_Cm_expression_359 hS R_u80)
              · refine rf_br ?_ ?_
                · refine rf_ck (ox_35 R) ?_
                  refine rf_bx0 (hS.2.2.2.2.1 _ _ _ _ _ R) (fun u81' u81 r81 R_u81 => ?_)
                  exact (yb_Cm_expression_359 hS R_u81)
                · refine rf_br ?_ ?_
                  · refine rf_ck (ox_35 R) ?_
                    refine rf_bx0 (hS.2.2.2.2.1 _ _ _ _ _ R) (fun u82' u82 r82 R_u82 => ?_)
                    exact (yb_Cm_expression_359 hS R_u82)
                  · refine rf_br ?_ ?_
                    · refine rf_ck (ox_35 R) ?_
                      refine rf_bx0 (hS.2.2.2.2.1 _ _ _ _ _ R) (fun u83' u83 r83 R_u83 => ?_)
                      exact (yb_Cm_expression_359 hS R_u83)
                    · refine rf_br ?_ ?_
                      · refine rf_ck (ox_35 R) ?_
                        refine rf_bx0 (hS.2.2.2.2.1 _ _ _ _ _ R) (fun u84' u84 r84 R_u84 => ?_)
                        exact (yb_Cm_expression_359 hS R_u84)
                      · refine rf_br ?_ ?_
                        · refine rf_ck (ox_35 R) ?_
                          refine rf_bx0 (hS.2.2.2.2.1 _ _ _ _ _ R) (fun u85' u85 r85 R_u85 => ?_)
                          exact (yb_Cm_expression_359 hS R_u85)
                        · refine rf_br ?_ ?_
                          · refine rf_ck (ox_35 R) ?_
                            refine rf_bx0 (hS.2.2.2.2.1 _ _ _ _ _ R) (fun u86' u86 r86 R_u86 => ?_)
                            exact (yb_Cm_expression_359 hS R_u86)
                          · refine rf_br ?_ ?_
                            · refine rf_ck (ox_35 R) ?_
                              refine rf_bx0 (hS.2.2.2.2.2.2.1 _ _ _ _ _ R) (fun u87' u87 r87 R_u87 => ?_)
                              exact (yb_Cm_expression_359 hS R_u87)
                            · refine rf_br ?_ ?_
                              · refine rf_ck (ox_35 R) ?_
                                refine rf_bx0 (hS.2.2.2.2.2.1 _ _ _ _ _ R) (fun u88' u88 r88 R_u88 => ?_)
                                exact (yb_Cm_expression_359 hS R_u88)
                              · refine rf_br ?_ ?_
                                · refine rf_ck (ox_35 R) ?_
                                  refine rf_bx0 (hS.2.2.2.2.1 _ _ _ _ _ R) (fun u89' u89 r89 R_u89 => ?_)
                                  exact (yb_Cm_expression_359 hS R_u89)
                                · refine rf_br ?_ ?_
                                  · refine rf_ck (ox_35 R) ?_
                                    refine rf_bx0 (hS.2.2.2.2.1 _ _ _ _ _ R) (fun u90' u90 r90 R_u90 => ?_)
                                    exact (yb_Cm_expression_359 hS R_u90)
                                  · refine rf_br ?_ ?_
                                    · refine rf_ck (ox_35 R) ?_
                                      refine rf_bx0 (hS.2.2.2.2.1 _ _ _ _ _ R) (fun u91' u91 r91 R_u91 => ?_)
                                      exact (yb_Cm_expression_359 hS R_u91)
                                    · refine rf_br ?_ ?_
                                      · refine rf_ck (ox_35 R) ?_
                                        refine rf_bx0 (hS.2.2.2.2.1 _ _ _ _ _ R) (fun u92' u92 r92 R_u92 => ?_)
                                        exact (yb_Cm_expression_359 hS R_u92)
                                      · refine rf_br ?_ ?_
                                        · refine rf_ck (ox_35 R) ?_
                                          refine rf_bx0 (hS.2.2.2.2.1 _ _ _ _ _ R) (fun u93' u93 r93 R_u93 => ?_)
                                          exact (yb_Cm_expression_359 hS R_u93)
                                        · refine rf_br ?_ ?_
                                          · refine rf_ck (ox_35 R) ?_
                                            refine rf_bx0 (hS.2.2.2.2.1 _ _ _ _ _ R) (fun u94' u94 r94 R_u94 => ?_)
                                            exact (yb_Cm_expression_359 hS R_u94)
                                          · refine rf_br ?_ ?_
                                            · refine rf_bo (rx_35_1 R) ?_
                                              refine rf_so ?_
                                              refine rf_bo (rx_15_2 R) ?_
                                              refine rf_so ?_
                                              refine rf_ai (ax_18 R) ?_
                                              refine rf_ck (ox_35 R) ?_
                                              refine rf_bx0 (hS.2.2.2.2.2.2.2.1 _ _ _ _ R) (fun u100' u100 r100 R_u100 => ?_)
                                              exact (yb_Cm_expression_359 hS R_u100)
                                            · refine rf_ck (ox_35 R) ?_
                                              refine rf_bx0 (hS.2.2.2.2.1 _ _ _ _ _ R) (fun u101' u101 r101 R_u101 => ?_)
                                              exact (yb_Cm_expression_359 hS R_u101)
theorem ym_Cm_expression {N : Nat} {o : Option Nat} {c : Nat → Nat} {m : MS} {u : CS} {S : SG_Cm_fun} {S' : SF_Cm_fun} (hS : SC_Cm_fun o S S') (R : RP o c m u) {v1 : Int32} {v2 : Int32} : RF 0 o VE c u (fm_Cm_expression N S u 35 v1 v2) (hm_Cm_expression N S' m v1 v2) := yb_Cm_expression_0 (N := N) hS R
end
section
set_option maxRecDepth 100000
theorem yb_Cm_tries_181 {N : Nat} {o : Option Nat} {c : Nat → Nat} {m : MS} {u : CS} {S : SG_Cm_fun} {S' : SF_Cm_fun} {G : (CS → Nat → Int32 → Int32 → Int32 → Int32 → Option (CS × Int32)) × (CS → Nat → Int32 → Int32 → Int32 → Option (CS × Int32))} {G' : (MS → Int32 → Int32 → Int32 → Int32 → Option (MS × Int32)) × (MS → Int32 → Int32 → Int32 → Option (MS × Int32))} (hS : SC_Cm_fun o S S') (hG1 : ∀ (c : Nat → Nat) (m : MS) (u : CS) (v2 : Int32) (v3 : Int32) (v4 : Int32) (v5 : Int32), RP o c m u → RF 0 o VE c u (G.1 u 35 v2 v3 v4 v5) (G'.1 m v2 v3 v4 v5)) (hG2 : ∀ (c : Nat → Nat) (m : MS) (u : CS) (v4 : Int32) (v5 : Int32) (v6 : Int32), RP o c m u → RF 0 o VE c u (G.2 u 35 v4 v5 v6) (G'.2 m v4 v5 v6)) (R : RP o c m u) {v4 : Int32} {v5 : Int32} {v6 : Int32} : RF 0 o VE c u (fb_Cm_tries_181 N S G u 35 v4 v5 v6) (hb_Cm_tries_181 N S' G' m v4 v5 v6) := by
  unfold fb_Cm_tries_181 hb_Cm_tries_181
  refine rf_br ?_ ?_
  · refine rf_bo (rx_35_2 R) ?_
    refine rf_so ?_
    refine rf_ck (ox_22 R) ?_
    refine rf_bx0 (ym_Co_put R) (fun u2' u2 r2 R_u2 => ?_)
    refine rf_ckk ?_
    refine rf_w (px_35_12 R_u2) (fun w4' w4 R_w4 => ?_)
    exact rf_ret R_w4 rfl
  · refine rf_ck (ox_35 R) ?_
    refine rf_bx0 (hS.2.2.2.2.2.2.2.2.2.2.1 _ _ _ _ _ R) (fun u5' u5 r5 R_u5 => ?_)
    refine rf_bo (rx_35_2 R_u5) ?_
    refine rf_so ?_
    refine rf_ck (ox_22 R_u5) ?_
    refine rf_bx0 (ym_Co_put R_u5) (fun u7' u7 r7 R_u7 => ?_)
    refine rf_bo (rx_35_1 R_u7) ?_
    refine rf_so ?_
    refine rf_bo (rx_15_5 R_u7) ?_
    refine rf_so ?_
    refine rf_ai (ax_21 R_u7) ?_
    exact (hG2 _ _ _ _ _ _ R_u7)
theorem yb_Cm_tries_111 {N : Nat} {o : Option Nat} {c : Nat → Nat} {m : MS} {u : CS} {S : SG_Cm_fun} {S' : SF_Cm_fun} {G : (CS → Nat → Int32 → Int32 → Int32 → Int32 → Option (CS × Int32)) × (CS → Nat → Int32 → Int32 → Int32 → Option (CS × Int32))} {G' : (MS → Int32 → Int32 → Int32 → Int32 → Option (MS × Int32)) × (MS → Int32 → Int32 → Int32 → Option (MS × Int32))} (hS : SC_Cm_fun o S S') (hG1 : ∀ (c : Nat → Nat) (m : MS) (u : CS) (v2 : Int32) (v3 : Int32) (v4 : Int32) (v5 : Int32), RP o c m u → RF 0 o VE c u (G.1 u 35 v2 v3 v4 v5) (G'.1 m v2 v3 v4 v5)) (hG2 : ∀ (c : Nat → Nat) (m : MS) (u : CS) (v4 : Int32) (v5 : Int32) (v6 : Int32), RP o c m u → RF 0 o VE c u (G.2 u 35 v4 v5 v6) (G'.2 m v4 v5 v6)) (R : RP o c m u) {v2 : Int32} {v3 : Int32} {v4 : Int32} : RF 0 o VE c u (fb_Cm_tries_111 N S G u 35 v2 v3 v4) (hb_Cm_tries_111 N S' G' m v2 v3 v4) := by
  unfold fb_Cm_tries_111 hb_Cm_tries_111
  refine rf_bo (rx_35_1 R) ?_
  refine rf_so ?_
  refine rf_bo (rx_15_3 R) ?_
  refine rf_so ?_
  refine rf_ai (ax_19 R) ?_
  refine rf_br ?_ ?_
  · exact rf_ret R rfl
  · refine rf_bo (gx_35_12 R) ?_
    refine rf_w (px_35_12 R) (fun w20' w20 R_w20 => ?_)
    refine rf_bo (rx_35_2 R_w20) ?_
    refine rf_so ?_
    refine rf_ck (ox_22 R_w20) ?_
    refine rf_bx0 (ym_Co_put R_w20) (fun u22' u22 r22 R_u22 => ?_)
    refine rf_bo (rx_35_2 R_u22) ?_
    refine rf_bo (gx_35_6 R_u22) ?_
    refine rf_so ?_
    refine rf_ck (ox_22 R_u22) ?_
    refine rf_bx0 (ym_Co_put R_u22) (fun u26' u26 r26 R_u26 => ?_)
    refine rf_bo (rx_35_2 R_u26) ?_
    refine rf_so ?_
    refine rf_ck (ox_22 R_u26) ?_
    refine rf_bx0 (ym_Co_hook R_u26) (fun u29' u29 r29 R_u29 => ?_)
    refine rf_bo (rx_35_1 R_u29) ?_
    refine rf_so ?_
    refine rf_bo (rx_15_3 R_u29) ?_
    refine rf_so ?_
    refine rf_ai (ax_19 R_u29) ?_
    exact (hG2 _ _ _ _ _ _ R_u29)
theorem yb_Cm_tries_71 {N : Nat} {o : Option Nat} {c : Nat → Nat} {m : MS} {u : CS} {S : SG_Cm_fun} {S' : SF_Cm_fun} {G : (CS → Nat → Int32 → Int32 → Int32 → Int32 → Option (CS × Int32)) × (CS → Nat → Int32 → Int32 → Int32 → Option (CS × Int32))} {G' : (MS → Int32 → Int32 → Int32 → Int32 → Option (MS × Int32)) × (MS → Int32 → Int32 → Int32 → Option (MS × Int32))} (hS : SC_Cm_fun o S S') (hG1 : ∀ (c : Nat → Nat) (m : MS) (u : CS) (v2 : Int32) (v3 : Int32) (v4 : Int32) (v5 : Int32), RP o c m u → RF 0 o VE c u (G.1 u 35 v2 v3 v4 v5) (G'.1 m v2 v3 v4 v5)) (hG2 : ∀ (c : Nat → Nat) (m : MS) (u : CS) (v4 : Int32) (v5 : Int32) (v6 : Int32), RP o c m u → RF 0 o VE c u (G.2 u 35 v4 v5 v6) (G'.2 m v4 v5 v6)) (R : RP o c m u) {v2 : Int32} {v3 : Int32} {v4 : Int32} {v5 : Int32} : RF 0 o VE c u (fb_Cm_tries_71 N S G u 35 v2 v3 v4 v5) (hb_Cm_tries_71 N S' G' m v2 v3 v4 v5) := by
  unfold fb_Cm_tries_71 hb_Cm_tries_71
  refine rf_br ?_ ?_
  · refine rf_w (px_35_13 R) (fun w36' w36 R_w36 => ?_)
    refine rf_bo (rx_35_2 R_w36) ?_
    refine rf_so ?_
    refine rf_ck (ox_22 R_w36) ?_
    refine rf_bx0 (ym_Co_put R_w36) (fun u38' u38 r38 R_u38 => ?_)
    exact (yb_Cm_tries_111 hS hG1 hG2 R_u38)
  · refine rf_ck (ox_35 R) ?_
    refine rf_bx0 (yr_Cm_pattern R) (fun u40' u40 r40 R_u40 => ?_)
    refine rf_bo (rx_35_1 R_u40) ?_
    refine rf_so ?_
    refine rf_bo (rx_15_5 R_u40) ?_
    refine rf_so ?_
    refine rf_ai (ax_21 R_u40) ?_
    exact (hG1 _ _ _ _ _ _ _ R_u40)
theorem yb_Cm_tries_57 {N : Nat} {o : Option Nat} {c : Nat → Nat} {m : MS} {u : CS} {S : SG_Cm_fun} {S' : SF_Cm_fun} {G : (CS → Nat → Int32 → Int32 → Int32 → Int32 → Option (CS × Int32)) × (CS → Nat → Int32 → Int32 → Int32 → Option (CS × Int32))} {G' : (MS → Int32 → Int32 → Int32 → Int32 → Option (MS × Int32)) × (MS → Int32 → Int32 → Int32 → Option (MS × Int32))} (hS : SC_Cm_fun o S S') (hG1 : ∀ (c : Nat → Nat) (m : MS) (u : CS) (v2 : Int32) (v3 : Int32) (v4 : Int32) (v5 : Int32), RP o c m u → RF 0 o VE c u (G.1 u 35 v2 v3 v4 v5) (G'.1 m v2 v3 v4 v5)) (hG2 : ∀ (c : Nat → Nat) (m : MS) (u : CS) (v4 : Int32) (v5 : Int32) (v6 : Int32), RP o c m u → RF 0 o VE c u (G.2 u 35 v4 v5 v6) (G'.2 m v4 v5 v6)) (R : RP o c m u) {v2 : Int32} {v3 : Int32} {v4 : Int32} {t1 : Int32} : RF 0 o VE c u (fb_Cm_tries_57 N S G u 35 v2 v3 v4 35 t1) (hb_Cm_tries_57 N S' G' m v2 v3 v4 t1) := by
  unfold fb_Cm_tries_57 hb_Cm_tries_57
  refine rf_ckk ?_
  refine rf_w (px_35_13 R) (fun w46' w46 R_w46 => ?_)
  refine rf_bo (rx_35_1 R_w46) ?_
  refine rf_so ?_
  refine rf_bo (rx_15_2 R_w46) ?_
  refine rf_so ?_
  refine rf_ai (ax_18 R_w46) ?_
  exact (hG1 _ _ _ _ _ _ _ R_w46)
theorem yb_Cm_tries_0 {N : Nat} {o : Option Nat} {c : Nat → Nat} {m : MS} {u : CS} {S : SG_Cm_fun} {S' : SF_Cm_fun} {G : (CS → Nat → Int32 → Int32 → Int32 → Int32 → Option (CS × Int32)) × (CS → Nat → Int32 → Int32 → Int32 → Option (CS × Int32))} {G' : (MS → Int32 → Int32 → Int32 → Int32 → Option (MS × Int32)) × (MS → Int32 → Int32 → Int32 → Option (MS × Int32))} (hS : SC_Cm_fun o S S') (hG1 : ∀ (c : Nat → Nat) (m : MS) (u : CS) (v2 : Int32) (v3 : Int32) (v4 : Int32) (v5 : Int32), RP o c m u → RF 0 o VE c u (G.1 u 35 v2 v3 v4 v5) (G'.1 m v2 v3 v4 v5)) (hG2 : ∀ (c : Nat → Nat) (m : MS) (u : CS) (v4 : Int32) (v5 : Int32) (v6 : Int32), RP o c m u → RF 0 o VE c u (G.2 u 35 v4 v5 v6) (G'.2 m v4 v5 v6)) (R : RP o c m u) {v1 : Int32} {v2 : Int32} : RF 0 o VE c u (fb_Cm_tries_0 N S G u 35 v1 v2) (hb_Cm_tries_0 N S' G' m v1 v2) := by
  unfold fb_Cm_tries_0 hb_Cm_tries_0
  refine rf_bo (gx_35_6 R) ?_
  refine rf_bo (rx_35_1 R) ?_
  refine rf_so ?_
  refine rf_bo (rx_15_2 R) ?_
  refine rf_so ?_
  refine rf_ai (ax_18 R) ?_
  refine rf_br ?_ ?_
  · exact (yb_Cm_tries_111 hS hG1 hG2 R)
  · refine rf_bo (rx_35_2 R) ?_
    refine rf_so ?_
    refine rf_ck (ox_22 R) ?_
    refine rf_bx0 (ym_Co_put R) (fun u59' u59 r59 R_u59 => ?_)
    refine rf_bo (rx_35_2 R_u59) ?_
    refine rf_so ?_
    refine rf_ck (ox_22 R_u59) ?_
    refine rf_bx0 (ym_Co_put R_u59) (fun u62' u62 r62 R_u62 => ?_)
    refine rf_bo (rx_35_2 R_u62) ?_
    refine rf_so ?_
    refine rf_ck (ox_22 R_u62) ?_
    refine rf_bx0 (ym_Co_hook R_u62) (fun u65' u65 r65 R_u65 => ?_)
    refine rf_br ?_ ?_
    · exact (yb_Cm_tries_57 hS hG1 hG2 R_u65)
    · exact (yb_Cm_tries_57 hS hG1 hG2 R_u65)
theorem yg_Cm_tries {N : Nat} {o : Option Nat} {S : SG_Cm_fun} {S' : SF_Cm_fun} (hS : SC_Cm_fun o S S') : ∀ n, (∀ (c : Nat → Nat) (m : MS) (u : CS) (v2 : Int32) (v3 : Int32) (v4 : Int32) (v5 : Int32), RP o c m u → RF 0 o VE c u ((gg_Cm_tries N S n).1 u 35 v2 v3 v4 v5) ((hg_Cm_tries N S' n).1 m v2 v3 v4 v5)) ∧ (∀ (c : Nat → Nat) (m : MS) (u : CS) (v4 : Int32) (v5 : Int32) (v6 : Int32), RP o c m u → RF 0 o VE c u ((gg_Cm_tries N S n).2 u 35 v4 v5 v6) ((hg_Cm_tries N S' n).2 m v4 v5 v6)) := by
  intro n
  induction n with
  | zero => exact ⟨fun c m u v2 v3 v4 v5 R => rf_none, fun c m u v4 v5 v6 R => rf_none⟩
  | succ n ih => exact ⟨fun c m u v2 v3 v4 v5 R => yb_Cm_tries_71 (N := N) hS ih.1 ih.2 R, fun c m u v4 v5 v6 R => yb_Cm_tries_181 (N := N) hS ih.1 ih.2 R⟩
theorem ym_Cm_tries {N : Nat} {o : Option Nat} {c : Nat → Nat} {m : MS} {u : CS} {S : SG_Cm_fun} {S' : SF_Cm_fun} (hS : SC_Cm_fun o S S') (R : RP o c m u) {v1 : Int32} {v2 : Int32} : RF 0 o VE c u (fm_Cm_tries N S u 35 v1 v2) (hm_Cm_tries N S' m v1 v2) := yb_Cm_tries_0 (N := N) hS (yg_Cm_tries (N := N) hS N).1 (yg_Cm_tries (N := N) hS N).2 R
theorem yb_Cm_clause_0 {N : Nat} {o : Option Nat} {c : Nat → Nat} {m : MS} {u : CS} {S : SG_Cm_fun} {S' : SF_Cm_fun} (hS : SC_Cm_fun o S S') (R : RP o c m u) {v1 : Int32} {v2 : Int32} {v3 : Int32} : RF 0 o VE c u (fb_Cm_clause_0 N S () u 35 v1 v2 v3) (hb_Cm_clause_0 N S' () m v1 v2 v3) := by
  unfold fb_Cm_clause_0 hb_Cm_clause_0
  refine rf_bo (gx_35_6 R) ?_
  refine rf_ck (ox_35 R) ?_
  refine rf_bx0 (hS.2.2.2.2.2.2.2.2.2.2.2.1 _ _ _ _ _ R) (fun u2' u2 r2 R_u2 => ?_)
  refine rf_bo (rx_35_2 R_u2) ?_
  refine rf_so ?_
  refine rf_ck (ox_22 R_u2) ?_
  refine rf_bx0 (ym_Co_put R_u2) (fun u4' u4 r4 R_u4 => ?_)
  refine rf_bo (rx_35_2 R_u4) ?_
  refine rf_so ?_
  refine rf_ck (ox_22 R_u4) ?_
  refine rf_bx0 (ym_Co_put R_u4) (fun u7' u7 r7 R_u7 => ?_)
  refine rf_bo (rx_35_2 R_u7) ?_
  refine rf_so ?_
  refine rf_ck (ox_22 R_u7) ?_
  refine rf_bx0 (ym_Co_put R_u7) (fun u10' u10 r10 R_u10 => ?_)
  refine rf_bo (rx_35_1 R_u10) ?_
  refine rf_so ?_
  refine rf_bo (rx_15_4 R_u10) ?_
  refine rf_so ?_
  refine rf_ai (ax_20 R_u10) ?_
  refine rf_ck (ox_35 R_u10) ?_
  refine rf_bx0 (hS.2.2.2.1 _ _ _ _ _ R_u10) (fun u17' u17 r17 R_u17 => ?_)
  refine rf_bo (rx_35_2 R_u17) ?_
  refine rf_so ?_
  refine rf_ck (ox_22 R_u17) ?_
  refine rf_bx0 (ym_Co_put R_u17) (fun u19' u19 r19 R_u19 => ?_)
  refine rf_w (px_35_6 R_u19) (fun w21' w21 R_w21 => ?_)
  refine rf_bo (rx_35_2 R_w21) ?_
  refine rf_so ?_
  refine rf_ck (ox_22 R_w21) ?_
  refine rf_bx0 (ym_Co_arrive R_w21) (fun u23' u23 r23 R_u23 => ?_)
  exact rf_ret R_u23 rfl
theorem ym_Cm_clause {N : Nat} {o : Option Nat} {c : Nat → Nat} {m : MS} {u : CS} {S : SG_Cm_fun} {S' : SF_Cm_fun} (hS : SC_Cm_fun o S S') (R : RP o c m u) {v1 : Int32} {v2 : Int32} {v3 : Int32} : RF 0 o VE c u (fm_Cm_clause N S u 35 v1 v2 v3) (hm_Cm_clause N S' m v1 v2 v3) := yb_Cm_clause_0 (N := N) hS R
theorem yrc_Cm_fun {N : Nat} {o : Option Nat} : ∀ d, SC_Cm_fun o (rc_Cm_fun N d) (hrc_Cm_fun N d) := by
  intro d
  induction d with
  | zero => exact ⟨fun c m u v1 R => rf_none, fun c m u v1 v2 R => rf_none, fun c m u v1 v2 v3 v4 R => rf_none, fun c m u v1 v2 R => rf_none, fun c m u v1 v2 R => rf_none, fun c m u v1 v2 R => rf_none, fun c m u v1 v2 R => rf_none, fun c m u v1 R => rf_none, fun c m u v1 R => rf_none, fun c m u v1 R => rf_none, fun c m u v1 v2 R => rf_none, fun c m u v1 v2 R => rf_none, fun c m u v1 v2 v3 R => rf_none⟩
  | succ d ih => exact ⟨fun c m u v1 R => ym_Cm_fun (N := N) ih R, fun c m u v1 v2 R => ym_Cm_receive (N := N) ih R, fun c m u v1 v2 v3 v4 R => ym_Cm_parts (N := N) ih R, fun c m u v1 v2 R => ym_Cm_body (N := N) ih R, fun c m u v1 v2 R => ym_Cm_compound (N := N) ih R, fun c m u v1 v2 R => ym_Cm_apply (N := N) ih R, fun c m u v1 v2 R => ym_Cm_call (N := N) ih R, fun c m u v1 R => ym_Cm_signs (N := N) ih R, fun c m u v1 R => ym_Cm_list (N := N) ih R, fun c m u v1 R => ym_Cm_row (N := N) ih R, fun c m u v1 v2 R => ym_Cm_expression (N := N) ih R, fun c m u v1 v2 R => ym_Cm_tries (N := N) ih R, fun c m u v1 v2 v3 R => ym_Cm_clause (N := N) ih R⟩
theorem yr_Cm_clause {N : Nat} {o : Option Nat} {c : Nat → Nat} {m : MS} {u : CS} (R : RP o c m u) {v1 : Int32} {v2 : Int32} {v3 : Int32} : RF 0 o VE c u (fr_Cm_clause N u 35 v1 v2 v3) (hr_Cm_clause N m v1 v2 v3) := (yrc_Cm_fun (N := N) 300).2.2.2.2.2.2.2.2.2.2.2.2 _ _ _ _ _ _ R
theorem yb_Cm_oneFunction_268 {N : Nat} {o : Option Nat} {c : Nat → Nat} {m : MS} {u : CS} {G : (CS → Nat → Int32 → Int32 → Option (CS × Unit))} {G' : (MS → Int32 → Int32 → Option (MS × Unit))} (hG : ∀ (c : Nat → Nat) (m : MS) (u : CS) (v1 : Int32) (v3 : Int32), RP o c m u → RF 0 o VE c u (G u 35 v1 v3) (G' m v1 v3)) (R : RP o c m u) {t1 : Int32} : RF 0 o VE c u (fb_Cm_oneFunction_268 N G u 35 t1) (hb_Cm_oneFunction_268 N G' m t1) := by
  unfold fb_Cm_oneFunction_268 hb_Cm_oneFunction_268
  refine rf_ckk ?_
  refine rf_w (px_35_11 R) (fun w1' w1 R_w1 => ?_)
  exact rf_ret R_w1 rfl
theorem yb_Cm_oneFunction_263 {N : Nat} {o : Option Nat} {c : Nat → Nat} {m : MS} {u : CS} {G : (CS → Nat → Int32 → Int32 → Option (CS × Unit))} {G' : (MS → Int32 → Int32 → Option (MS × Unit))} (hG : ∀ (c : Nat → Nat) (m : MS) (u : CS) (v1 : Int32) (v3 : Int32), RP o c m u → RF 0 o VE c u (G u 35 v1 v3) (G' m v1 v3)) (R : RP o c m u) : RF 0 o VE c u (fb_Cm_oneFunction_263 N G u 35) (hb_Cm_oneFunction_263 N G' m) := by
  unfold fb_Cm_oneFunction_263 hb_Cm_oneFunction_263
  exact (yb_Cm_oneFunction_268 hG R)
theorem yb_Cm_oneFunction_205 {N : Nat} {o : Option Nat} {c : Nat → Nat} {m : MS} {u : CS} {G : (CS → Nat → Int32 → Int32 → Option (CS × Unit))} {G' : (MS → Int32 → Int32 → Option (MS × Unit))} (hG : ∀ (c : Nat → Nat) (m : MS) (u : CS) (v1 : Int32) (v3 : Int32), RP o c m u → RF 0 o VE c u (G u 35 v1 v3) (G' m v1 v3)) (R : RP o c m u) {v1 : Int32} {v3 : Int32} {v4 : Int32} {v5 : Int32} : RF 0 o VE c u (fb_Cm_oneFunction_205 N G u 35 v1 v3 v4 v5) (hb_Cm_oneFunction_205 N G' m v1 v3 v4 v5) := by
  unfold fb_Cm_oneFunction_205 hb_Cm_oneFunction_205
  refine rf_bo (rx_35_0 R) ?_
  refine rf_so ?_
  refine rf_bo (rx_4_4 R) ?_
  refine rf_so ?_
  refine rf_ai (ax_8 R) ?_
  refine rf_ck (ox_35 R) ?_
  refine rf_bx0 (yr_Cm_clause R) (fun u7' u7 r7 R_u7 => ?_)
  refine rf_bo (rx_35_1 R_u7) ?_
  refine rf_so ?_
  refine rf_bo (rx_15_5 R_u7) ?_
  refine rf_so ?_
  refine rf_ai (ax_21 R_u7) ?_
  exact (hG _ _ _ _ _ R_u7)
theorem yb_Cm_oneFunction_198 {N : Nat} {o : Option Nat} {c : Nat → Nat} {m : MS} {u : CS} {G : (CS → Nat → Int32 → Int32 → Option (CS × Unit))} {G' : (MS → Int32 → Int32 → Option (MS × Unit))} (hG : ∀ (c : Nat → Nat) (m : MS) (u : CS) (v1 : Int32) (v3 : Int32), RP o c m u → RF 0 o VE c u (G u 35 v1 v3) (G' m v1 v3)) (R : RP o c m u) {v1 : Int32} {v3 : Int32} {v4 : Int32} {v5 : Int32} : RF 0 o VE c u (fb_Cm_oneFunction_198 N G u 35 v1 v3 v4 v5) (hb_Cm_oneFunction_198 N G' m v1 v3 v4 v5) := by
  unfold fb_Cm_oneFunction_198 hb_Cm_oneFunction_198
  refine rf_ck (ox_35 R) ?_
  refine rf_bx0 (ym_Cm_fault R) (fun u13' u13 r13 R_u13 => ?_)
  exact (yb_Cm_oneFunction_205 hG R_u13)
theorem yb_Cm_oneFunction_129 {N : Nat} {o : Option Nat} {c : Nat → Nat} {m : MS} {u : CS} {G : (CS → Nat → Int32 → Int32 → Option (CS × Unit))} {G' : (MS → Int32 → Int32 → Option (MS × Unit))} (hG : ∀ (c : Nat → Nat) (m : MS) (u : CS) (v1 : Int32) (v3 : Int32), RP o c m u → RF 0 o VE c u (G u 35 v1 v3) (G' m v1 v3)) (R : RP o c m u) {v1 : Int32} {v3 : Int32} : RF 0 o VE c u (fb_Cm_oneFunction_129 N G u 35 v1 v3) (hb_Cm_oneFunction_129 N G' m v1 v3) := by
  unfold fb_Cm_oneFunction_129 hb_Cm_oneFunction_129
  refine rf_br ?_ ?_
  · refine rf_bo (rx_35_2 R) ?_
    refine rf_so ?_
    refine rf_ck (ox_22 R) ?_
    refine rf_bx0 (ym_Co_put R) (fun u15' u15 r15 R_u15 => ?_)
    refine rf_bo (gx_35_11 R_u15) ?_
    refine rf_br ?_ ?_
    · refine rf_bo (rx_35_8 R_u15) ?_
      refine rf_so ?_
      refine rf_ai (ax_41 R_u15) ?_
      refine rf_br ?_ ?_
      · exact (yb_Cm_oneFunction_268 hG R_u15)
      · exact (yb_Cm_oneFunction_263 hG R_u15)
    · exact (yb_Cm_oneFunction_263 hG R_u15)
  · refine rf_bo (rx_35_1 R) ?_
    refine rf_so ?_
    refine rf_bo (rx_15_1 R) ?_
    refine rf_so ?_
    refine rf_ai (ax_17 R) ?_
    refine rf_bo (rx_35_1 R) ?_
    refine rf_bo (rx_35_1 R) ?_
    refine rf_so ?_
    refine rf_bo (rx_15_2 R) ?_
    refine rf_so ?_
    refine rf_ai (ax_18 R) ?_
    refine rf_so ?_
    refine rf_ck (ox_15 R) ?_
    refine rf_bx0 (ym_Tr_length R) (fun u32' u32 r32 R_u32 => ?_)
    refine rf_bo (rx_35_0 R_u32) ?_
    refine rf_so ?_
    refine rf_bo (rx_4_3 R_u32) ?_
    refine rf_so ?_
    refine rf_ai (ax_7 R_u32) ?_
    refine rf_bo (rx_35_2 R_u32) ?_
    refine rf_so ?_
    refine rf_bo (rx_22_3 R_u32) ?_
    refine rf_so ?_
    refine rf_ai (ax_24 R_u32) ?_
    refine rf_br ?_ ?_
    · refine rf_bo (rx_35_2 R_u32) ?_
      refine rf_so ?_
      refine rf_bo (rx_22_4 R_u32) ?_
      refine rf_so ?_
      refine rf_ai (ax_25 R_u32) ?_
      refine rf_br ?_ ?_
      · exact (yb_Cm_oneFunction_205 hG R_u32)
      · exact (yb_Cm_oneFunction_198 hG R_u32)
    · exact (yb_Cm_oneFunction_198 hG R_u32)
theorem yb_Cm_oneFunction_79 {N : Nat} {o : Option Nat} {c : Nat → Nat} {m : MS} {u : CS} {G : (CS → Nat → Int32 → Int32 → Option (CS × Unit))} {G' : (MS → Int32 → Int32 → Option (MS × Unit))} (hG : ∀ (c : Nat → Nat) (m : MS) (u : CS) (v1 : Int32) (v3 : Int32), RP o c m u → RF 0 o VE c u (G u 35 v1 v3) (G' m v1 v3)) (R : RP o c m u) {v1 : Int32} : RF 0 o VE c u (fb_Cm_oneFunction_79 N G u 35 v1) (hb_Cm_oneFunction_79 N G' m v1) := by
  unfold fb_Cm_oneFunction_79 hb_Cm_oneFunction_79
  refine rf_w (px_35_9 R) (fun w49' w49 R_w49 => ?_)
  refine rf_w (px_35_6 R_w49) (fun w50' w50 R_w50 => ?_)
  refine rf_bo (rx_35_7 R_w50) ?_
  refine rf_so ?_
  refine rf_wk (sx_40 R_w50) (fun w53' w53 R_w53 => ?_)
  refine rf_bo (rx_35_8 R_w53) ?_
  refine rf_so ?_
  refine rf_wk (sx_41 R_w53) (fun w56' w56 R_w56 => ?_)
  refine rf_bo (rx_35_2 R_w56) ?_
  refine rf_so ?_
  refine rf_bo (rx_22_8 R_w56) ?_
  refine rf_bo (rx_35_2 R_w56) ?_
  refine rf_so ?_
  refine rf_bo (gx_22_1 R_w56) ?_
  refine rf_so ?_
  refine rf_wk (sx_29 R_w56) (fun w64' w64 R_w64 => ?_)
  refine rf_bo (rx_35_2 R_w64) ?_
  refine rf_so ?_
  refine rf_bo (rx_22_6 R_w64) ?_
  refine rf_so ?_
  refine rf_ai (ax_27 R_w64) ?_
  exact (hG _ _ _ _ _ R_w64)
theorem yb_Cm_oneFunction_73 {N : Nat} {o : Option Nat} {c : Nat → Nat} {m : MS} {u : CS} {G : (CS → Nat → Int32 → Int32 → Option (CS × Unit))} {G' : (MS → Int32 → Int32 → Option (MS × Unit))} (hG : ∀ (c : Nat → Nat) (m : MS) (u : CS) (v1 : Int32) (v3 : Int32), RP o c m u → RF 0 o VE c u (G u 35 v1 v3) (G' m v1 v3)) (R : RP o c m u) {v1 : Int32} {v2 : Int32} : RF 0 o VE c u (fb_Cm_oneFunction_73 N G u 35 v1 v2) (hb_Cm_oneFunction_73 N G' m v1 v2) := by
  unfold fb_Cm_oneFunction_73 hb_Cm_oneFunction_73
  refine rf_ck (ox_35 R) ?_
  refine rf_bx0 (ym_Cm_fault R) (fun u70' u70 r70 R_u70 => ?_)
  exact (yb_Cm_oneFunction_79 hG R_u70)
theorem yb_Cm_oneFunction_0 {N : Nat} {o : Option Nat} {c : Nat → Nat} {m : MS} {u : CS} {G : (CS → Nat → Int32 → Int32 → Option (CS × Unit))} {G' : (MS → Int32 → Int32 → Option (MS × Unit))} (hG : ∀ (c : Nat → Nat) (m : MS) (u : CS) (v1 : Int32) (v3 : Int32), RP o c m u → RF 0 o VE c u (G u 35 v1 v3) (G' m v1 v3)) (R : RP o c m u) {v1 : Int32} : RF 0 o VE c u (fb_Cm_oneFunction_0 N G u 35 v1) (hb_Cm_oneFunction_0 N G' m v1) := by
  unfold fb_Cm_oneFunction_0 hb_Cm_oneFunction_0
  refine rf_bo (rx_35_1 R) ?_
  refine rf_so ?_
  refine rf_bo (rx_15_1 R) ?_
  refine rf_bo (rx_35_2 R) ?_
  refine rf_so ?_
  refine rf_bo (rx_22_6 R) ?_
  refine rf_so ?_
  refine rf_ai (ax_27 R) ?_
  refine rf_so ?_
  refine rf_ai (ax_17 R) ?_
  refine rf_bo (rx_35_2 R) ?_
  refine rf_bo (rx_35_2 R) ?_
  refine rf_so ?_
  refine rf_bo (rx_22_3 R) ?_
  refine rf_so ?_
  refine rf_ai (ax_24 R) ?_
  refine rf_bo (rx_35_2 R) ?_
  refine rf_so ?_
  refine rf_bo (rx_22_4 R) ?_
  refine rf_so ?_
  refine rf_ai (ax_25 R) ?_
  refine rf_so ?_
  refine rf_ck (ox_22 R) ?_
  refine rf_bx0 (ym_Co_seek R) (fun u92' u92 r92 R_u92 => ?_)
  refine rf_br ?_ ?_
  · refine rf_bo (rx_35_2 R_u92) ?_
    refine rf_so ?_
    refine rf_bo (rx_22_3 R_u92) ?_
    refine rf_so ?_
    refine rf_ai (ax_24 R_u92) ?_
    refine rf_bo (rx_35_2 R_u92) ?_
    refine rf_so ?_
    refine rf_bo (rx_22_4 R_u92) ?_
    refine rf_so ?_
    refine rf_ai (ax_25 R_u92) ?_
    refine rf_ck (ox_35 R_u92) ?_
    refine rf_bx0 (ym_Cm_predefinedOf R_u92) (fun u104' u104 r104 R_u104 => ?_)
    refine rf_br ?_ ?_
    · exact (yb_Cm_oneFunction_79 hG R_u104)
    · exact (yb_Cm_oneFunction_73 hG R_u104)
  · exact (yb_Cm_oneFunction_73 hG R_u92)
theorem yg_Cm_oneFunction {N : Nat} {o : Option Nat} : ∀ n, (∀ (c : Nat → Nat) (m : MS) (u : CS) (v1 : Int32) (v3 : Int32), RP o c m u → RF 0 o VE c u ((gg_Cm_oneFunction N n) u 35 v1 v3) ((hg_Cm_oneFunction N n) m v1 v3)) := by
  intro n
  induction n with
  | zero => exact fun c m u v1 v3 R => rf_none
  | succ n ih => exact fun c m u v1 v3 R => yb_Cm_oneFunction_129 (N := N) ih R
theorem ym_Cm_oneFunction {N : Nat} {o : Option Nat} {c : Nat → Nat} {m : MS} {u : CS} (R : RP o c m u) {v1 : Int32} : RF 0 o VE c u (fm_Cm_oneFunction N u 35 v1) (hm_Cm_oneFunction N m v1) := yb_Cm_oneFunction_0 (N := N) (yg_Cm_oneFunction (N := N) N) R
theorem yb_Cm_compile_142 {N : Nat} {o : Option Nat} {c : Nat → Nat} {m : MS} {u : CS} {G : (CS → Nat → Int32 → Option (CS × Int32))} {G' : (MS → Int32 → Option (MS × Int32))} (hG : ∀ (c : Nat → Nat) (m : MS) (u : CS) (v1 : Int32), RP o c m u → RF 0 o VE c u (G u 35 v1) (G' m v1)) (R : RP o c m u) {t0 : Int32} : RF 0 o VE c u (fb_Cm_compile_142 N G u t0) (hb_Cm_compile_142 N G' m t0) := by
  unfold fb_Cm_compile_142 hb_Cm_compile_142
  exact rf_ret R rfl
theorem yb_Cm_compile_136 {N : Nat} {o : Option Nat} {c : Nat → Nat} {m : MS} {u : CS} {G : (CS → Nat → Int32 → Option (CS × Int32))} {G' : (MS → Int32 → Option (MS × Int32))} (hG : ∀ (c : Nat → Nat) (m : MS) (u : CS) (v1 : Int32), RP o c m u → RF 0 o VE c u (G u 35 v1) (G' m v1)) (R : RP o c m u) : RF 0 o VE c u (fb_Cm_compile_136 N G u) (hb_Cm_compile_136 N G' m) := by
  unfold fb_Cm_compile_136 hb_Cm_compile_136
  exact (yb_Cm_compile_142 hG R)
theorem yb_Cm_compile_124 {N : Nat} {o : Option Nat} {c : Nat → Nat} {m : MS} {u : CS} {G : (CS → Nat → Int32 → Option (CS × Int32))} {G' : (MS → Int32 → Option (MS × Int32))} (hG : ∀ (c : Nat → Nat) (m : MS) (u : CS) (v1 : Int32), RP o c m u → RF 0 o VE c u (G u 35 v1) (G' m v1)) (R : RP o c m u) {t0 : Int32} : RF 0 o VE c u (fb_Cm_compile_124 N G u 35 t0) (hb_Cm_compile_124 N G' m t0) := by
  unfold fb_Cm_compile_124 hb_Cm_compile_124
  refine rf_br ?_ ?_
  · refine rf_bo (gx_35_11 R) ?_
    refine rf_br ?_ ?_
    · exact (yb_Cm_compile_142 hG R)
    · exact (yb_Cm_compile_136 hG R)
  · exact (yb_Cm_compile_136 hG R)
theorem yb_Cm_compile_119 {N : Nat} {o : Option Nat} {c : Nat → Nat} {m : MS} {u : CS} {G : (CS → Nat → Int32 → Option (CS × Int32))} {G' : (MS → Int32 → Option (MS × Int32))} (hG : ∀ (c : Nat → Nat) (m : MS) (u : CS) (v1 : Int32), RP o c m u → RF 0 o VE c u (G u 35 v1) (G' m v1)) (R : RP o c m u) : RF 0 o VE c u (fb_Cm_compile_119 N G u 35) (hb_Cm_compile_119 N G' m) := by
  unfold fb_Cm_compile_119 hb_Cm_compile_119
  exact (yb_Cm_compile_124 hG R)
theorem yb_Cm_compile_23 {N : Nat} {o : Option Nat} {c : Nat → Nat} {m : MS} {u : CS} {G : (CS → Nat → Int32 → Option (CS × Int32))} {G' : (MS → Int32 → Option (MS × Int32))} (hG : ∀ (c : Nat → Nat) (m : MS) (u : CS) (v1 : Int32), RP o c m u → RF 0 o VE c u (G u 35 v1) (G' m v1)) (R : RP o c m u) {v1 : Int32} : RF 0 o VE c u (fb_Cm_compile_23 N G u 35 v1) (hb_Cm_compile_23 N G' m v1) := by
  unfold fb_Cm_compile_23 hb_Cm_compile_23
  refine rf_bo (rx_35_2 R) ?_
  refine rf_so ?_
  refine rf_bo (gx_22_2 R) ?_
  refine rf_br ?_ ?_
  · refine rf_bo (gx_35_14 R) ?_
    refine rf_br ?_ ?_
    · refine rf_bo (rx_35_2 R) ?_
      refine rf_so ?_
      refine rf_bo (gx_22_2 R) ?_
      refine rf_br ?_ ?_
      · exact (yb_Cm_compile_119 hG R)
      · refine rf_bo (rx_35_3 R) ?_
        refine rf_so ?_
        refine rf_bo (gx_1_2 R) ?_
        refine rf_br ?_ ?_
        · exact (yb_Cm_compile_119 hG R)
        · refine rf_bo (rx_35_0 R) ?_
          refine rf_so ?_
          refine rf_bo (gx_4_5 R) ?_
          refine rf_br ?_ ?_
          · exact (yb_Cm_compile_124 hG R)
          · exact (yb_Cm_compile_119 hG R)
    · refine rf_bo (gx_35_14 R) ?_
      refine rf_bo (rx_35_0 R) ?_
      refine rf_so ?_
      refine rf_bo (rx_4_4 R) ?_
      refine rf_bo (gx_35_14 R) ?_
      refine rf_so ?_
      refine rf_ai (ax_8 R) ?_
      exact rf_ret R rfl
  · refine rf_ck (ox_35 R) ?_
    refine rf_bx0 (ym_Cm_oneFunction R) (fun u22' u22 r22 R_u22 => ?_)
    exact (hG _ _ _ _ R_u22)
theorem yb_Cm_compile_0 {N : Nat} {o : Option Nat} {c : Nat → Nat} {m : MS} {u : CS} {G : (CS → Nat → Int32 → Option (CS × Int32))} {G' : (MS → Int32 → Option (MS × Int32))} (hG : ∀ (c : Nat → Nat) (m : MS) (u : CS) (v1 : Int32), RP o c m u → RF 0 o VE c u (G u 35 v1) (G' m v1)) (R : RP o c m u) : RF 0 o VE c u (fb_Cm_compile_0 N G u 35) (hb_Cm_compile_0 N G' m) := by
  unfold fb_Cm_compile_0 hb_Cm_compile_0
  refine rf_w (px_35_14 R) (fun w23' w23 R_w23 => ?_)
  refine rf_w (px_35_11 R_w23) (fun w24' w24 R_w24 => ?_)
  refine rf_w (px_35_12 R_w24) (fun w25' w25 R_w25 => ?_)
  refine rf_w (px_35_13 R_w25) (fun w26' w26 R_w26 => ?_)
  exact (hG _ _ _ _ R_w26)
theorem yg_Cm_compile {N : Nat} {o : Option Nat} : ∀ n, (∀ (c : Nat → Nat) (m : MS) (u : CS) (v1 : Int32), RP o c m u → RF 0 o VE c u ((gg_Cm_compile N n) u 35 v1) ((hg_Cm_compile N n) m v1)) := by
  intro n
  induction n with
  | zero => exact fun c m u v1 R => rf_none
  | succ n ih => exact fun c m u v1 R => yb_Cm_compile_23 (N := N) ih R
theorem ym_Cm_compile {N : Nat} {o : Option Nat} {c : Nat → Nat} {m : MS} {u : CS} (R : RP o c m u) : RF 0 o VE c u (fm_Cm_compile N u 35) (hm_Cm_compile N m) := yb_Cm_compile_0 (N := N) (yg_Cm_compile (N := N) N) R
theorem yb_H_read_45 {N : Nat} {c : Nat → Nat} {m : MS} {u : CS} (R : RP none c m u) {v1 : Int32} {t1 : Int32} : RF 0 none VE c u (fb_H_read_45 N () u 0 v1 0 t1) (hb_H_read_45 N () m v1 t1) := by
  unfold fb_H_read_45 hb_H_read_45
  refine rf_ckk ?_
  refine rf_w (px_0_10 R) (fun w1' w1 R_w1 => ?_)
  refine rf_bo (rx_0_6 R_w1) ?_
  refine rf_so ?_
  refine rf_ck (ox_47 R_w1) ?_
  refine rf_bx0 (ym_Wl_clearAll R_w1) (fun u3' u3 r3 R_u3 => ?_)
  exact rf_ret R_u3 rfl
theorem yb_H_read_27 {N : Nat} {c : Nat → Nat} {m : MS} {u : CS} (R : RP none c m u) {v1 : Int32} : RF 0 none VE c u (fb_H_read_27 N () u 0 v1) (hb_H_read_27 N () m v1) := by
  unfold fb_H_read_27 hb_H_read_27
  refine rf_bo (rx_0_1 R) ?_
  refine rf_so ?_
  refine rf_w (px_4_1 R) (fun w7' w7 R_w7 => ?_)
  refine rf_br ?_ ?_
  · exact (yb_H_read_45 R_w7)
  · exact (yb_H_read_45 R_w7)
theorem yb_H_read_0 {N : Nat} {c : Nat → Nat} {m : MS} {u : CS} (R : RP none c m u) : RF 0 none VE c u (fb_H_read_0 N () u 0) (hb_H_read_0 N () m) := by
  unfold fb_H_read_0 hb_H_read_0
  refine rf_bo (rx_0_1 R) ?_
  refine rf_so ?_
  refine rf_ck (ox_4 R) ?_
  refine rf_bx0 (ym_To_scanAll R) (fun u9' u9 r9 R_u9 => ?_)
  refine rf_bo (rx_0_3 R_u9) ?_
  refine rf_so ?_
  refine rf_ck (ox_33 R_u9) ?_
  refine rf_bx0 (ym_Pa_parse R_u9) (fun u12' u12 r12 R_u12 => ?_)
  refine rf_br ?_ ?_
  · refine rf_bo (rx_0_4 R_u12) ?_
    refine rf_so ?_
    refine rf_ck (ox_35 R_u12) ?_
    refine rf_bx0 (ym_Cm_compile R_u12) (fun u15' u15 r15 R_u15 => ?_)
    exact (yb_H_read_27 R_u15)
  · exact (yb_H_read_27 R_u12)
theorem ym_H_read {N : Nat} {c : Nat → Nat} {m : MS} {u : CS} (R : RP none c m u) : RF 0 none VE c u (fm_H_read N u 0) (hm_H_read N m) := yb_H_read_0 (N := N) R
theorem yb_Wl_born_43 {N : Nat} {o : Option Nat} {c : Nat → Nat} {m : MS} {u : CS} (R : RP o c m u) : RF 1 o PVo c u (fb_Wl_born_43 N () u 47) (hb_Wl_born_43 N () m) := by
  unfold fb_Wl_born_43 hb_Wl_born_43
  refine rf_bo (rx_47_1 R) ?_
  refine rf_bo (gx_47_2 R) ?_
  refine rf_so ?_
  refine rf_aP R (fun r4 h_r4 => ?_)
  refine rf_boQ h_r4 (fun j6 j6' e1_j6 e2_j6 h_j6 => ?_)
  subst e1_j6
  refine rf_so ?_
  refine rf_ck (io_P R h_j6) ?_
  refine rf_bx0 (rf_gz (ym_Pr_clear R h_j6) (by omega)) (fun u5' u5 r5 R_u5 => ?_)
  refine rf_gw ?_
  refine rf_bo (gx_47_2 R_u5) ?_
  refine rf_w (px_47_2 R_u5) (fun w8' w8 R_w8 => ?_)
  exact rf_ret R_w8 (PV_j h_j6)
theorem yb_Wl_born_0 {N : Nat} {o : Option Nat} {c : Nat → Nat} {m : MS} {u : CS} (R : RP o c m u) : RF 1 o PVo c u (fb_Wl_born_0 N () u 47) (hb_Wl_born_0 N () m) := by
  unfold fb_Wl_born_0 hb_Wl_born_0
  refine rf_bo (gx_47_2 R) ?_
  refine rf_br ?_ ?_
  · refine rf_bo (rx_47_1 R) ?_
    refine rf_bo (gx_47_2 R) ?_
    refine rf_so ?_
    refine rf_aPh R (fun r13 hb0 h_r13 => ?_)
    refine rf_br2h (PV_n h_r13) (fun hn0 => ?_) ?_
    · refine rf_bo (rx_47_1 R) ?_
      refine rf_bo (gx_47_2 R) ?_
      refine rf_ck (all2 (okR_s R (by decide)) (okR_s R (by decide))) ?_
      exact rf_new R rfl hb0 (of_decide_eq_true hn0) (by unfold zle; omega) (fun c_w20 w20' w20 R_w20 E_w20 => (by
        exact (yb_Wl_born_43 R_w20)))
    · exact (yb_Wl_born_43 R)
  · exact rf_ret R PV_0
theorem ym_Wl_born {N : Nat} {o : Option Nat} {c : Nat → Nat} {m : MS} {u : CS} (R : RP o c m u) : RF 1 o PVo c u (fm_Wl_born N u 47) (hm_Wl_born N m) := yb_Wl_born_0 (N := N) R
theorem yb_H_begin_102 {N : Nat} {c : Nat → Nat} {m : MS} {u : CS} (R : RP none c m u) : RF 1 none VE c u (fb_H_begin_102 N () u) (hb_H_begin_102 N () m) := by
  unfold fb_H_begin_102 hb_H_begin_102
  exact rf_ret R rfl
theorem yb_H_begin_0 {N : Nat} {c : Nat → Nat} {m : MS} {u : CS} (R : RP none c m u) {v1 : Int32} : RF 1 none VE c u (fb_H_begin_0 N () u 0 v1) (hb_H_begin_0 N () m v1) := by
  unfold fb_H_begin_0 hb_H_begin_0
  refine rf_bo (gx_0_10 R) ?_
  refine rf_br ?_ ?_
  · exact rf_ret R rfl
  · refine rf_ck (ox_0 R) ?_
    refine rf_bx0 (rf_gz (ym_H_isFunction R) (by omega)) (fun u2' u2 r2 R_u2 => ?_)
    refine rf_gw ?_
    refine rf_br ?_ ?_
    · exact rf_ret R_u2 rfl
    · refine rf_bo (rx_0_2 R_u2) ?_
      refine rf_so ?_
      refine rf_bo (rx_22_4 R_u2) ?_
      refine rf_so ?_
      refine rf_ai (ax_25 R_u2) ?_
      refine rf_br ?_ ?_
      · refine rf_bo (rx_0_6 R_u2) ?_
        refine rf_so ?_
        refine rf_ck (ox_47 R_u2) ?_
        refine rf_bx0 (rf_gz (ym_Wl_clearAll R_u2) (by omega)) (fun u9' u9 r9 R_u9 => ?_)
        refine rf_gw ?_
        refine rf_bo (rx_0_6 R_u9) ?_
        refine rf_so ?_
        refine rf_w (px_47_3 R_u9) (fun w13' w13 R_w13 => ?_)
        refine rf_bo (rx_0_6 R_w13) ?_
        refine rf_so ?_
        refine rf_ck (ox_47 R_w13) ?_
        refine rf_ck (all1 (okR_s R_w13 (by decide))) ?_
        refine rf_bx (rf_gw (ym_Wl_born R_w13)) (by unfold zle; omega) (fun c_u15 u15' u15 r15 r15' R_u15 E_u15 h_r15 => ?_)
        refine rf_gw ?_
        refine rf_br2 (PV_n h_r15) ?_ ?_
        · exact (yb_H_begin_102 R_u15)
        · refine rf_boQ h_r15 (fun j17 j17' e1_j17 e2_j17 h_j17 => ?_)
          subst e1_j17
          refine rf_so ?_
          refine rf_bo (gR_P1 R_u15 h_j17) ?_
          refine rf_bo (rx_0_2 R_u15) ?_
          refine rf_so ?_
          refine rf_bo (rx_22_8 R_u15) ?_
          refine rf_so ?_
          refine rf_ai (ax_29 R_u15) ?_
          refine rf_soF h_j17.1 (fun j25 h_j25 => ?_)
          refine rf_ck (io_F R_u15 h_j25) ?_
          refine rf_bx0 (rf_gz (ym_Fr_open R_u15 h_j25) (by omega)) (fun u24' u24 r24 R_u24 => ?_)
          refine rf_gw ?_
          exact (yb_H_begin_102 R_u24)
      · exact rf_ret R_u2 rfl
theorem ym_H_begin {N : Nat} {c : Nat → Nat} {m : MS} {u : CS} (R : RP none c m u) {v1 : Int32} : RF 1 none VE c u (fm_H_begin N u 0 v1) (hm_H_begin N m v1) := yb_H_begin_0 (N := N) R
theorem yb_Wl_find_22 {N : Nat} {o : Option Nat} {c : Nat → Nat} {m : MS} {u : CS} (R : RP o c m u) {t0 : Option Nat} {t0' : Option Nat} (h_t0 : PVo c t0 t0') : RF 0 o PVo c u (fb_Wl_find_22 N () u t0) (hb_Wl_find_22 N () m t0') := by
  unfold fb_Wl_find_22 hb_Wl_find_22
  exact rf_ret R h_t0
theorem yb_Wl_find_12 {N : Nat} {o : Option Nat} {c : Nat → Nat} {m : MS} {u : CS} (R : RP o c m u) : RF 0 o PVo c u (fb_Wl_find_12 N () u) (hb_Wl_find_12 N () m) := by
  unfold fb_Wl_find_12 hb_Wl_find_12
  exact (yb_Wl_find_22 R PV_0)
theorem yb_Wl_find_0 {N : Nat} {o : Option Nat} {c : Nat → Nat} {m : MS} {u : CS} (R : RP o c m u) {v1 : Int32} : RF 0 o PVo c u (fb_Wl_find_0 N () u 47 v1) (hb_Wl_find_0 N () m v1) := by
  unfold fb_Wl_find_0 hb_Wl_find_0
  refine rf_br ?_ ?_
  · exact (yb_Wl_find_12 R)
  · refine rf_bo (gx_47_2 R) ?_
    refine rf_br ?_ ?_
    · refine rf_bo (rx_47_1 R) ?_
      refine rf_so ?_
      refine rf_aP R (fun r4 h_r4 => ?_)
      exact (yb_Wl_find_22 R h_r4)
    · exact (yb_Wl_find_12 R)
theorem ym_Wl_find {N : Nat} {o : Option Nat} {c : Nat → Nat} {m : MS} {u : CS} (R : RP o c m u) {v1 : Int32} : RF 0 o PVo c u (fm_Wl_find N u 47 v1) (hm_Wl_find N m v1) := yb_Wl_find_0 (N := N) R
theorem yb_Pr_clearHeap_250 {N : Nat} {o : Option Nat} {c : Nat → Nat} {m : MS} {u : CS} {G : (CS → Nat → Int32 → Int32 → Option (CS × Unit)) × (CS → Nat → Int32 → Int32 → Option Nat → Int32 → Int32 → Option (CS × Unit))} {G' : (MS → Nat → Int32 → Int32 → Option (MS × Unit)) × (MS → Nat → Int32 → Int32 → Nat → Int32 → Int32 → Option (MS × Unit))} (hG1 : ∀ (c : Nat → Nat) (m : MS) (u : CS) (v0 : Nat) (v0' : Nat) (v1 : Int32) (v2 : Int32), RP o c m u → PVn c v0 v0' → RF 3 o VE c u (G.1 u v0 v1 v2) (G'.1 m v0' v1 v2)) (hG2 : ∀ (c : Nat → Nat) (m : MS) (u : CS) (v0 : Nat) (v0' : Nat) (v1 : Int32) (v2 : Int32) (v3 : Nat) (v3' : Nat) (v4 : Int32) (v5 : Int32), RP o c m u → PVn c v0 v0' → XVn c v0' v3 v3' → RF 3 o VE c u (G.2 u v0 v1 v2 (some v3) v4 v5) (G'.2 m v0' v1 v2 v3' v4 v5)) (R : RP o c m u) {v0 : Nat} {v0' : Nat} {v1 : Int32} {v2 : Int32} {v3 : Nat} {v3' : Nat} {v4 : Int32} {v5 : Int32} (h_v0 : PVn c v0 v0') (h_v3 : XVn c v0' v3 v3') : RF 3 o VE c u (fb_Pr_clearHeap_250 N G u v0 v1 v2 (some v3) v4 v5) (hb_Pr_clearHeap_250 N G' m v0' v1 v2 v3' v4 v5) := by
  unfold fb_Pr_clearHeap_250 hb_Pr_clearHeap_250
  exact (hG2 _ _ _ _ _ _ _ _ _ _ _ R h_v0 h_v3)
theorem yb_Pr_clearHeap_230 {N : Nat} {o : Option Nat} {c : Nat → Nat} {m : MS} {u : CS} {G : (CS → Nat → Int32 → Int32 → Option (CS × Unit)) × (CS → Nat → Int32 → Int32 → Option Nat → Int32 → Int32 → Option (CS × Unit))} {G' : (MS → Nat → Int32 → Int32 → Option (MS × Unit)) × (MS → Nat → Int32 → Int32 → Nat → Int32 → Int32 → Option (MS × Unit))} (hG1 : ∀ (c : Nat → Nat) (m : MS) (u : CS) (v0 : Nat) (v0' : Nat) (v1 : Int32) (v2 : Int32), RP o c m u → PVn c v0 v0' → RF 3 o VE c u (G.1 u v0 v1 v2) (G'.1 m v0' v1 v2)) (hG2 : ∀ (c : Nat → Nat) (m : MS) (u : CS) (v0 : Nat) (v0' : Nat) (v1 : Int32) (v2 : Int32) (v3 : Nat) (v3' : Nat) (v4 : Int32) (v5 : Int32), RP o c m u → PVn c v0 v0' → XVn c v0' v3 v3' → RF 3 o VE c u (G.2 u v0 v1 v2 (some v3) v4 v5) (G'.2 m v0' v1 v2 v3' v4 v5)) (R : RP o c m u) {v0 : Nat} {v0' : Nat} {v1 : Int32} {v2 : Int32} {v3 : Nat} {v3' : Nat} {v4 : Int32} {v5 : Int32} {v6 : Int32} {v7 : Int32} (h_v0 : PVn c v0 v0') (h_v3 : XVn c v0' v3 v3') : RF 3 o VE c u (fb_Pr_clearHeap_230 N G u v0 v1 v2 (some v3) v4 v5 v6 v7) (hb_Pr_clearHeap_230 N G' m v0' v1 v2 v3' v4 v5 v6 v7) := by
  unfold fb_Pr_clearHeap_230 hb_Pr_clearHeap_230
  refine rf_bo (gR_P2 R h_v0) ?_
  refine rf_so ?_
  refine rf_ai (aq_2 R h_v0.1) ?_
  refine rf_so ?_
  refine rf_wk (sq_X R h_v3) (fun w5' w5 R_w5 => ?_)
  exact (yb_Pr_clearHeap_250 hG1 hG2 R_w5 h_v0 h_v3)
theorem yb_Pr_clearHeap_160 {N : Nat} {o : Option Nat} {c : Nat → Nat} {m : MS} {u : CS} {G : (CS → Nat → Int32 → Int32 → Option (CS × Unit)) × (CS → Nat → Int32 → Int32 → Option Nat → Int32 → Int32 → Option (CS × Unit))} {G' : (MS → Nat → Int32 → Int32 → Option (MS × Unit)) × (MS → Nat → Int32 → Int32 → Nat → Int32 → Int32 → Option (MS × Unit))} (hG1 : ∀ (c : Nat → Nat) (m : MS) (u : CS) (v0 : Nat) (v0' : Nat) (v1 : Int32) (v2 : Int32), RP o c m u → PVn c v0 v0' → RF 3 o VE c u (G.1 u v0 v1 v2) (G'.1 m v0' v1 v2)) (hG2 : ∀ (c : Nat → Nat) (m : MS) (u : CS) (v0 : Nat) (v0' : Nat) (v1 : Int32) (v2 : Int32) (v3 : Nat) (v3' : Nat) (v4 : Int32) (v5 : Int32), RP o c m u → PVn c v0 v0' → XVn c v0' v3 v3' → RF 3 o VE c u (G.2 u v0 v1 v2 (some v3) v4 v5) (G'.2 m v0' v1 v2 v3' v4 v5)) (R : RP o c m u) {v0 : Nat} {v0' : Nat} {v1 : Int32} {v2 : Int32} {v3 : Nat} {v3' : Nat} {v4 : Int32} {v5 : Int32} {v6 : Int32} (h_v0 : PVn c v0 v0') (h_v3 : XVn c v0' v3 v3') : RF 3 o VE c u (fb_Pr_clearHeap_160 N G u v0 v1 v2 (some v3) v4 v5 v6) (hb_Pr_clearHeap_160 N G' m v0' v1 v2 v3' v4 v5 v6) := by
  unfold fb_Pr_clearHeap_160 hb_Pr_clearHeap_160
  refine rf_so ?_
  refine rf_ai (aq_X R h_v3) ?_
  refine rf_bo (gR_P2 R h_v0) ?_
  refine rf_so ?_
  refine rf_ai (aq_2 R h_v0.1) ?_
  refine rf_br ?_ ?_
  · exact (yb_Pr_clearHeap_230 hG1 hG2 R h_v0 h_v3)
  · refine rf_bo (gR_P2 R h_v0) ?_
    refine rf_so ?_
    refine rf_ai (aq_X R h_v3) ?_
    refine rf_bx0 (ym_Te_cellsAt R ⟨_, h_v0.1, rfl, rfl⟩) (fun u14' u14 r14 R_u14 => ?_)
    refine rf_bo (gR_P2 R_u14 h_v0) ?_
    refine rf_bo (gR_P3 R_u14 h_v0) ?_
    refine rf_so ?_
    refine rf_so ?_
    refine rf_wk (cq_23 R_u14 h_v0.1) (fun w19' w19 R_w19 => ?_)
    refine rf_bo (gR_P2 R_w19 h_v0) ?_
    refine rf_so ?_
    refine rf_wk (sq_2 R_w19 h_v0.1) (fun w22' w22 R_w22 => ?_)
    exact (yb_Pr_clearHeap_230 hG1 hG2 R_w22 h_v0 h_v3)
theorem yb_Pr_clearHeap_125 {N : Nat} {o : Option Nat} {c : Nat → Nat} {m : MS} {u : CS} {G : (CS → Nat → Int32 → Int32 → Option (CS × Unit)) × (CS → Nat → Int32 → Int32 → Option Nat → Int32 → Int32 → Option (CS × Unit))} {G' : (MS → Nat → Int32 → Int32 → Option (MS × Unit)) × (MS → Nat → Int32 → Int32 → Nat → Int32 → Int32 → Option (MS × Unit))} (hG1 : ∀ (c : Nat → Nat) (m : MS) (u : CS) (v0 : Nat) (v0' : Nat) (v1 : Int32) (v2 : Int32), RP o c m u → PVn c v0 v0' → RF 3 o VE c u (G.1 u v0 v1 v2) (G'.1 m v0' v1 v2)) (hG2 : ∀ (c : Nat → Nat) (m : MS) (u : CS) (v0 : Nat) (v0' : Nat) (v1 : Int32) (v2 : Int32) (v3 : Nat) (v3' : Nat) (v4 : Int32) (v5 : Int32), RP o c m u → PVn c v0 v0' → XVn c v0' v3 v3' → RF 3 o VE c u (G.2 u v0 v1 v2 (some v3) v4 v5) (G'.2 m v0' v1 v2 v3' v4 v5)) (R : RP o c m u) {v0 : Nat} {v0' : Nat} {v1 : Int32} {v2 : Int32} {v3 : Nat} {v3' : Nat} {v4 : Int32} {v5 : Int32} {t0 : Int32} {t1 : Int32} (h_v0 : PVn c v0 v0') (h_v3 : XVn c v0' v3 v3') : RF 3 o VE c u (fb_Pr_clearHeap_125 N G u v0 v1 v2 (some v3) v4 v5 t0 t1) (hb_Pr_clearHeap_125 N G' m v0' v1 v2 v3' v4 v5 t0 t1) := by
  unfold fb_Pr_clearHeap_125 hb_Pr_clearHeap_125
  refine rf_br ?_ ?_
  · exact (hG1 _ _ _ _ _ _ _ R h_v0)
  · refine rf_so ?_
    refine rf_ai (aq_X R h_v3) ?_
    refine rf_lt ?_
    refine rf_br ?_ ?_
    · exact (yb_Pr_clearHeap_160 hG1 hG2 R h_v0 h_v3)
    · refine rf_br ?_ ?_
      · exact (yb_Pr_clearHeap_160 hG1 hG2 R h_v0 h_v3)
      · refine rf_br ?_ ?_
        · exact (yb_Pr_clearHeap_160 hG1 hG2 R h_v0 h_v3)
        · exact (yb_Pr_clearHeap_250 hG1 hG2 R h_v0 h_v3)
theorem yb_Pr_clearHeap_112 {N : Nat} {o : Option Nat} {c : Nat → Nat} {m : MS} {u : CS} {G : (CS → Nat → Int32 → Int32 → Option (CS × Unit)) × (CS → Nat → Int32 → Int32 → Option Nat → Int32 → Int32 → Option (CS × Unit))} {G' : (MS → Nat → Int32 → Int32 → Option (MS × Unit)) × (MS → Nat → Int32 → Int32 → Nat → Int32 → Int32 → Option (MS × Unit))} (hG1 : ∀ (c : Nat → Nat) (m : MS) (u : CS) (v0 : Nat) (v0' : Nat) (v1 : Int32) (v2 : Int32), RP o c m u → PVn c v0 v0' → RF 3 o VE c u (G.1 u v0 v1 v2) (G'.1 m v0' v1 v2)) (hG2 : ∀ (c : Nat → Nat) (m : MS) (u : CS) (v0 : Nat) (v0' : Nat) (v1 : Int32) (v2 : Int32) (v3 : Nat) (v3' : Nat) (v4 : Int32) (v5 : Int32), RP o c m u → PVn c v0 v0' → XVn c v0' v3 v3' → RF 3 o VE c u (G.2 u v0 v1 v2 (some v3) v4 v5) (G'.2 m v0' v1 v2 v3' v4 v5)) (R : RP o c m u) {v0 : Nat} {v0' : Nat} {v1 : Int32} {v2 : Int32} {v3 : Nat} {v3' : Nat} {v4 : Int32} {v5 : Int32} (h_v0 : PVn c v0 v0') (h_v3 : XVn c v0' v3 v3') : RF 3 o VE c u (fb_Pr_clearHeap_112 N G u v0 v1 v2 (some v3) v4 v5) (hb_Pr_clearHeap_112 N G' m v0' v1 v2 v3' v4 v5) := by
  unfold fb_Pr_clearHeap_112 hb_Pr_clearHeap_112
  refine rf_br ?_ ?_
  · exact (yb_Pr_clearHeap_125 hG1 hG2 R h_v0 h_v3)
  · exact (yb_Pr_clearHeap_125 hG1 hG2 R h_v0 h_v3)
theorem yb_Pr_clearHeap_107 {N : Nat} {o : Option Nat} {c : Nat → Nat} {m : MS} {u : CS} {G : (CS → Nat → Int32 → Int32 → Option (CS × Unit)) × (CS → Nat → Int32 → Int32 → Option Nat → Int32 → Int32 → Option (CS × Unit))} {G' : (MS → Nat → Int32 → Int32 → Option (MS × Unit)) × (MS → Nat → Int32 → Int32 → Nat → Int32 → Int32 → Option (MS × Unit))} (hG1 : ∀ (c : Nat → Nat) (m : MS) (u : CS) (v0 : Nat) (v0' : Nat) (v1 : Int32) (v2 : Int32), RP o c m u → PVn c v0 v0' → RF 3 o VE c u (G.1 u v0 v1 v2) (G'.1 m v0' v1 v2)) (hG2 : ∀ (c : Nat → Nat) (m : MS) (u : CS) (v0 : Nat) (v0' : Nat) (v1 : Int32) (v2 : Int32) (v3 : Nat) (v3' : Nat) (v4 : Int32) (v5 : Int32), RP o c m u → PVn c v0 v0' → XVn c v0' v3 v3' → RF 3 o VE c u (G.2 u v0 v1 v2 (some v3) v4 v5) (G'.2 m v0' v1 v2 v3' v4 v5)) (R : RP o c m u) {v0 : Nat} {v0' : Nat} {v1 : Int32} {v2 : Int32} {v3 : Nat} {v3' : Nat} {t0 : Int32} (h_v0 : PVn c v0 v0') (h_v3 : XVn c v0' v3 v3') : RF 3 o VE c u (fb_Pr_clearHeap_107 N G u v0 v1 v2 (some v3) t0) (hb_Pr_clearHeap_107 N G' m v0' v1 v2 v3' t0) := by
  unfold fb_Pr_clearHeap_107 hb_Pr_clearHeap_107
  exact (hG2 _ _ _ _ _ _ _ _ _ _ _ R h_v0 h_v3)
theorem yb_Pr_clearHeap_64 {N : Nat} {o : Option Nat} {c : Nat → Nat} {m : MS} {u : CS} {G : (CS → Nat → Int32 → Int32 → Option (CS × Unit)) × (CS → Nat → Int32 → Int32 → Option Nat → Int32 → Int32 → Option (CS × Unit))} {G' : (MS → Nat → Int32 → Int32 → Option (MS × Unit)) × (MS → Nat → Int32 → Int32 → Nat → Int32 → Int32 → Option (MS × Unit))} (hG1 : ∀ (c : Nat → Nat) (m : MS) (u : CS) (v0 : Nat) (v0' : Nat) (v1 : Int32) (v2 : Int32), RP o c m u → PVn c v0 v0' → RF 3 o VE c u (G.1 u v0 v1 v2) (G'.1 m v0' v1 v2)) (hG2 : ∀ (c : Nat → Nat) (m : MS) (u : CS) (v0 : Nat) (v0' : Nat) (v1 : Int32) (v2 : Int32) (v3 : Nat) (v3' : Nat) (v4 : Int32) (v5 : Int32), RP o c m u → PVn c v0 v0' → XVn c v0' v3 v3' → RF 3 o VE c u (G.2 u v0 v1 v2 (some v3) v4 v5) (G'.2 m v0' v1 v2 v3' v4 v5)) (R : RP o c m u) {v0 : Nat} {v0' : Nat} {v1 : Int32} {v2 : Int32} {t0 : Nat} {t0' : Nat} (h_v0 : PVn c v0 v0') (h_t0 : XVn c v0' t0 t0') : RF 3 o VE c u (fb_Pr_clearHeap_64 N G u v0 v1 v2 (some t0)) (hb_Pr_clearHeap_64 N G' m v0' v1 v2 t0') := by
  unfold fb_Pr_clearHeap_64 hb_Pr_clearHeap_64
  refine rf_br ?_ ?_
  · refine rf_bo (gR_P1 R h_v0) ?_
    refine rf_soF h_v0.1 (fun j31 h_j31 => ?_)
    refine rf_bo (gf_4 R h_j31) ?_
    exact (yb_Pr_clearHeap_107 hG1 hG2 R h_v0 h_t0)
  · refine rf_br ?_ ?_
    · refine rf_bo (gR_P1 R h_v0) ?_
      refine rf_soF h_v0.1 (fun j28 h_j28 => ?_)
      refine rf_bo (gf_6 R h_j28) ?_
      exact (yb_Pr_clearHeap_107 hG1 hG2 R h_v0 h_t0)
    · refine rf_br ?_ ?_
      · refine rf_bo (gq_7 R h_v0) ?_
        exact (yb_Pr_clearHeap_107 hG1 hG2 R h_v0 h_t0)
      · exact (yb_Pr_clearHeap_107 hG1 hG2 R h_v0 h_t0)
theorem yb_Pr_clearHeap_14 {N : Nat} {o : Option Nat} {c : Nat → Nat} {m : MS} {u : CS} {G : (CS → Nat → Int32 → Int32 → Option (CS × Unit)) × (CS → Nat → Int32 → Int32 → Option Nat → Int32 → Int32 → Option (CS × Unit))} {G' : (MS → Nat → Int32 → Int32 → Option (MS × Unit)) × (MS → Nat → Int32 → Int32 → Nat → Int32 → Int32 → Option (MS × Unit))} (hG1 : ∀ (c : Nat → Nat) (m : MS) (u : CS) (v0 : Nat) (v0' : Nat) (v1 : Int32) (v2 : Int32), RP o c m u → PVn c v0 v0' → RF 3 o VE c u (G.1 u v0 v1 v2) (G'.1 m v0' v1 v2)) (hG2 : ∀ (c : Nat → Nat) (m : MS) (u : CS) (v0 : Nat) (v0' : Nat) (v1 : Int32) (v2 : Int32) (v3 : Nat) (v3' : Nat) (v4 : Int32) (v5 : Int32), RP o c m u → PVn c v0 v0' → XVn c v0' v3 v3' → RF 3 o VE c u (G.2 u v0 v1 v2 (some v3) v4 v5) (G'.2 m v0' v1 v2 v3' v4 v5)) (R : RP o c m u) {v0 : Nat} {v0' : Nat} {v1 : Int32} {v2 : Int32} (h_v0 : PVn c v0 v0') : RF 3 o VE c u (fb_Pr_clearHeap_14 N G u v0 v1 v2) (hb_Pr_clearHeap_14 N G' m v0' v1 v2) := by
  unfold fb_Pr_clearHeap_14 hb_Pr_clearHeap_14
  refine rf_br ?_ ?_
  · refine rf_bo (gR_P2 R h_v0) ?_
    refine rf_bo (gR_P3 R h_v0) ?_
    refine rf_swap R h_v0 (by unfold zle; omega) (fun c_w36 w36' w36 R_w36 E_w36 => ?_)
    replace h_v0 := E_w36.P h_v0
    refine rf_w (wq_4 R_w36 h_v0) (fun w37' w37 R_w37 => ?_)
    exact rf_ret R_w37 rfl
  · refine rf_br ?_ ?_
    · refine rf_bo (gR_P1 R h_v0) ?_
      refine rf_soF h_v0.1 (fun j44 h_j44 => ?_)
      refine rf_bo (gR_F3 R h_j44) ?_
      exact (yb_Pr_clearHeap_64 hG1 hG2 R h_v0 ⟨h_j44.1, 33, by omega, rfl, rfl⟩)
    · refine rf_br ?_ ?_
      · refine rf_bo (gR_P1 R h_v0) ?_
        refine rf_soF h_v0.1 (fun j41 h_j41 => ?_)
        refine rf_bo (gR_F5 R h_j41) ?_
        exact (yb_Pr_clearHeap_64 hG1 hG2 R h_v0 ⟨h_j41.1, 35, by omega, rfl, rfl⟩)
      · refine rf_br ?_ ?_
        · refine rf_bo (gR_P6 R h_v0) ?_
          exact (yb_Pr_clearHeap_64 hG1 hG2 R h_v0 ⟨h_v0.1, 6, by omega, rfl, rfl⟩)
        · refine rf_bo (gR_P3 R h_v0) ?_
          exact (yb_Pr_clearHeap_64 hG1 hG2 R h_v0 ⟨h_v0.1, 3, by omega, rfl, rfl⟩)
theorem yb_Pr_clearHeap_0 {N : Nat} {o : Option Nat} {c : Nat → Nat} {m : MS} {u : CS} {G : (CS → Nat → Int32 → Int32 → Option (CS × Unit)) × (CS → Nat → Int32 → Int32 → Option Nat → Int32 → Int32 → Option (CS × Unit))} {G' : (MS → Nat → Int32 → Int32 → Option (MS × Unit)) × (MS → Nat → Int32 → Int32 → Nat → Int32 → Int32 → Option (MS × Unit))} (hG1 : ∀ (c : Nat → Nat) (m : MS) (u : CS) (v0 : Nat) (v0' : Nat) (v1 : Int32) (v2 : Int32), RP o c m u → PVn c v0 v0' → RF 3 o VE c u (G.1 u v0 v1 v2) (G'.1 m v0' v1 v2)) (hG2 : ∀ (c : Nat → Nat) (m : MS) (u : CS) (v0 : Nat) (v0' : Nat) (v1 : Int32) (v2 : Int32) (v3 : Nat) (v3' : Nat) (v4 : Int32) (v5 : Int32), RP o c m u → PVn c v0 v0' → XVn c v0' v3 v3' → RF 3 o VE c u (G.2 u v0 v1 v2 (some v3) v4 v5) (G'.2 m v0' v1 v2 v3' v4 v5)) (R : RP o c m u) {v0 : Nat} {v0' : Nat} (h_v0 : PVn c v0 v0') : RF 3 o VE c u (fb_Pr_clearHeap_0 N G u v0) (hb_Pr_clearHeap_0 N G' m v0') := by
  unfold fb_Pr_clearHeap_0 hb_Pr_clearHeap_0
  refine rf_bo (gq_5 R h_v0) ?_
  refine rf_w (wq_5 R h_v0) (fun w47' w47 R_w47 => ?_)
  exact (hG1 _ _ _ _ _ _ _ R_w47 h_v0)
theorem yg_Pr_clearHeap {N : Nat} {o : Option Nat} : ∀ n, (∀ (c : Nat → Nat) (m : MS) (u : CS) (v0 : Nat) (v0' : Nat) (v1 : Int32) (v2 : Int32), RP o c m u → PVn c v0 v0' → RF 3 o VE c u ((gg_Pr_clearHeap N n).1 u v0 v1 v2) ((hg_Pr_clearHeap N n).1 m v0' v1 v2)) ∧ (∀ (c : Nat → Nat) (m : MS) (u : CS) (v0 : Nat) (v0' : Nat) (v1 : Int32) (v2 : Int32) (v3 : Nat) (v3' : Nat) (v4 : Int32) (v5 : Int32), RP o c m u → PVn c v0 v0' → XVn c v0' v3 v3' → RF 3 o VE c u ((gg_Pr_clearHeap N n).2 u v0 v1 v2 (some v3) v4 v5) ((hg_Pr_clearHeap N n).2 m v0' v1 v2 v3' v4 v5)) := by
  intro n
  induction n with
  | zero => exact ⟨fun c m u v0 v0' v1 v2 R h_v0 => rf_none, fun c m u v0 v0' v1 v2 v3 v3' v4 v5 R h_v0 h_v3 => rf_none⟩
  | succ n ih => exact ⟨fun c m u v0 v0' v1 v2 R h_v0 => yb_Pr_clearHeap_14 (N := N) ih.1 ih.2 R h_v0, fun c m u v0 v0' v1 v2 v3 v3' v4 v5 R h_v0 h_v3 => yb_Pr_clearHeap_112 (N := N) ih.1 ih.2 R h_v0 h_v3⟩
theorem ym_Pr_clearHeap {N : Nat} {o : Option Nat} {c : Nat → Nat} {m : MS} {u : CS} (R : RP o c m u) {v0 : Nat} {v0' : Nat} (h_v0 : PVn c v0 v0') : RF 3 o VE c u (fm_Pr_clearHeap N u v0) (hm_Pr_clearHeap N m v0') := yb_Pr_clearHeap_0 (N := N) (yg_Pr_clearHeap (N := N) N).1 (yg_Pr_clearHeap (N := N) N).2 R h_v0
theorem yb_Pr_want_33 {N : Nat} {o : Option Nat} {c : Nat → Nat} {m : MS} {u : CS} (R : RP o c m u) {t0 : Int32} : RF 3 o VE c u (fb_Pr_want_33 N () u t0) (hb_Pr_want_33 N () m t0) := by
  unfold fb_Pr_want_33 hb_Pr_want_33
  refine rf_ckk ?_
  exact rf_ret R rfl
theorem yb_Pr_want_16 {N : Nat} {o : Option Nat} {c : Nat → Nat} {m : MS} {u : CS} (R : RP o c m u) {v0 : Nat} {v0' : Nat} {v1 : Int32} (h_v0 : PVn c v0 v0') : RF 3 o VE c u (fb_Pr_want_16 N () u v0 v1) (hb_Pr_want_16 N () m v0' v1) := by
  unfold fb_Pr_want_16 hb_Pr_want_16
  refine rf_bo (gq_4 R h_v0) ?_
  refine rf_br ?_ ?_
  · exact (yb_Pr_want_33 R)
  · exact (yb_Pr_want_33 R)
theorem yb_Pr_want_0 {N : Nat} {o : Option Nat} {c : Nat → Nat} {m : MS} {u : CS} (R : RP o c m u) {v0 : Nat} {v0' : Nat} {v1 : Int32} (h_v0 : PVn c v0 v0') : RF 3 o VE c u (fb_Pr_want_0 N () u v0 v1) (hb_Pr_want_0 N () m v0' v1) := by
  unfold fb_Pr_want_0 hb_Pr_want_0
  refine rf_bo (gq_4 R h_v0) ?_
  refine rf_br ?_ ?_
  · exact (yb_Pr_want_16 R h_v0)
  · refine rf_ck (io_P R h_v0) ?_
    refine rf_bx (ym_Pr_clearHeap R h_v0) (by unfold zle; omega) (fun c_u3 u3' u3 r3 r3' R_u3 E_u3 v_u3 => ?_)
    cases v_u3
    replace h_v0 := E_u3.P h_v0
    exact (yb_Pr_want_16 R_u3 h_v0)
theorem ym_Pr_want {N : Nat} {o : Option Nat} {c : Nat → Nat} {m : MS} {u : CS} (R : RP o c m u) {v0 : Nat} {v0' : Nat} {v1 : Int32} (h_v0 : PVn c v0 v0') : RF 3 o VE c u (fm_Pr_want N u v0 v1) (hm_Pr_want N m v0' v1) := yb_Pr_want_0 (N := N) R h_v0
theorem yb_Pr_copyIn_140 {N : Nat} {o : Option Nat} {c : Nat → Nat} {m : MS} {u : CS} {G : (CS → Nat → Option Nat → Int64 → Int64 → Int32 → Int32 → Option (CS × Int64))} {G' : (MS → Nat → Nat → Int64 → Int64 → Int32 → Int32 → Option (MS × Int64))} (hG : ∀ (c : Nat → Nat) (m : MS) (u : CS) (v0 : Nat) (v0' : Nat) (v1 : Nat) (v1' : Nat) (v2 : Int64) (v4 : Int64) (v6 : Int32) (v7 : Int32), RP o c m u → PVn c v0 v0' → CVn c v1 v1' → RF 0 o VE c u (G u v0 (some v1) v2 v4 v6 v7) (G' m v0' v1' v2 v4 v6 v7)) (R : RP o c m u) {v0 : Nat} {v0' : Nat} {v1 : Nat} {v1' : Nat} {v2 : Int64} {v4 : Int64} {v6 : Int32} {v7 : Int32} (h_v0 : PVn c v0 v0') (h_v1 : CVn c v1 v1') : RF 0 o VE c u (fb_Pr_copyIn_140 N G u v0 (some v1) v2 v4 v6 v7) (hb_Pr_copyIn_140 N G' m v0' v1' v2 v4 v6 v7) := by
  unfold fb_Pr_copyIn_140 hb_Pr_copyIn_140
  exact (hG _ _ _ _ _ _ _ _ _ _ _ R h_v0 h_v1)
theorem yb_Pr_copyIn_42 {N : Nat} {o : Option Nat} {c : Nat → Nat} {m : MS} {u : CS} {G : (CS → Nat → Option Nat → Int64 → Int64 → Int32 → Int32 → Option (CS × Int64))} {G' : (MS → Nat → Nat → Int64 → Int64 → Int32 → Int32 → Option (MS × Int64))} (hG : ∀ (c : Nat → Nat) (m : MS) (u : CS) (v0 : Nat) (v0' : Nat) (v1 : Nat) (v1' : Nat) (v2 : Int64) (v4 : Int64) (v6 : Int32) (v7 : Int32), RP o c m u → PVn c v0 v0' → CVn c v1 v1' → RF 0 o VE c u (G u v0 (some v1) v2 v4 v6 v7) (G' m v0' v1' v2 v4 v6 v7)) (R : RP o c m u) {v0 : Nat} {v0' : Nat} {v1 : Nat} {v1' : Nat} {v2 : Int64} {v4 : Int64} {v6 : Int32} {v7 : Int32} {t0 : Int64} (h_v0 : PVn c v0 v0') (h_v1 : CVn c v1 v1') : RF 0 o VE c u (fb_Pr_copyIn_42 N G u v0 (some v1) v2 v4 v6 v7 t0) (hb_Pr_copyIn_42 N G' m v0' v1' v2 v4 v6 v7 t0) := by
  unfold fb_Pr_copyIn_42 hb_Pr_copyIn_42
  refine rf_bx0 (ym_Te_cellsAt R h_v1) (fun u1' u1 r1 R_u1 => ?_)
  refine rf_br ?_ ?_
  · exact (yb_Pr_copyIn_140 hG R_u1 h_v0 h_v1)
  · refine rf_bo (gq_4 R_u1 h_v0) ?_
    refine rf_br ?_ ?_
    · refine rf_bo (gq_4 R_u1 h_v0) ?_
      refine rf_lt ?_
      refine rf_bo (gR_P2 R_u1 h_v0) ?_
      refine rf_bo (gq_4 R_u1 h_v0) ?_
      refine rf_so ?_
      refine rf_so ?_
      refine rf_wk (cq_C R_u1 h_v1 h_v0.1) (fun w9' w9 R_w9 => ?_)
      refine rf_bo (gq_4 R_w9 h_v0) ?_
      refine rf_w (wq_4 R_w9 h_v0) (fun w11' w11 R_w11 => ?_)
      refine rf_br ?_ ?_
      · refine rf_bo (gR_P2 R_w11 h_v0) ?_
        refine rf_so ?_
        refine rf_wk (sq_2 R_w11 h_v0.1) (fun w14' w14 R_w14 => ?_)
        exact (yb_Pr_copyIn_140 hG R_w14 h_v0 h_v1)
      · exact (yb_Pr_copyIn_140 hG R_w11 h_v0 h_v1)
    · exact (yb_Pr_copyIn_140 hG R_u1 h_v0 h_v1)
theorem yb_Pr_copyIn_15 {N : Nat} {o : Option Nat} {c : Nat → Nat} {m : MS} {u : CS} {G : (CS → Nat → Option Nat → Int64 → Int64 → Int32 → Int32 → Option (CS × Int64))} {G' : (MS → Nat → Nat → Int64 → Int64 → Int32 → Int32 → Option (MS × Int64))} (hG : ∀ (c : Nat → Nat) (m : MS) (u : CS) (v0 : Nat) (v0' : Nat) (v1 : Nat) (v1' : Nat) (v2 : Int64) (v4 : Int64) (v6 : Int32) (v7 : Int32), RP o c m u → PVn c v0 v0' → CVn c v1 v1' → RF 0 o VE c u (G u v0 (some v1) v2 v4 v6 v7) (G' m v0' v1' v2 v4 v6 v7)) (R : RP o c m u) {v0 : Nat} {v0' : Nat} {v1 : Nat} {v1' : Nat} {v2 : Int64} {v4 : Int64} {v6 : Int32} {v7 : Int32} (h_v0 : PVn c v0 v0') (h_v1 : CVn c v1 v1') : RF 0 o VE c u (fb_Pr_copyIn_15 N G u v0 (some v1) v2 v4 v6 v7) (hb_Pr_copyIn_15 N G' m v0' v1' v2 v4 v6 v7) := by
  unfold fb_Pr_copyIn_15 hb_Pr_copyIn_15
  refine rf_bo (gq_4 R h_v0) ?_
  refine rf_br ?_ ?_
  · exact rf_ret R rfl
  · refine rf_br ?_ ?_
    · refine rf_bo (gR_P2 R h_v0) ?_
      refine rf_so ?_
      refine rf_ai (aq_2 R h_v0.1) ?_
      exact (yb_Pr_copyIn_42 hG R h_v0 h_v1)
    · exact (yb_Pr_copyIn_42 hG R h_v0 h_v1)
theorem yb_Pr_copyIn_0 {N : Nat} {o : Option Nat} {c : Nat → Nat} {m : MS} {u : CS} {G : (CS → Nat → Option Nat → Int64 → Int64 → Int32 → Int32 → Option (CS × Int64))} {G' : (MS → Nat → Nat → Int64 → Int64 → Int32 → Int32 → Option (MS × Int64))} (hG : ∀ (c : Nat → Nat) (m : MS) (u : CS) (v0 : Nat) (v0' : Nat) (v1 : Nat) (v1' : Nat) (v2 : Int64) (v4 : Int64) (v6 : Int32) (v7 : Int32), RP o c m u → PVn c v0 v0' → CVn c v1 v1' → RF 0 o VE c u (G u v0 (some v1) v2 v4 v6 v7) (G' m v0' v1' v2 v4 v6 v7)) (R : RP o c m u) {v0 : Nat} {v0' : Nat} {v1 : Nat} {v1' : Nat} {v2 : Int64} (h_v0 : PVn c v0 v0') (h_v1 : CVn c v1 v1') : RF 0 o VE c u (fb_Pr_copyIn_0 N G u v0 (some v1) v2) (hb_Pr_copyIn_0 N G' m v0' v1' v2) := by
  unfold fb_Pr_copyIn_0 hb_Pr_copyIn_0
  refine rf_bo (gq_4 R h_v0) ?_
  exact (hG _ _ _ _ _ _ _ _ _ _ _ R h_v0 h_v1)
theorem yg_Pr_copyIn {N : Nat} {o : Option Nat} : ∀ n, (∀ (c : Nat → Nat) (m : MS) (u : CS) (v0 : Nat) (v0' : Nat) (v1 : Nat) (v1' : Nat) (v2 : Int64) (v4 : Int64) (v6 : Int32) (v7 : Int32), RP o c m u → PVn c v0 v0' → CVn c v1 v1' → RF 0 o VE c u ((gg_Pr_copyIn N n) u v0 (some v1) v2 v4 v6 v7) ((hg_Pr_copyIn N n) m v0' v1' v2 v4 v6 v7)) := by
  intro n
  induction n with
  | zero => exact fun c m u v0 v0' v1 v1' v2 v4 v6 v7 R h_v0 h_v1 => rf_none
  | succ n ih => exact fun c m u v0 v0' v1 v1' v2 v4 v6 v7 R h_v0 h_v1 => yb_Pr_copyIn_15 (N := N) ih R h_v0 h_v1
theorem ym_Pr_copyIn {N : Nat} {o : Option Nat} {c : Nat → Nat} {m : MS} {u : CS} (R : RP o c m u) {v0 : Nat} {v0' : Nat} {v1 : Nat} {v1' : Nat} {v2 : Int64} (h_v0 : PVn c v0 v0') (h_v1 : CVn c v1 v1') : RF 0 o VE c u (fm_Pr_copyIn N u v0 (some v1) v2) (hm_Pr_copyIn N m v0' v1' v2) := yb_Pr_copyIn_0 (N := N) (yg_Pr_copyIn (N := N) N) R h_v0 h_v1
theorem yb_Fr_bind_48 {N : Nat} {o : Option Nat} {c : Nat → Nat} {m : MS} {u : CS} (R : RP o c m u) {v0 : Nat} {v0' : Nat} {v1 : Int32} {v2 : Int64} (h_v0 : FVn c v0 v0') : RF 1 o VE c u (fb_Fr_bind_48 N () u v0 v1 v2) (hb_Fr_bind_48 N () m v0' v1 v2) := by
  unfold fb_Fr_bind_48 hb_Fr_bind_48
  refine rf_bo (gR_F2 R h_v0) ?_
  refine rf_bo (gf_4 R h_v0) ?_
  refine rf_so ?_
  refine rf_wk (sq_32 R h_v0.1) (fun w4' w4 R_w4 => ?_)
  refine rf_bo (gR_F3 R_w4 h_v0) ?_
  refine rf_bo (gf_4 R_w4 h_v0) ?_
  refine rf_so ?_
  refine rf_wk (sq_33 R_w4 h_v0.1) (fun w8' w8 R_w8 => ?_)
  refine rf_bo (gf_4 R_w8 h_v0) ?_
  refine rf_w (wf_4 R_w8 h_v0) (fun w10' w10 R_w10 => ?_)
  exact rf_ret R_w10 rfl
theorem yb_Fr_bind_0 {N : Nat} {o : Option Nat} {c : Nat → Nat} {m : MS} {u : CS} (R : RP o c m u) {v0 : Nat} {v0' : Nat} {v1 : Int32} {v2 : Int64} (h_v0 : FVn c v0 v0') : RF 1 o VE c u (fb_Fr_bind_0 N () u v0 v1 v2) (hb_Fr_bind_0 N () m v0' v1 v2) := by
  unfold fb_Fr_bind_0 hb_Fr_bind_0
  refine rf_bo (gf_4 R h_v0) ?_
  refine rf_bo (gR_F3 R h_v0) ?_
  refine rf_so ?_
  refine rf_bo (nq_33 R h_v0.1) ?_
  refine rf_br ?_ ?_
  · exact (yb_Fr_bind_48 R h_v0)
  · refine rf_bo (gR_F3 R h_v0) ?_
    refine rf_bo (gR_F3 R h_v0) ?_
    refine rf_so ?_
    refine rf_bo (nq_33 R h_v0.1) ?_
    refine rf_ck (all1 (okR_F R h_v0)) ?_
    refine rf_growJ R h_v0 (k := 33) (l := 43) (by unfold GRK; omega) (by omega) (by unfold zle; omega) (fun c_w20 w20' w20 R_w20 E_w20 => ?_)
    replace h_v0 := E_w20.F h_v0
    refine rf_bo (gR_F2 R_w20 h_v0) ?_
    refine rf_bo (gR_F2 R_w20 h_v0) ?_
    refine rf_so ?_
    refine rf_bo (nq_32 R_w20 h_v0.1) ?_
    refine rf_ck (all1 (okR_F R_w20 h_v0)) ?_
    refine rf_growI R_w20 h_v0 (k := 32) (l := 42) (by unfold GRK; omega) (by omega) (by unfold zle; omega) (fun c_w26 w26' w26 R_w26 E_w26 => ?_)
    replace h_v0 := E_w26.F h_v0
    exact (yb_Fr_bind_48 R_w26 h_v0)
theorem ym_Fr_bind {N : Nat} {o : Option Nat} {c : Nat → Nat} {m : MS} {u : CS} (R : RP o c m u) {v0 : Nat} {v0' : Nat} {v1 : Int32} {v2 : Int64} (h_v0 : FVn c v0 v0') : RF 1 o VE c u (fm_Fr_bind N u v0 v1 v2) (hm_Fr_bind N m v0' v1 v2) := yb_Fr_bind_0 (N := N) R h_v0
theorem yb_Ma_hold_40 {N : Nat} {p : Nat} {c : Nat → Nat} {m : MS} {u : CS} {G : (CS → Nat → Option Nat → Option Nat → Int64 → Int32 → Int32 → Option (CS × Unit))} {G' : (MS → Nat → Nat → Nat → Int64 → Int32 → Int32 → Option (MS × Unit))} (hG : ∀ (c : Nat → Nat) (m : MS) (u : CS) (v1 : Nat) (v1' : Nat) (v2 : Nat) (v2' : Nat) (v3 : Int64) (v6 : Int32) (v7 : Int32), RP (some p) c m u → FVn c v1 v1' → CVn c v2 v2' → RF 1 (some p) VE c u (G u 55 (some v1) (some v2) v3 v6 v7) (G' m p v1' v2' v3 v6 v7)) (R : RP (some p) c m u) {v1 : Nat} {v1' : Nat} {v2 : Nat} {v2' : Nat} {v3 : Int64} {v6 : Int32} {v7 : Int32} (h_v1 : FVn c v1 v1') (h_v2 : CVn c v2 v2') : RF 1 (some p) VE c u (fb_Ma_hold_40 N G u 55 (some v1) (some v2) v3 v6 v7) (hb_Ma_hold_40 N G' m p v1' v2' v3 v6 v7) := by
  unfold fb_Ma_hold_40 hb_Ma_hold_40
  refine rf_bo (rx_55_0 R) ?_
  refine rf_so ?_
  refine rf_ck (ox_22 R) ?_
  refine rf_bx0 (rf_gz (ym_Co_at R) (by omega)) (fun u2' u2 r2 R_u2 => ?_)
  refine rf_gw ?_
  refine rf_br ?_ ?_
  · exact rf_ret R_u2 rfl
  · refine rf_bo (rx_55_0 R_u2) ?_
    refine rf_so ?_
    refine rf_ck (ox_22 R_u2) ?_
    refine rf_bx0 (rf_gz (ym_Co_at R_u2) (by omega)) (fun u5' u5 r5 R_u5 => ?_)
    refine rf_gw ?_
    refine rf_so ?_
    refine rf_ai (aq_C R_u5 h_v2) ?_
    refine rf_so ?_
    refine rf_ck (io_F R_u5 h_v1) ?_
    refine rf_ck (all3 (okR_s R_u5 (by decide)) (okR_F R_u5 h_v1) (okR_Co R_u5 (Or.inr ⟨_, _, rfl, rfl, h_v2⟩))) ?_
    refine rf_bx (rf_gw (ym_Fr_bind R_u5 h_v1)) (by unfold zle; omega) (fun c_u9 u9' u9 r9 r9' R_u9 E_u9 v_u9 => ?_)
    cases v_u9
    replace h_v1 := E_u9.F h_v1
    replace h_v2 := E_u9.C (by omega) h_v2
    refine rf_gw ?_
    exact (hG _ _ _ _ _ _ _ _ _ _ R_u9 h_v1 h_v2)
theorem yb_Ma_hold_24 {N : Nat} {p : Nat} {c : Nat → Nat} {m : MS} {u : CS} {G : (CS → Nat → Option Nat → Option Nat → Int64 → Int32 → Int32 → Option (CS × Unit))} {G' : (MS → Nat → Nat → Nat → Int64 → Int32 → Int32 → Option (MS × Unit))} (hG : ∀ (c : Nat → Nat) (m : MS) (u : CS) (v1 : Nat) (v1' : Nat) (v2 : Nat) (v2' : Nat) (v3 : Int64) (v6 : Int32) (v7 : Int32), RP (some p) c m u → FVn c v1 v1' → CVn c v2 v2' → RF 1 (some p) VE c u (G u 55 (some v1) (some v2) v3 v6 v7) (G' m p v1' v2' v3 v6 v7)) (R : RP (some p) c m u) : RF 1 (some p) VE c u (fb_Ma_hold_24 N G u) (hb_Ma_hold_24 N G' m p) := by
  unfold fb_Ma_hold_24 hb_Ma_hold_24
  exact rf_ret R rfl
theorem yb_Ma_hold_0 {N : Nat} {p : Nat} {c : Nat → Nat} {m : MS} {u : CS} {G : (CS → Nat → Option Nat → Option Nat → Int64 → Int32 → Int32 → Option (CS × Unit))} {G' : (MS → Nat → Nat → Nat → Int64 → Int32 → Int32 → Option (MS × Unit))} (hG : ∀ (c : Nat → Nat) (m : MS) (u : CS) (v1 : Nat) (v1' : Nat) (v2 : Nat) (v2' : Nat) (v3 : Int64) (v6 : Int32) (v7 : Int32), RP (some p) c m u → FVn c v1 v1' → CVn c v2 v2' → RF 1 (some p) VE c u (G u 55 (some v1) (some v2) v3 v6 v7) (G' m p v1' v2' v3 v6 v7)) (R : RP (some p) c m u) {v1 : Nat} {v1' : Nat} {v2 : Nat} {v2' : Nat} {v3 : Int64} (h_v1 : FVn c v1 v1') (h_v2 : CVn c v2 v2') : RF 1 (some p) VE c u (fb_Ma_hold_0 N G u 55 (some v1) (some v2) v3) (hb_Ma_hold_0 N G' m p v1' v2' v3) := by
  unfold fb_Ma_hold_0 hb_Ma_hold_0
  refine rf_so ?_
  refine rf_ai (aq_C R h_v2) ?_
  refine rf_br ?_ ?_
  · exact (yb_Ma_hold_24 hG R)
  · refine rf_bo (rx_55_0 R) ?_
    refine rf_so ?_
    refine rf_bo (gx_22_9 R) ?_
    refine rf_br ?_ ?_
    · refine rf_bo (rx_55_0 R) ?_
      refine rf_so ?_
      refine rf_bo (rx_22_12 R) ?_
      refine rf_so ?_
      refine rf_ai (ax_32 R) ?_
      exact (hG _ _ _ _ _ _ _ _ _ _ R h_v1 h_v2)
    · exact (yb_Ma_hold_24 hG R)
theorem yg_Ma_hold {N : Nat} {p : Nat} : ∀ n, (∀ (c : Nat → Nat) (m : MS) (u : CS) (v1 : Nat) (v1' : Nat) (v2 : Nat) (v2' : Nat) (v3 : Int64) (v6 : Int32) (v7 : Int32), RP (some p) c m u → FVn c v1 v1' → CVn c v2 v2' → RF 1 (some p) VE c u ((gg_Ma_hold N n) u 55 (some v1) (some v2) v3 v6 v7) ((hg_Ma_hold N n) m p v1' v2' v3 v6 v7)) := by
  intro n
  induction n with
  | zero => exact fun c m u v1 v1' v2 v2' v3 v6 v7 R h_v1 h_v2 => rf_none
  | succ n ih => exact fun c m u v1 v1' v2 v2' v3 v6 v7 R h_v1 h_v2 => yb_Ma_hold_40 (N := N) ih R h_v1 h_v2
theorem ym_Ma_hold {N : Nat} {p : Nat} {c : Nat → Nat} {m : MS} {u : CS} (R : RP (some p) c m u) {v1 : Nat} {v1' : Nat} {v2 : Nat} {v2' : Nat} {v3 : Int64} (h_v1 : FVn c v1 v1') (h_v2 : CVn c v2 v2') : RF 1 (some p) VE c u (fm_Ma_hold N u 55 (some v1) (some v2) v3) (hm_Ma_hold N m p v1' v2' v3) := yb_Ma_hold_0 (N := N) (yg_Ma_hold (N := N) N) R h_v1 h_v2
end
section
set_option maxRecDepth 100000
theorem yb_Fr_drop_0 {N : Nat} {o : Option Nat} {c : Nat → Nat} {m : MS} {u : CS} (R : RP o c m u) {v0 : Nat} {v0' : Nat} {v1 : Int32} (h_v0 : FVn c v0 v0') : RF 0 o VE c u (fb_Fr_drop_0 N () u v0 v1) (hb_Fr_drop_0 N () m v0' v1) := by
  unfold fb_Fr_drop_0 hb_Fr_drop_0
  refine rf_bo (gf_6 R h_v0) ?_
  refine rf_lt ?_
  refine rf_w (wf_6 R h_v0) (fun w3' w3 R_w3 => ?_)
  exact rf_ret R_w3 rfl
theorem ym_Fr_drop {N : Nat} {o : Option Nat} {c : Nat → Nat} {m : MS} {u : CS} (R : RP o c m u) {v0 : Nat} {v0' : Nat} {v1 : Int32} (h_v0 : FVn c v0 v0') : RF 0 o VE c u (fm_Fr_drop N u v0 v1) (hm_Fr_drop N m v0' v1) := yb_Fr_drop_0 (N := N) R h_v0
theorem yb_Fr_push_30 {N : Nat} {o : Option Nat} {c : Nat → Nat} {m : MS} {u : CS} (R : RP o c m u) {v0 : Nat} {v0' : Nat} {v1 : Int64} (h_v0 : FVn c v0 v0') : RF 1 o VE c u (fb_Fr_push_30 N () u v0 v1) (hb_Fr_push_30 N () m v0' v1) := by
  unfold fb_Fr_push_30 hb_Fr_push_30
  refine rf_bo (gR_F5 R h_v0) ?_
  refine rf_bo (gf_6 R h_v0) ?_
  refine rf_so ?_
  refine rf_wk (sq_35 R h_v0.1) (fun w4' w4 R_w4 => ?_)
  refine rf_bo (gf_6 R_w4 h_v0) ?_
  refine rf_w (wf_6 R_w4 h_v0) (fun w6' w6 R_w6 => ?_)
  exact rf_ret R_w6 rfl
theorem yb_Fr_push_0 {N : Nat} {o : Option Nat} {c : Nat → Nat} {m : MS} {u : CS} (R : RP o c m u) {v0 : Nat} {v0' : Nat} {v1 : Int64} (h_v0 : FVn c v0 v0') : RF 1 o VE c u (fb_Fr_push_0 N () u v0 v1) (hb_Fr_push_0 N () m v0' v1) := by
  unfold fb_Fr_push_0 hb_Fr_push_0
  refine rf_bo (gf_6 R h_v0) ?_
  refine rf_bo (gR_F5 R h_v0) ?_
  refine rf_so ?_
  refine rf_bo (nq_35 R h_v0.1) ?_
  refine rf_br ?_ ?_
  · exact (yb_Fr_push_30 R h_v0)
  · refine rf_bo (gR_F5 R h_v0) ?_
    refine rf_bo (gR_F5 R h_v0) ?_
    refine rf_so ?_
    refine rf_bo (nq_35 R h_v0.1) ?_
    refine rf_ck (all1 (okR_F R h_v0)) ?_
    refine rf_growJ R h_v0 (k := 35) (l := 45) (by unfold GRK; omega) (by omega) (by unfold zle; omega) (fun c_w16 w16' w16 R_w16 E_w16 => ?_)
    replace h_v0 := E_w16.F h_v0
    exact (yb_Fr_push_30 R_w16 h_v0)
theorem ym_Fr_push {N : Nat} {o : Option Nat} {c : Nat → Nat} {m : MS} {u : CS} (R : RP o c m u) {v0 : Nat} {v0' : Nat} {v1 : Int64} (h_v0 : FVn c v0 v0') : RF 1 o VE c u (fm_Fr_push N u v0 v1) (hm_Fr_push N m v0' v1) := yb_Fr_push_0 (N := N) R h_v0
theorem yb_Ma_answer_0 {N : Nat} {p : Nat} {c : Nat → Nat} {m : MS} {u : CS} (R : RP (some p) c m u) {v1 : Int32} {v2 : Int64} : RF 1 (some p) VE c u (fb_Ma_answer_0 N () u 55 v1 v2) (hb_Ma_answer_0 N () m p v1 v2) := by
  unfold fb_Ma_answer_0 hb_Ma_answer_0
  refine rf_bo (gR_M4 R) ?_
  refine rf_soF R.md (fun j3 h_j3 => ?_)
  refine rf_ck (io_F R h_j3) ?_
  refine rf_bx0 (rf_gz (ym_Fr_drop R h_j3) (by omega)) (fun u2' u2 r2 R_u2 => ?_)
  refine rf_gw ?_
  refine rf_bo (gR_M4 R_u2) ?_
  refine rf_soF R_u2.md (fun j6 h_j6 => ?_)
  refine rf_ck (io_F R_u2 h_j6) ?_
  refine rf_ck (all1 (okR_s R_u2 (by decide))) ?_
  refine rf_bx (rf_gw (ym_Fr_push R_u2 h_j6)) (by unfold zle; omega) (fun c_u5 u5' u5 r5 r5' R_u5 E_u5 v_u5 => ?_)
  cases v_u5
  refine rf_gw ?_
  exact rf_ret R_u5 rfl
theorem ym_Ma_answer {N : Nat} {p : Nat} {c : Nat → Nat} {m : MS} {u : CS} (R : RP (some p) c m u) {v1 : Int32} {v2 : Int64} : RF 1 (some p) VE c u (fm_Ma_answer N u 55 v1 v2) (hm_Ma_answer N m p v1 v2) := yb_Ma_answer_0 (N := N) R
theorem yb_Ma_spawn_170 {N : Nat} {p : Nat} {c : Nat → Nat} {m : MS} {u : CS} (R : RP (some p) c m u) {v4 : Nat} {v4' : Nat} (h_v4 : PVn c v4 v4') : RF 2 (some p) VE c u (fb_Ma_spawn_170 N () u 55 (some v4)) (hb_Ma_spawn_170 N () m p v4') := by
  unfold fb_Ma_spawn_170 hb_Ma_spawn_170
  refine rf_so ?_
  refine rf_bo (gI_P0 R h_v4) ?_
  refine rf_bx0 (rf_gz (ym_Te_make R) (by omega)) (fun u3' u3 r3 R_u3 => ?_)
  refine rf_gw ?_
  refine rf_ck (ox_55 R_u3) ?_
  refine rf_ck (all2 (okR_s R_u3 (by decide)) (okR_P R_u3 h_v4)) ?_
  refine rf_bx (rf_gw (ym_Ma_answer R_u3)) (by unfold zle; omega) (fun c_u4 u4' u4 r4 r4' R_u4 E_u4 v_u4 => ?_)
  cases v_u4
  refine rf_gw ?_
  exact rf_ret R_u4 rfl
theorem yb_Ma_spawn_59 {N : Nat} {p : Nat} {c : Nat → Nat} {m : MS} {u : CS} (R : RP (some p) c m u) {v1 : Int64} {t0 : Option Nat} {t0' : Option Nat} (h_t0 : PVo c t0 t0') : RF 2 (some p) VE c u (fb_Ma_spawn_59 N () u 55 v1 t0) (hb_Ma_spawn_59 N () m p v1 t0') := by
  unfold fb_Ma_spawn_59 hb_Ma_spawn_59
  refine rf_br2 (PV_n h_t0) ?_ ?_
  · refine rf_ck (ox_55 R) ?_
    refine rf_bx0 (rf_gz (ym_Ma_wrong R) (by omega)) (fun u37' u37 r37 R_u37 => ?_)
    refine rf_gw ?_
    exact rf_ret R_u37 rfl
  · refine rf_bo (gR_M3 R) ?_
    refine rf_soP R.md (fun j6 h_j6 => ?_)
    refine rf_bo (gR_P2 R h_j6) ?_
    refine rf_so ?_
    refine rf_ai (aq_2 R h_j6.1) ?_
    refine rf_boQ h_t0 (fun j10 j10' e1_j10 e2_j10 h_j10 => ?_)
    subst e1_j10
    refine rf_so ?_
    refine rf_bo (gR_P1 R h_j10) ?_
    refine rf_bx0 (rf_gz (ym_Ma_functionOf R) (by omega)) (fun u12' u12 r12 R_u12 => ?_)
    refine rf_gw ?_
    refine rf_ck (ox_55 R_u12) ?_
    refine rf_bx0 (rf_gz (ym_Ma_entryOf R_u12) (by omega)) (fun u13' u13 r13 R_u13 => ?_)
    refine rf_gw ?_
    refine rf_soF h_j10.1 (fun j15 h_j15 => ?_)
    refine rf_ck (io_F R_u13 h_j15) ?_
    refine rf_bx0 (rf_gz (ym_Fr_open R_u13 h_j15) (by omega)) (fun u14' u14 r14 R_u14 => ?_)
    refine rf_gw ?_
    refine rf_bo (rx_55_2 R_u14) ?_
    refine rf_bo (gR_M3 R_u14) ?_
    refine rf_soP R_u14.md (fun j18 h_j18 => ?_)
    refine rf_bo (gR_P2 R_u14 h_j18) ?_
    refine rf_so ?_
    refine rf_ck (ox_43 R_u14) ?_
    refine rf_bx0 (rf_gz (ym_Te_size R_u14 ⟨_, h_j18.1, rfl, rfl⟩) (by omega)) (fun u20' u20 r20 R_u20 => ?_)
    refine rf_gw ?_
    refine rf_so ?_
    refine rf_ck (io_P R_u20 h_j10) ?_
    refine rf_bx (rf_gz (ym_Pr_want R_u20 h_j10) (by omega)) (by unfold zle; omega) (fun c_u22 u22' u22 r22 r22' R_u22 E_u22 v_u22 => ?_)
    cases v_u22
    replace h_j10 := E_u22.P h_j10
    refine rf_gw ?_
    refine rf_br ?_ ?_
    · refine rf_bo (rx_55_1 R_u22) ?_
      refine rf_so ?_
      refine rf_ck (ox_47 R_u22) ?_
      refine rf_bx0 (rf_gz (ym_Wl_endsBy R_u22 h_j10) (by omega)) (fun u25' u25 r25 R_u25 => ?_)
      refine rf_gw ?_
      exact (yb_Ma_spawn_170 R_u25 h_j10)
    · refine rf_so ?_
      refine rf_bo (gR_P1 R_u22 h_j10) ?_
      refine rf_so ?_
      refine rf_bo (gR_P2 R_u22 h_j10) ?_
      refine rf_bo (gR_M3 R_u22) ?_
      refine rf_soP R_u22.md (fun j32 h_j32 => ?_)
      refine rf_bo (gR_P2 R_u22 h_j32) ?_
      refine rf_so ?_
      refine rf_ck (io_P R_u22 h_j10) ?_
      refine rf_bx0 (rf_gz (ym_Pr_copyIn R_u22 h_j10 ⟨_, h_j32.1, rfl, rfl⟩) (by omega)) (fun u34' u34 r34 R_u34 => ?_)
      refine rf_gw ?_
      refine rf_ck (ox_55 R_u34) ?_
      refine rf_ck (all2 (okR_P R_u34 h_j10) (okR_s R_u34 (by decide))) ?_
      refine rf_bx (rf_gw (ym_Ma_hold R_u34 ⟨h_j10.1, rfl⟩ ⟨_, h_j10.1, rfl, rfl⟩)) (by unfold zle; omega) (fun c_u36 u36' u36 r36 r36' R_u36 E_u36 v_u36 => ?_)
      cases v_u36
      replace h_j10 := E_u36.P h_j10
      refine rf_gw ?_
      exact (yb_Ma_spawn_170 R_u36 h_j10)
theorem yb_Ma_spawn_43 {N : Nat} {p : Nat} {c : Nat → Nat} {m : MS} {u : CS} (R : RP (some p) c m u) {v1 : Int64} {t0 : Int32} : RF 2 (some p) VE c u (fb_Ma_spawn_43 N () u 55 v1 t0) (hb_Ma_spawn_43 N () m p v1 t0) := by
  unfold fb_Ma_spawn_43 hb_Ma_spawn_43
  refine rf_br ?_ ?_
  · exact (yb_Ma_spawn_59 R PV_0)
  · refine rf_bo (rx_55_1 R) ?_
    refine rf_so ?_
    refine rf_ck (ox_47 R) ?_
    refine rf_ck (all1 (okR_s R (by decide))) ?_
    refine rf_bx (rf_gw (ym_Wl_born R)) (by unfold zle; omega) (fun c_u39 u39' u39 r39 r39' R_u39 E_u39 h_r39 => ?_)
    refine rf_gw ?_
    exact (yb_Ma_spawn_59 R_u39 h_r39)
theorem yb_Ma_spawn_42 {N : Nat} {p : Nat} {c : Nat → Nat} {m : MS} {u : CS} (R : RP (some p) c m u) {v1 : Int64} : RF 2 (some p) VE c u (fb_Ma_spawn_42 N () u 55 v1) (hb_Ma_spawn_42 N () m p v1) := by
  unfold fb_Ma_spawn_42 hb_Ma_spawn_42
  exact (yb_Ma_spawn_43 R)
theorem yb_Ma_spawn_0 {N : Nat} {p : Nat} {c : Nat → Nat} {m : MS} {u : CS} (R : RP (some p) c m u) : RF 2 (some p) VE c u (fb_Ma_spawn_0 N () u 55) (hb_Ma_spawn_0 N () m p) := by
  unfold fb_Ma_spawn_0 hb_Ma_spawn_0
  refine rf_bo (gR_M4 R) ?_
  refine rf_soF R.md (fun j43 h_j43 => ?_)
  refine rf_ck (io_F R h_j43) ?_
  refine rf_bx0 (rf_gz (ym_Fr_below R h_j43) (by omega)) (fun u42' u42 r42 R_u42 => ?_)
  refine rf_gw ?_
  refine rf_bx0 (rf_gz (ym_Te_tag R_u42) (by omega)) (fun u44' u44 r44 R_u44 => ?_)
  refine rf_gw ?_
  refine rf_br ?_ ?_
  · refine rf_bo (rx_55_0 R_u44) ?_
    refine rf_bo (gR_M3 R_u44) ?_
    refine rf_soP R_u44.md (fun j47 h_j47 => ?_)
    refine rf_bo (gR_P2 R_u44 h_j47) ?_
    refine rf_so ?_
    refine rf_ai (aq_2 R_u44 h_j47.1) ?_
    refine rf_so ?_
    refine rf_ck (ox_22 R_u44) ?_
    refine rf_bx0 (rf_gz (ym_Co_takes R_u44) (by omega)) (fun u51' u51 r51 R_u51 => ?_)
    refine rf_gw ?_
    refine rf_br ?_ ?_
    · exact (yb_Ma_spawn_43 R_u51)
    · exact (yb_Ma_spawn_42 R_u51)
  · exact (yb_Ma_spawn_42 R_u44)
theorem ym_Ma_spawn {N : Nat} {p : Nat} {c : Nat → Nat} {m : MS} {u : CS} (R : RP (some p) c m u) : RF 2 (some p) VE c u (fm_Ma_spawn N u 55) (hm_Ma_spawn N m p) := yb_Ma_spawn_0 (N := N) R
theorem yb_Te_write_52 {N : Nat} {o : Option Nat} {c : Nat → Nat} {m : MS} {u : CS} (R : RP o c m u) : RF 0 o VE c u (fb_Te_write_52 N () u) (hb_Te_write_52 N () m) := by
  unfold fb_Te_write_52 hb_Te_write_52
  exact rf_ret R rfl
theorem yb_Te_write_0 {N : Nat} {o : Option Nat} {c : Nat → Nat} {m : MS} {u : CS} (R : RP o c m u) {v1 : Int32} : RF 0 o VE c u (fb_Te_write_0 N () u 43 v1) (hb_Te_write_0 N () m v1) := by
  unfold fb_Te_write_0 hb_Te_write_0
  refine rf_bo (gx_43_6 R) ?_
  refine rf_br ?_ ?_
  · exact (yb_Te_write_52 R)
  · refine rf_bo (gx_43_5 R) ?_
    refine rf_bo (gx_43_6 R) ?_
    refine rf_bo (gr_out R) ?_
    refine rf_boB (ou_out R) (fun j5 h_j5 => ?_)
    refine rf_bo (na_B R (By_ou h_j5)) ?_
    refine rf_br ?_ ?_
    · exact (yb_Te_write_52 R)
    · refine rf_bo (gr_out R) ?_
      refine rf_bo (gx_43_5 R) ?_
      refine rf_bo (gx_43_6 R) ?_
      refine rf_boB (ou_out R) (fun j10 h_j10 => ?_)
      refine rf_wk (si_B R (By_ou h_j10)) (fun w11' w11 R_w11 => ?_)
      refine rf_bo (gx_43_6 R_w11) ?_
      refine rf_w (px_43_6 R_w11) (fun w13' w13 R_w13 => ?_)
      exact (yb_Te_write_52 R_w13)
theorem ym_Te_write {N : Nat} {o : Option Nat} {c : Nat → Nat} {m : MS} {u : CS} (R : RP o c m u) {v1 : Int32} : RF 0 o VE c u (fm_Te_write N u 43 v1) (hm_Te_write N m v1) := yb_Te_write_0 (N := N) R
theorem yb_Te_toWriteRest_19 {N : Nat} {o : Option Nat} {c : Nat → Nat} {m : MS} {u : CS} (R : RP o c m u) {v1 : Nat} {v1' : Nat} {v2 : Int32} {t0 : Int64} (h_v1 : CVn c v1 v1') : RF 0 o VE c u (fb_Te_toWriteRest_19 N () u 43 (some v1) v2 t0) (hb_Te_toWriteRest_19 N () m v1' v2 t0) := by
  unfold fb_Te_toWriteRest_19 hb_Te_toWriteRest_19
  refine rf_lt ?_
  refine rf_bx0 (ym_Te_tag R) (fun u2' u2 r2 R_u2 => ?_)
  refine rf_br ?_ ?_
  · refine rf_ck (ox_43 R_u2) ?_
    refine rf_bx0 (ym_Te_write R_u2) (fun u10' u10 r10 R_u10 => ?_)
    exact rf_ret R_u10 rfl
  · refine rf_bx0 (ym_Te_tag R_u2) (fun u3' u3 r3 R_u3 => ?_)
    refine rf_br ?_ ?_
    · refine rf_ck (ox_43 R_u3) ?_
      refine rf_bx0 (ym_Te_write R_u3) (fun u8' u8 r8 R_u8 => ?_)
      refine rf_ck (ox_43 R_u8) ?_
      refine rf_bx0 (ym_Te_toWritePair R_u8 h_v1) (fun u9' u9 r9 R_u9 => ?_)
      exact rf_ret R_u9 rfl
    · refine rf_ck (ox_43 R_u3) ?_
      refine rf_bx0 (ym_Te_write R_u3) (fun u4' u4 r4 R_u4 => ?_)
      refine rf_bx0 (ym_Te_make R_u4) (fun u5' u5 r5 R_u5 => ?_)
      refine rf_ck (ox_43 R_u5) ?_
      refine rf_bx0 (ym_Te_push R_u5) (fun u6' u6 r6 R_u6 => ?_)
      refine rf_ck (ox_43 R_u6) ?_
      refine rf_bx0 (ym_Te_push R_u6) (fun u7' u7 r7 R_u7 => ?_)
      exact rf_ret R_u7 rfl
theorem yb_Te_toWriteRest_0 {N : Nat} {o : Option Nat} {c : Nat → Nat} {m : MS} {u : CS} (R : RP o c m u) {v1 : Nat} {v1' : Nat} {v2 : Int32} (h_v1 : CVn c v1 v1') : RF 0 o VE c u (fb_Te_toWriteRest_0 N () u 43 (some v1) v2) (hb_Te_toWriteRest_0 N () m v1' v2) := by
  unfold fb_Te_toWriteRest_0 hb_Te_toWriteRest_0
  refine rf_br ?_ ?_
  · refine rf_bx0 (ym_Te_make R) (fun u11' u11 r11 R_u11 => ?_)
    exact (yb_Te_toWriteRest_19 R_u11 h_v1)
  · refine rf_bo (rx_43_1 R) ?_
    refine rf_so ?_
    refine rf_ai (ax_45 R) ?_
    exact (yb_Te_toWriteRest_19 R h_v1)
theorem ym_Te_toWriteRest {N : Nat} {o : Option Nat} {c : Nat → Nat} {m : MS} {u : CS} (R : RP o c m u) {v1 : Nat} {v1' : Nat} {v2 : Int32} (h_v1 : CVn c v1 v1') : RF 0 o VE c u (fm_Te_toWriteRest N u 43 (some v1) v2) (hm_Te_toWriteRest N m v1' v2) := yb_Te_toWriteRest_0 (N := N) R h_v1
theorem yb_Te_writeNumber_43 {N : Nat} {o : Option Nat} {c : Nat → Nat} {m : MS} {u : CS} {G : (CS → Nat → Int64 → Int64 → Option (CS × Unit)) × (CS → Nat → Int64 → Int64 → Option (CS × Unit))} {G' : (MS → Int64 → Int64 → Option (MS × Unit)) × (MS → Int64 → Int64 → Option (MS × Unit))} (hG1 : ∀ (c : Nat → Nat) (m : MS) (u : CS) (v2 : Int64) (v4 : Int64), RP o c m u → RF 0 o VE c u (G.1 u 43 v2 v4) (G'.1 m v2 v4)) (hG2 : ∀ (c : Nat → Nat) (m : MS) (u : CS) (v2 : Int64) (v4 : Int64), RP o c m u → RF 0 o VE c u (G.2 u 43 v2 v4) (G'.2 m v2 v4)) (R : RP o c m u) {v2 : Int64} {v4 : Int64} : RF 0 o VE c u (fb_Te_writeNumber_43 N G u 43 v2 v4) (hb_Te_writeNumber_43 N G' m v2 v4) := by
  unfold fb_Te_writeNumber_43 hb_Te_writeNumber_43
  refine rf_br ?_ ?_
  · exact rf_ret R rfl
  · refine rf_ckk ?_
    refine rf_ckk ?_
    refine rf_ck (ox_43 R) ?_
    refine rf_bx0 (ym_Te_write R) (fun u1' u1 r1 R_u1 => ?_)
    refine rf_ckk ?_
    exact (hG2 _ _ _ _ _ R_u1)
theorem yb_Te_writeNumber_21 {N : Nat} {o : Option Nat} {c : Nat → Nat} {m : MS} {u : CS} {G : (CS → Nat → Int64 → Int64 → Option (CS × Unit)) × (CS → Nat → Int64 → Int64 → Option (CS × Unit))} {G' : (MS → Int64 → Int64 → Option (MS × Unit)) × (MS → Int64 → Int64 → Option (MS × Unit))} (hG1 : ∀ (c : Nat → Nat) (m : MS) (u : CS) (v2 : Int64) (v4 : Int64), RP o c m u → RF 0 o VE c u (G.1 u 43 v2 v4) (G'.1 m v2 v4)) (hG2 : ∀ (c : Nat → Nat) (m : MS) (u : CS) (v2 : Int64) (v4 : Int64), RP o c m u → RF 0 o VE c u (G.2 u 43 v2 v4) (G'.2 m v2 v4)) (R : RP o c m u) {v2 : Int64} {v4 : Int64} : RF 0 o VE c u (fb_Te_writeNumber_21 N G u 43 v2 v4) (hb_Te_writeNumber_21 N G' m v2 v4) := by
  unfold fb_Te_writeNumber_21 hb_Te_writeNumber_21
  refine rf_ckk ?_
  refine rf_br ?_ ?_
  · exact (hG2 _ _ _ _ _ R)
  · exact (hG1 _ _ _ _ _ R)
theorem yb_Te_writeNumber_18 {N : Nat} {o : Option Nat} {c : Nat → Nat} {m : MS} {u : CS} {G : (CS → Nat → Int64 → Int64 → Option (CS × Unit)) × (CS → Nat → Int64 → Int64 → Option (CS × Unit))} {G' : (MS → Int64 → Int64 → Option (MS × Unit)) × (MS → Int64 → Int64 → Option (MS × Unit))} (hG1 : ∀ (c : Nat → Nat) (m : MS) (u : CS) (v2 : Int64) (v4 : Int64), RP o c m u → RF 0 o VE c u (G.1 u 43 v2 v4) (G'.1 m v2 v4)) (hG2 : ∀ (c : Nat → Nat) (m : MS) (u : CS) (v2 : Int64) (v4 : Int64), RP o c m u → RF 0 o VE c u (G.2 u 43 v2 v4) (G'.2 m v2 v4)) (R : RP o c m u) {v2 : Int64} : RF 0 o VE c u (fb_Te_writeNumber_18 N G u 43 v2) (hb_Te_writeNumber_18 N G' m v2) := by
  unfold fb_Te_writeNumber_18 hb_Te_writeNumber_18
  exact (hG1 _ _ _ _ _ R)
theorem yb_Te_writeNumber_0 {N : Nat} {o : Option Nat} {c : Nat → Nat} {m : MS} {u : CS} {G : (CS → Nat → Int64 → Int64 → Option (CS × Unit)) × (CS → Nat → Int64 → Int64 → Option (CS × Unit))} {G' : (MS → Int64 → Int64 → Option (MS × Unit)) × (MS → Int64 → Int64 → Option (MS × Unit))} (hG1 : ∀ (c : Nat → Nat) (m : MS) (u : CS) (v2 : Int64) (v4 : Int64), RP o c m u → RF 0 o VE c u (G.1 u 43 v2 v4) (G'.1 m v2 v4)) (hG2 : ∀ (c : Nat → Nat) (m : MS) (u : CS) (v2 : Int64) (v4 : Int64), RP o c m u → RF 0 o VE c u (G.2 u 43 v2 v4) (G'.2 m v2 v4)) (R : RP o c m u) {v1 : Int32} : RF 0 o VE c u (fb_Te_writeNumber_0 N G u 43 v1) (hb_Te_writeNumber_0 N G' m v1) := by
  unfold fb_Te_writeNumber_0 hb_Te_writeNumber_0
  refine rf_br ?_ ?_
  · exact (yb_Te_writeNumber_18 hG1 hG2 R)
  · refine rf_ck (ox_43 R) ?_
    refine rf_bx0 (ym_Te_write R) (fun u2' u2 r2 R_u2 => ?_)
    exact (yb_Te_writeNumber_18 hG1 hG2 R_u2)
theorem yg_Te_writeNumber {N : Nat} {o : Option Nat} : ∀ n, (∀ (c : Nat → Nat) (m : MS) (u : CS) (v2 : Int64) (v4 : Int64), RP o c m u → RF 0 o VE c u ((gg_Te_writeNumber N n).1 u 43 v2 v4) ((hg_Te_writeNumber N n).1 m v2 v4)) ∧ (∀ (c : Nat → Nat) (m : MS) (u : CS) (v2 : Int64) (v4 : Int64), RP o c m u → RF 0 o VE c u ((gg_Te_writeNumber N n).2 u 43 v2 v4) ((hg_Te_writeNumber N n).2 m v2 v4)) := by
  intro n
  induction n with
  | zero => exact ⟨fun c m u v2 v4 R => rf_none, fun c m u v2 v4 R => rf_none⟩
  | succ n ih => exact ⟨fun c m u v2 v4 R => yb_Te_writeNumber_21 (N := N) ih.1 ih.2 R, fun c m u v2 v4 R => yb_Te_writeNumber_43 (N := N) ih.1 ih.2 R⟩
theorem ym_Te_writeNumber {N : Nat} {o : Option Nat} {c : Nat → Nat} {m : MS} {u : CS} (R : RP o c m u) {v1 : Int32} : RF 0 o VE c u (fm_Te_writeNumber N u 43 v1) (hm_Te_writeNumber N m v1) := yb_Te_writeNumber_0 (N := N) (yg_Te_writeNumber (N := N) N).1 (yg_Te_writeNumber (N := N) N).2 R
theorem yb_Te_writeAlone_170 {N : Nat} {o : Option Nat} {c : Nat → Nat} {m : MS} {u : CS} {G : (CS → Nat → Int32 → Int32 → Option (CS × Unit))} {G' : (MS → Int32 → Int32 → Option (MS × Unit))} (hG : ∀ (c : Nat → Nat) (m : MS) (u : CS) (v3 : Int32) (v4 : Int32), RP o c m u → RF 0 o VE c u (G u 43 v3 v4) (G' m v3 v4)) (R : RP o c m u) : RF 0 o VE c u (fb_Te_writeAlone_170 N G u) (hb_Te_writeAlone_170 N G' m) := by
  unfold fb_Te_writeAlone_170 hb_Te_writeAlone_170
  exact rf_ret R rfl
theorem yb_Te_writeAlone_59 {N : Nat} {o : Option Nat} {c : Nat → Nat} {m : MS} {u : CS} {G : (CS → Nat → Int32 → Int32 → Option (CS × Unit))} {G' : (MS → Int32 → Int32 → Option (MS × Unit))} (hG : ∀ (c : Nat → Nat) (m : MS) (u : CS) (v3 : Int32) (v4 : Int32), RP o c m u → RF 0 o VE c u (G u 43 v3 v4) (G' m v3 v4)) (R : RP o c m u) {v3 : Int32} {v4 : Int32} : RF 0 o VE c u (fb_Te_writeAlone_59 N G u 43 v3 v4) (hb_Te_writeAlone_59 N G' m v3 v4) := by
  unfold fb_Te_writeAlone_59 hb_Te_writeAlone_59
  refine rf_bo (rx_43_3 R) ?_
  refine rf_so ?_
  refine rf_ck (ox_1 R) ?_
  refine rf_bx0 (ym_Wo_length R (by unfold isWd; omega)) (fun u2' u2 r2 R_u2 => ?_)
  refine rf_br ?_ ?_
  · exact (yb_Te_writeAlone_170 hG R_u2)
  · refine rf_bo (rx_43_3 R_u2) ?_
    refine rf_so ?_
    refine rf_ck (ox_1 R_u2) ?_
    refine rf_bx0 (ym_Wo_sign R_u2 (by unfold isWd; omega)) (fun u5' u5 r5 R_u5 => ?_)
    refine rf_ck (ox_43 R_u5) ?_
    refine rf_bx0 (ym_Te_write R_u5) (fun u7' u7 r7 R_u7 => ?_)
    exact (hG _ _ _ _ _ R_u7)
theorem yb_Te_writeAlone_0 {N : Nat} {o : Option Nat} {c : Nat → Nat} {m : MS} {u : CS} {G : (CS → Nat → Int32 → Int32 → Option (CS × Unit))} {G' : (MS → Int32 → Int32 → Option (MS × Unit))} (hG : ∀ (c : Nat → Nat) (m : MS) (u : CS) (v3 : Int32) (v4 : Int32), RP o c m u → RF 0 o VE c u (G u 43 v3 v4) (G' m v3 v4)) (R : RP o c m u) {v1 : Int64} : RF 0 o VE c u (fb_Te_writeAlone_0 N G u 43 v1) (hb_Te_writeAlone_0 N G' m v1) := by
  unfold fb_Te_writeAlone_0 hb_Te_writeAlone_0
  refine rf_bx0 (ym_Te_tag R) (fun u8' u8 r8 R_u8 => ?_)
  refine rf_br ?_ ?_
  · refine rf_ck (ox_43 R_u8) ?_
    refine rf_bx0 (ym_Te_writeNumber R_u8) (fun u9' u9 r9 R_u9 => ?_)
    exact (yb_Te_writeAlone_170 hG R_u9)
  · refine rf_br ?_ ?_
    · exact (hG _ _ _ _ _ R_u8)
    · refine rf_br ?_ ?_
      · refine rf_ck (ox_43 R_u8) ?_
        refine rf_bx0 (ym_Te_write R_u8) (fun u10' u10 r10 R_u10 => ?_)
        refine rf_ck (ox_43 R_u10) ?_
        refine rf_bx0 (ym_Te_writeNumber R_u10) (fun u11' u11 r11 R_u11 => ?_)
        exact (yb_Te_writeAlone_170 hG R_u11)
      · refine rf_br ?_ ?_
        · refine rf_ck (ox_43 R_u8) ?_
          refine rf_bx0 (ym_Te_write R_u8) (fun u12' u12 r12 R_u12 => ?_)
          refine rf_ck (ox_43 R_u12) ?_
          refine rf_bx0 (ym_Te_write R_u12) (fun u13' u13 r13 R_u13 => ?_)
          refine rf_ck (ox_43 R_u13) ?_
          refine rf_bx0 (ym_Te_write R_u13) (fun u14' u14 r14 R_u14 => ?_)
          exact (yb_Te_writeAlone_170 hG R_u14)
        · refine rf_br ?_ ?_
          · refine rf_ck (ox_43 R_u8) ?_
            refine rf_bx0 (ym_Te_write R_u8) (fun u15' u15 r15 R_u15 => ?_)
            refine rf_ck (ox_43 R_u15) ?_
            refine rf_bx0 (ym_Te_writeNumber R_u15) (fun u16' u16 r16 R_u16 => ?_)
            refine rf_ck (ox_43 R_u16) ?_
            refine rf_bx0 (ym_Te_write R_u16) (fun u17' u17 r17 R_u17 => ?_)
            exact (yb_Te_writeAlone_170 hG R_u17)
          · refine rf_br ?_ ?_
            · refine rf_ck (ox_43 R_u8) ?_
              refine rf_bx0 (ym_Te_write R_u8) (fun u18' u18 r18 R_u18 => ?_)
              exact (yb_Te_writeAlone_170 hG R_u18)
            · refine rf_br ?_ ?_
              · refine rf_ck (ox_43 R_u8) ?_
                refine rf_bx0 (ym_Te_write R_u8) (fun u19' u19 r19 R_u19 => ?_)
                refine rf_ck (ox_43 R_u19) ?_
                refine rf_bx0 (ym_Te_write R_u19) (fun u20' u20 r20 R_u20 => ?_)
                exact (yb_Te_writeAlone_170 hG R_u20)
              · refine rf_ck (ox_43 R_u8) ?_
                refine rf_bx0 (ym_Te_write R_u8) (fun u21' u21 r21 R_u21 => ?_)
                exact (yb_Te_writeAlone_170 hG R_u21)
theorem yg_Te_writeAlone {N : Nat} {o : Option Nat} : ∀ n, (∀ (c : Nat → Nat) (m : MS) (u : CS) (v3 : Int32) (v4 : Int32), RP o c m u → RF 0 o VE c u ((gg_Te_writeAlone N n) u 43 v3 v4) ((hg_Te_writeAlone N n) m v3 v4)) := by
  intro n
  induction n with
  | zero => exact fun c m u v3 v4 R => rf_none
  | succ n ih => exact fun c m u v3 v4 R => yb_Te_writeAlone_59 (N := N) ih R
theorem ym_Te_writeAlone {N : Nat} {o : Option Nat} {c : Nat → Nat} {m : MS} {u : CS} (R : RP o c m u) {v1 : Int64} : RF 0 o VE c u (fm_Te_writeAlone N u 43 v1) (hm_Te_writeAlone N m v1) := yb_Te_writeAlone_0 (N := N) (yg_Te_writeAlone (N := N) N) R
theorem yb_Te_text_174 {N : Nat} {o : Option Nat} {c : Nat → Nat} {m : MS} {u : CS} {G : (CS → Nat → Option Nat → Int32 → Int32 → Option (CS × Int32))} {G' : (MS → Nat → Int32 → Int32 → Option (MS × Int32))} (hG : ∀ (c : Nat → Nat) (m : MS) (u : CS) (v1 : Nat) (v1' : Nat) (v6 : Int32) (v7 : Int32), RP o c m u → CVn c v1 v1' → RF 0 o VE c u (G u 43 (some v1) v6 v7) (G' m v1' v6 v7)) (R : RP o c m u) : RF 0 o VE c u (fb_Te_text_174 N G u 43) (hb_Te_text_174 N G' m) := by
  unfold fb_Te_text_174 hb_Te_text_174
  refine rf_bo (gx_43_6 R) ?_
  exact rf_ret R rfl
theorem yb_Te_text_168 {N : Nat} {o : Option Nat} {c : Nat → Nat} {m : MS} {u : CS} {G : (CS → Nat → Option Nat → Int32 → Int32 → Option (CS × Int32))} {G' : (MS → Nat → Int32 → Int32 → Option (MS × Int32))} (hG : ∀ (c : Nat → Nat) (m : MS) (u : CS) (v1 : Nat) (v1' : Nat) (v6 : Int32) (v7 : Int32), RP o c m u → CVn c v1 v1' → RF 0 o VE c u (G u 43 (some v1) v6 v7) (G' m v1' v6 v7)) (R : RP o c m u) {v1 : Nat} {v1' : Nat} {v6 : Int32} {v7 : Int32} (h_v1 : CVn c v1 v1') : RF 0 o VE c u (fb_Te_text_168 N G u 43 (some v1) v6 v7) (hb_Te_text_168 N G' m v1' v6 v7) := by
  unfold fb_Te_text_168 hb_Te_text_168
  exact (hG _ _ _ _ _ _ _ R h_v1)
theorem yb_Te_text_30 {N : Nat} {o : Option Nat} {c : Nat → Nat} {m : MS} {u : CS} {G : (CS → Nat → Option Nat → Int32 → Int32 → Option (CS × Int32))} {G' : (MS → Nat → Int32 → Int32 → Option (MS × Int32))} (hG : ∀ (c : Nat → Nat) (m : MS) (u : CS) (v1 : Nat) (v1' : Nat) (v6 : Int32) (v7 : Int32), RP o c m u → CVn c v1 v1' → RF 0 o VE c u (G u 43 (some v1) v6 v7) (G' m v1' v6 v7)) (R : RP o c m u) {v1 : Nat} {v1' : Nat} {v6 : Int32} {v7 : Int32} (h_v1 : CVn c v1 v1') : RF 0 o VE c u (fb_Te_text_30 N G u 43 (some v1) v6 v7) (hb_Te_text_30 N G' m v1' v6 v7) := by
  unfold fb_Te_text_30 hb_Te_text_30
  refine rf_br ?_ ?_
  · exact (yb_Te_text_174 hG R)
  · refine rf_br ?_ ?_
    · exact (yb_Te_text_174 hG R)
    · refine rf_bo (gx_43_6 R) ?_
      refine rf_br ?_ ?_
      · exact (yb_Te_text_174 hG R)
      · refine rf_bo (rx_43_1 R) ?_
        refine rf_so ?_
        refine rf_ai (ax_45 R) ?_
        refine rf_bx0 (ym_Te_tag R) (fun u6' u6 r6 R_u6 => ?_)
        refine rf_br ?_ ?_
        · refine rf_ck (ox_43 R_u6) ?_
          refine rf_bx0 (ym_Te_write R_u6) (fun u7' u7 r7 R_u7 => ?_)
          refine rf_ck (ox_43 R_u7) ?_
          refine rf_bx0 (ym_Te_toWriteTuple R_u7 h_v1) (fun u8' u8 r8 R_u8 => ?_)
          exact (yb_Te_text_168 hG R_u8 h_v1)
        · refine rf_br ?_ ?_
          · refine rf_ck (ox_43 R_u6) ?_
            refine rf_bx0 (ym_Te_write R_u6) (fun u9' u9 r9 R_u9 => ?_)
            refine rf_ck (ox_43 R_u9) ?_
            refine rf_bx0 (ym_Te_toWritePair R_u9 h_v1) (fun u10' u10 r10 R_u10 => ?_)
            exact (yb_Te_text_168 hG R_u10 h_v1)
          · refine rf_br ?_ ?_
            · refine rf_ck (ox_43 R_u6) ?_
              refine rf_bx0 (ym_Te_toWriteRest R_u6 h_v1) (fun u11' u11 r11 R_u11 => ?_)
              exact (yb_Te_text_168 hG R_u11 h_v1)
            · refine rf_ck (ox_43 R_u6) ?_
              refine rf_bx0 (ym_Te_writeAlone R_u6) (fun u12' u12 r12 R_u12 => ?_)
              exact (yb_Te_text_168 hG R_u12 h_v1)
theorem yb_Te_text_0 {N : Nat} {o : Option Nat} {c : Nat → Nat} {m : MS} {u : CS} {G : (CS → Nat → Option Nat → Int32 → Int32 → Option (CS × Int32))} {G' : (MS → Nat → Int32 → Int32 → Option (MS × Int32))} (hG : ∀ (c : Nat → Nat) (m : MS) (u : CS) (v1 : Nat) (v1' : Nat) (v6 : Int32) (v7 : Int32), RP o c m u → CVn c v1 v1' → RF 0 o VE c u (G u 43 (some v1) v6 v7) (G' m v1' v6 v7)) (R : RP o c m u) {v1 : Nat} {v1' : Nat} {v2 : Int64} {v4 : Nat} {v5 : Int32} (h_v1 : CVn c v1 v1') (h_v4 : isOu v4) : RF 0 o VE c u (fb_Te_text_0 N G u 43 (some v1) v2 (some v4) v5) (hb_Te_text_0 N G' m v1' v2 v4 v5) := by
  unfold fb_Te_text_0 hb_Te_text_0
  refine rf_w (pf_out R h_v4) (fun w13' w13 R_w13 => ?_)
  refine rf_w (px_43_5 R_w13) (fun w14' w14 R_w14 => ?_)
  refine rf_w (px_43_6 R_w14) (fun w15' w15 R_w15 => ?_)
  refine rf_bo (rx_43_1 R_w15) ?_
  refine rf_so ?_
  refine rf_wk (sx_45 R_w15) (fun w18' w18 R_w18 => ?_)
  exact (hG _ _ _ _ _ _ _ R_w18 h_v1)
theorem yg_Te_text {N : Nat} {o : Option Nat} : ∀ n, (∀ (c : Nat → Nat) (m : MS) (u : CS) (v1 : Nat) (v1' : Nat) (v6 : Int32) (v7 : Int32), RP o c m u → CVn c v1 v1' → RF 0 o VE c u ((gg_Te_text N n) u 43 (some v1) v6 v7) ((hg_Te_text N n) m v1' v6 v7)) := by
  intro n
  induction n with
  | zero => exact fun c m u v1 v1' v6 v7 R h_v1 => rf_none
  | succ n ih => exact fun c m u v1 v1' v6 v7 R h_v1 => yb_Te_text_30 (N := N) ih R h_v1
theorem ym_Te_text {N : Nat} {o : Option Nat} {c : Nat → Nat} {m : MS} {u : CS} (R : RP o c m u) {v1 : Nat} {v1' : Nat} {v2 : Int64} {v4 : Nat} {v5 : Int32} (h_v1 : CVn c v1 v1') (h_v4 : isOu v4) : RF 0 o VE c u (fm_Te_text N u 43 (some v1) v2 (some v4) v5) (hm_Te_text N m v1' v2 v4 v5) := yb_Te_text_0 (N := N) (yg_Te_text (N := N) N) R h_v1 h_v4
theorem yb_Wl_print_49 {N : Nat} {o : Option Nat} {c : Nat → Nat} {m : MS} {u : CS} (R : RP o c m u) : RF 0 o VE c u (fb_Wl_print_49 N () u) (hb_Wl_print_49 N () m) := by
  unfold fb_Wl_print_49 hb_Wl_print_49
  exact rf_ret R rfl
theorem yb_Wl_print_0 {N : Nat} {o : Option Nat} {c : Nat → Nat} {m : MS} {u : CS} (R : RP o c m u) {v1 : Nat} {v1' : Nat} {v2 : Int64} (h_v1 : CVn c v1 v1') : RF 0 o VE c u (fb_Wl_print_0 N () u 47 (some v1) v2) (hb_Wl_print_0 N () m v1' v2) := by
  unfold fb_Wl_print_0 hb_Wl_print_0
  refine rf_bo (gx_47_13 R) ?_
  refine rf_br ?_ ?_
  · exact (yb_Wl_print_49 R)
  · refine rf_bo (rx_47_12 R) ?_
    refine rf_bo (gx_47_13 R) ?_
    refine rf_bo (rx_47_0 R) ?_
    refine rf_bo (rx_47_11 R) ?_
    refine rf_bo (gx_47_13 R) ?_
    refine rf_so ?_
    refine rf_ck (ox_43 R) ?_
    refine rf_bx0 (ym_Te_text R h_v1 (by unfold isOu; omega)) (fun u7' u7 r7 R_u7 => ?_)
    refine rf_so ?_
    refine rf_wk (sx_53 R_u7) (fun w10' w10 R_w10 => ?_)
    refine rf_bo (gx_47_13 R_w10) ?_
    refine rf_w (px_47_13 R_w10) (fun w12' w12 R_w12 => ?_)
    exact (yb_Wl_print_49 R_w12)
theorem ym_Wl_print {N : Nat} {o : Option Nat} {c : Nat → Nat} {m : MS} {u : CS} (R : RP o c m u) {v1 : Nat} {v1' : Nat} {v2 : Int64} (h_v1 : CVn c v1 v1') : RF 0 o VE c u (fm_Wl_print N u 47 (some v1) v2) (hm_Wl_print N m v1' v2) := yb_Wl_print_0 (N := N) R h_v1
theorem yb_Wl_named_39 {N : Nat} {o : Option Nat} {c : Nat → Nat} {m : MS} {u : CS} {G : (CS → Nat → Int32 → Int32 → Option (CS × Option Nat))} {G' : (MS → Int32 → Int32 → Option (MS × Option Nat))} (hG : ∀ (c : Nat → Nat) (m : MS) (u : CS) (v1 : Int32) (v2 : Int32), RP o c m u → RF 0 o PVo c u (G u 47 v1 v2) (G' m v1 v2)) (R : RP o c m u) {v1 : Int32} {v2 : Int32} : RF 0 o PVo c u (fb_Wl_named_39 N G u 47 v1 v2) (hb_Wl_named_39 N G' m v1 v2) := by
  unfold fb_Wl_named_39 hb_Wl_named_39
  exact (hG _ _ _ _ _ R)
theorem yb_Wl_named_2 {N : Nat} {o : Option Nat} {c : Nat → Nat} {m : MS} {u : CS} {G : (CS → Nat → Int32 → Int32 → Option (CS × Option Nat))} {G' : (MS → Int32 → Int32 → Option (MS × Option Nat))} (hG : ∀ (c : Nat → Nat) (m : MS) (u : CS) (v1 : Int32) (v2 : Int32), RP o c m u → RF 0 o PVo c u (G u 47 v1 v2) (G' m v1 v2)) (R : RP o c m u) {v1 : Int32} {v2 : Int32} : RF 0 o PVo c u (fb_Wl_named_2 N G u 47 v1 v2) (hb_Wl_named_2 N G' m v1 v2) := by
  unfold fb_Wl_named_2 hb_Wl_named_2
  refine rf_bo (gx_47_2 R) ?_
  refine rf_br ?_ ?_
  · exact rf_ret R PV_0
  · refine rf_bo (rx_47_1 R) ?_
    refine rf_so ?_
    refine rf_aP R (fun r4 h_r4 => ?_)
    refine rf_br2 (PV_n h_r4) ?_ ?_
    · exact (yb_Wl_named_39 hG R)
    · refine rf_boQ h_r4 (fun j5 j5' e1_j5 e2_j5 h_j5 => ?_)
      subst e1_j5
      refine rf_so ?_
      refine rf_bo (gq_12 R h_j5) ?_
      refine rf_br ?_ ?_
      · refine rf_so ?_
        refine rf_bo (gq_9 R h_j5) ?_
        refine rf_br ?_ ?_
        · exact (yb_Wl_named_39 hG R)
        · exact rf_ret R (PV_j h_j5)
      · exact (yb_Wl_named_39 hG R)
theorem yb_Wl_named_0 {N : Nat} {o : Option Nat} {c : Nat → Nat} {m : MS} {u : CS} {G : (CS → Nat → Int32 → Int32 → Option (CS × Option Nat))} {G' : (MS → Int32 → Int32 → Option (MS × Option Nat))} (hG : ∀ (c : Nat → Nat) (m : MS) (u : CS) (v1 : Int32) (v2 : Int32), RP o c m u → RF 0 o PVo c u (G u 47 v1 v2) (G' m v1 v2)) (R : RP o c m u) {v1 : Int32} : RF 0 o PVo c u (fb_Wl_named_0 N G u 47 v1) (hb_Wl_named_0 N G' m v1) := by
  unfold fb_Wl_named_0 hb_Wl_named_0
  exact (hG _ _ _ _ _ R)
theorem yg_Wl_named {N : Nat} {o : Option Nat} : ∀ n, (∀ (c : Nat → Nat) (m : MS) (u : CS) (v1 : Int32) (v2 : Int32), RP o c m u → RF 0 o PVo c u ((gg_Wl_named N n) u 47 v1 v2) ((hg_Wl_named N n) m v1 v2)) := by
  intro n
  induction n with
  | zero => exact fun c m u v1 v2 R => rf_none
  | succ n ih => exact fun c m u v1 v2 R => yb_Wl_named_2 (N := N) ih R
theorem ym_Wl_named {N : Nat} {o : Option Nat} {c : Nat → Nat} {m : MS} {u : CS} (R : RP o c m u) {v1 : Int32} : RF 0 o PVo c u (fm_Wl_named N u 47 v1) (hm_Wl_named N m v1) := yb_Wl_named_0 (N := N) (yg_Wl_named (N := N) N) R
theorem yb_Ma_processAt_30 {N : Nat} {p : Nat} {c : Nat → Nat} {m : MS} {u : CS} (R : RP (some p) c m u) {t0 : Option Nat} {t0' : Option Nat} (h_t0 : PVo c t0 t0') : RF 0 (some p) PVo c u (fb_Ma_processAt_30 N () u t0) (hb_Ma_processAt_30 N () m p t0') := by
  unfold fb_Ma_processAt_30 hb_Ma_processAt_30
  exact rf_ret R h_t0
theorem yb_Ma_processAt_0 {N : Nat} {p : Nat} {c : Nat → Nat} {m : MS} {u : CS} (R : RP (some p) c m u) {v1 : Int32} : RF 0 (some p) PVo c u (fb_Ma_processAt_0 N () u 55 v1) (hb_Ma_processAt_0 N () m p v1) := by
  unfold fb_Ma_processAt_0 hb_Ma_processAt_0
  refine rf_bo (gR_M4 R) ?_
  refine rf_soF R.md (fun j3 h_j3 => ?_)
  refine rf_ck (io_F R h_j3) ?_
  refine rf_bx0 (ym_Fr_below R h_j3) (fun u2' u2 r2 R_u2 => ?_)
  refine rf_bx0 (ym_Te_tag R_u2) (fun u4' u4 r4 R_u4 => ?_)
  refine rf_br ?_ ?_
  · refine rf_bo (rx_55_1 R_u4) ?_
    refine rf_so ?_
    refine rf_ck (ox_47 R_u4) ?_
    refine rf_bxP (ym_Wl_find R_u4) (fun u6' u6 r6 r6' R_u6 h_r6 => ?_)
    exact (yb_Ma_processAt_30 R_u6 h_r6)
  · exact (yb_Ma_processAt_30 R_u4 PV_0)
theorem ym_Ma_processAt {N : Nat} {p : Nat} {c : Nat → Nat} {m : MS} {u : CS} (R : RP (some p) c m u) {v1 : Int32} : RF 0 (some p) PVo c u (fm_Ma_processAt N u 55 v1) (hm_Ma_processAt N m p v1) := yb_Ma_processAt_0 (N := N) R
theorem yb_Ma_naming_147 {N : Nat} {p : Nat} {c : Nat → Nat} {m : MS} {u : CS} (R : RP (some p) c m u) : RF 1 (some p) VE c u (fb_Ma_naming_147 N () u 55) (hb_Ma_naming_147 N () m p) := by
  unfold fb_Ma_naming_147 hb_Ma_naming_147
  refine rf_ck (ox_55 R) ?_
  refine rf_bx0 (rf_gz (ym_Ma_wrong R) (by omega)) (fun u1' u1 r1 R_u1 => ?_)
  refine rf_gw ?_
  exact rf_ret R_u1 rfl
theorem yb_Ma_naming_74 {N : Nat} {p : Nat} {c : Nat → Nat} {m : MS} {u : CS} (R : RP (some p) c m u) {t1 : Int32} {t2 : Int64} : RF 1 (some p) VE c u (fb_Ma_naming_74 N () u 55 t1 t2) (hb_Ma_naming_74 N () m p t1 t2) := by
  unfold fb_Ma_naming_74 hb_Ma_naming_74
  refine rf_ck (ox_55 R) ?_
  refine rf_bx (rf_gw (ym_Ma_answer R)) (by unfold zle; omega) (fun c_u2 u2' u2 r2 r2' R_u2 E_u2 v_u2 => ?_)
  cases v_u2
  refine rf_gw ?_
  exact rf_ret R_u2 rfl
theorem yb_Ma_naming_15 {N : Nat} {p : Nat} {c : Nat → Nat} {m : MS} {u : CS} (R : RP (some p) c m u) {v1 : Int32} {t0 : Nat} {t0' : Nat} {t1 : Int32} (h_t0 : FVn c t0 t0') : RF 1 (some p) VE c u (fb_Ma_naming_15 N () u 55 v1 (some t0) t1) (hb_Ma_naming_15 N () m p v1 t0' t1) := by
  unfold fb_Ma_naming_15 hb_Ma_naming_15
  refine rf_so ?_
  refine rf_ck (io_F R h_t0) ?_
  refine rf_bx0 (rf_gz (ym_Fr_below R h_t0) (by omega)) (fun u3' u3 r3 R_u3 => ?_)
  refine rf_gw ?_
  refine rf_bx0 (rf_gz (ym_Te_tag R_u3) (by omega)) (fun u5' u5 r5 R_u5 => ?_)
  refine rf_gw ?_
  refine rf_br ?_ ?_
  · refine rf_bo (rx_55_1 R_u5) ?_
    refine rf_so ?_
    refine rf_ck (ox_47 R_u5) ?_
    refine rf_bxP (rf_gz (ym_Wl_named R_u5) (by omega)) (fun u7' u7 r7 r7' R_u7 h_r7 => ?_)
    refine rf_gw ?_
    refine rf_br ?_ ?_
    · refine rf_br2 (PV_n h_r7) ?_ ?_
      · refine rf_bx0 (rf_gz (ym_Ma_atom R_u7) (by omega)) (fun u26' u26 r26 R_u26 => ?_)
        refine rf_gw ?_
        exact (yb_Ma_naming_74 R_u26)
      · refine rf_boQ h_r7 (fun j23 j23' e1_j23 e2_j23 h_j23 => ?_)
        subst e1_j23
        refine rf_so ?_
        refine rf_bo (gI_P0 R_u7 h_j23) ?_
        refine rf_bx0 (rf_gz (ym_Te_make R_u7) (by omega)) (fun u25' u25 r25 R_u25 => ?_)
        refine rf_gw ?_
        exact (yb_Ma_naming_74 R_u25)
    · refine rf_br ?_ ?_
      · refine rf_br2 (PV_n h_r7) ?_ ?_
        · refine rf_ck (ox_55 R_u7) ?_
          refine rf_bx0 (rf_gz (ym_Ma_wrong R_u7) (by omega)) (fun u22' u22 r22 R_u22 => ?_)
          refine rf_gw ?_
          exact rf_ret R_u22 rfl
        · refine rf_boQ h_r7 (fun j18 j18' e1_j18 e2_j18 h_j18 => ?_)
          subst e1_j18
          refine rf_so ?_
          refine rf_w (wq_12 R_u7 h_j18) (fun w19' w19 R_w19 => ?_)
          refine rf_bx0 (rf_gz (ym_Ma_atom R_w19) (by omega)) (fun u20' u20 r20 R_u20 => ?_)
          refine rf_gw ?_
          refine rf_ck (ox_55 R_u20) ?_
          refine rf_ck (all2 (okR_P R_u20 h_j18) (okR_s R_u20 (by decide))) ?_
          refine rf_bx (rf_gw (ym_Ma_answer R_u20)) (by unfold zle; omega) (fun c_u21 u21' u21 r21 r21' R_u21 E_u21 v_u21 => ?_)
          cases v_u21
          refine rf_gw ?_
          exact rf_ret R_u21 rfl
      · refine rf_ck (ox_55 R_u7) ?_
        refine rf_bxP (rf_gz (ym_Ma_processAt R_u7) (by omega)) (fun u9' u9 r9 r9' R_u9 h_r9 => ?_)
        refine rf_gw ?_
        refine rf_br2 (PV_n h_r9) ?_ ?_
        · exact (yb_Ma_naming_147 R_u9)
        · refine rf_br2 (PV_n h_r7) ?_ ?_
          · refine rf_boQ h_r9 (fun j10 j10' e1_j10 e2_j10 h_j10 => ?_)
            subst e1_j10
            refine rf_so ?_
            refine rf_bo (gq_12 R_u9 h_j10) ?_
            refine rf_br ?_ ?_
            · refine rf_so ?_
              refine rf_bo (gq_9 R_u9 h_j10) ?_
              refine rf_br ?_ ?_
              · exact (yb_Ma_naming_147 R_u9)
              · refine rf_so ?_
                refine rf_w (wq_12 R_u9 h_j10) (fun w15' w15 R_w15 => ?_)
                refine rf_bx0 (rf_gz (ym_Ma_atom R_w15) (by omega)) (fun u16' u16 r16 R_u16 => ?_)
                refine rf_gw ?_
                refine rf_ck (ox_55 R_u16) ?_
                refine rf_ck (all3 (okR_P R_u16 h_j10) (okR_Po R_u16 h_r7) (okR_s R_u16 (by decide))) ?_
                refine rf_bx (rf_gw (ym_Ma_answer R_u16)) (by unfold zle; omega) (fun c_u17 u17' u17 r17 r17' R_u17 E_u17 v_u17 => ?_)
                cases v_u17
                refine rf_gw ?_
                exact rf_ret R_u17 rfl
            · exact (yb_Ma_naming_147 R_u9)
          · exact (yb_Ma_naming_147 R_u9)
  · refine rf_ck (ox_55 R_u5) ?_
    refine rf_bx0 (rf_gz (ym_Ma_wrong R_u5) (by omega)) (fun u27' u27 r27 R_u27 => ?_)
    refine rf_gw ?_
    exact rf_ret R_u27 rfl
theorem yb_Ma_naming_0 {N : Nat} {p : Nat} {c : Nat → Nat} {m : MS} {u : CS} (R : RP (some p) c m u) {v1 : Int32} : RF 1 (some p) VE c u (fb_Ma_naming_0 N () u 55 v1) (hb_Ma_naming_0 N () m p v1) := by
  unfold fb_Ma_naming_0 hb_Ma_naming_0
  refine rf_bo (gR_M4 R) ?_
  refine rf_br ?_ ?_
  · exact (yb_Ma_naming_15 R ⟨R.md, rfl⟩)
  · exact (yb_Ma_naming_15 R ⟨R.md, rfl⟩)
theorem ym_Ma_naming {N : Nat} {p : Nat} {c : Nat → Nat} {m : MS} {u : CS} (R : RP (some p) c m u) {v1 : Int32} : RF 1 (some p) VE c u (fm_Ma_naming N u 55 v1) (hm_Ma_naming N m p v1) := yb_Ma_naming_0 (N := N) R
theorem yb_Ma_part_189 {N : Nat} {p : Nat} {c : Nat → Nat} {m : MS} {u : CS} (R : RP (some p) c m u) : RF 1 (some p) VE c u (fb_Ma_part_189 N () u 55) (hb_Ma_part_189 N () m p) := by
  unfold fb_Ma_part_189 hb_Ma_part_189
  refine rf_ck (ox_55 R) ?_
  refine rf_bx0 (rf_gz (ym_Ma_wrong R) (by omega)) (fun u1' u1 r1 R_u1 => ?_)
  refine rf_gw ?_
  exact rf_ret R_u1 rfl
theorem yb_Ma_part_120 {N : Nat} {p : Nat} {c : Nat → Nat} {m : MS} {u : CS} (R : RP (some p) c m u) {t1 : Int32} {t2 : Nat} {t2' : Nat} {t3 : Int32} (h_t2 : CVn c t2 t2') : RF 1 (some p) VE c u (fb_Ma_part_120 N () u 55 t1 (some t2) t3) (hb_Ma_part_120 N () m p t1 t2' t3) := by
  unfold fb_Ma_part_120 hb_Ma_part_120
  refine rf_so ?_
  refine rf_ai (aq_C R h_t2) ?_
  refine rf_ck (ox_55 R) ?_
  refine rf_bx (rf_gw (ym_Ma_answer R)) (by unfold zle; omega) (fun c_u4 u4' u4 r4 r4' R_u4 E_u4 v_u4 => ?_)
  cases v_u4
  refine rf_gw ?_
  exact rf_ret R_u4 rfl
theorem yb_Ma_part_96 {N : Nat} {p : Nat} {c : Nat → Nat} {m : MS} {u : CS} (R : RP (some p) c m u) {v1 : Int32} {v5 : Int32} : RF 1 (some p) VE c u (fb_Ma_part_96 N () u 55 v1 v5) (hb_Ma_part_96 N () m p v1 v5) := by
  unfold fb_Ma_part_96 hb_Ma_part_96
  refine rf_bo (gR_M3 R) ?_
  refine rf_soP R.md (fun j6 h_j6 => ?_)
  refine rf_bo (gR_P2 R h_j6) ?_
  refine rf_br ?_ ?_
  · exact (yb_Ma_part_120 R ⟨_, h_j6.1, rfl, rfl⟩)
  · exact (yb_Ma_part_120 R ⟨_, h_j6.1, rfl, rfl⟩)
theorem yb_Ma_part_74 {N : Nat} {p : Nat} {c : Nat → Nat} {m : MS} {u : CS} (R : RP (some p) c m u) {v1 : Int32} {v5 : Int32} {t0 : Int32} {t1 : Int32} : RF 1 (some p) VE c u (fb_Ma_part_74 N () u 55 v1 v5 t0 t1) (hb_Ma_part_74 N () m p v1 v5 t0 t1) := by
  unfold fb_Ma_part_74 hb_Ma_part_74
  refine rf_br ?_ ?_
  · refine rf_br ?_ ?_
    · exact (yb_Ma_part_96 R)
    · refine rf_br ?_ ?_
      · exact (yb_Ma_part_96 R)
      · refine rf_bo (gR_M3 R) ?_
        refine rf_soP R.md (fun j9 h_j9 => ?_)
        refine rf_bo (gR_P2 R h_j9) ?_
        refine rf_so ?_
        refine rf_ai (aq_2 R h_j9.1) ?_
        refine rf_br ?_ ?_
        · refine rf_bx0 (rf_gz (ym_Te_make R) (by omega)) (fun u23' u23 r23 R_u23 => ?_)
          refine rf_gw ?_
          refine rf_ck (ox_55 R_u23) ?_
          refine rf_ck (all1 (okR_s R_u23 (by decide))) ?_
          refine rf_bx (rf_gw (ym_Ma_answer R_u23)) (by unfold zle; omega) (fun c_u24 u24' u24 r24 r24' R_u24 E_u24 v_u24 => ?_)
          cases v_u24
          refine rf_gw ?_
          exact rf_ret R_u24 rfl
        · refine rf_bo (gR_M4 R) ?_
          refine rf_soF R.md (fun j15 h_j15 => ?_)
          refine rf_ck (io_F R h_j15) ?_
          refine rf_bx0 (rf_gz (ym_Fr_below R h_j15) (by omega)) (fun u14' u14 r14 R_u14 => ?_)
          refine rf_gw ?_
          refine rf_bx0 (rf_gz (ym_Te_tag R_u14) (by omega)) (fun u16' u16 r16 R_u16 => ?_)
          refine rf_gw ?_
          refine rf_br ?_ ?_
          · refine rf_br ?_ ?_
            · exact (yb_Ma_part_189 R_u16)
            · refine rf_br ?_ ?_
              · refine rf_bo (gR_M3 R_u16) ?_
                refine rf_soP R_u16.md (fun j18 h_j18 => ?_)
                refine rf_bo (gR_P2 R_u16 h_j18) ?_
                refine rf_so ?_
                refine rf_ai (aq_2 R_u16 h_j18.1) ?_
                refine rf_ck (ox_55 R_u16) ?_
                refine rf_ck (all1 (okR_s R_u16 (by decide))) ?_
                refine rf_bx (rf_gw (ym_Ma_answer R_u16)) (by unfold zle; omega) (fun c_u22 u22' u22 r22 r22' R_u22 E_u22 v_u22 => ?_)
                cases v_u22
                refine rf_gw ?_
                exact rf_ret R_u22 rfl
              · exact (yb_Ma_part_189 R_u16)
          · exact (yb_Ma_part_189 R_u16)
  · refine rf_ck (ox_55 R) ?_
    refine rf_bx0 (rf_gz (ym_Ma_wrong R) (by omega)) (fun u25' u25 r25 R_u25 => ?_)
    refine rf_gw ?_
    exact rf_ret R_u25 rfl
theorem yb_Ma_part_68 {N : Nat} {p : Nat} {c : Nat → Nat} {m : MS} {u : CS} (R : RP (some p) c m u) {v1 : Int32} {v5 : Int32} {t0 : Int32} : RF 1 (some p) VE c u (fb_Ma_part_68 N () u 55 v1 v5 t0) (hb_Ma_part_68 N () m p v1 v5 t0) := by
  unfold fb_Ma_part_68 hb_Ma_part_68
  exact (yb_Ma_part_74 R)
theorem yb_Ma_part_53 {N : Nat} {p : Nat} {c : Nat → Nat} {m : MS} {u : CS} (R : RP (some p) c m u) : RF 1 (some p) VE c u (fb_Ma_part_53 N () u) (hb_Ma_part_53 N () m p) := by
  unfold fb_Ma_part_53 hb_Ma_part_53
  exact rf_ret R rfl
theorem yb_Ma_part_0 {N : Nat} {p : Nat} {c : Nat → Nat} {m : MS} {u : CS} (R : RP (some p) c m u) {v1 : Int32} {v2 : Int64} {v4 : Int32} : RF 1 (some p) VE c u (fb_Ma_part_0 N () u 55 v1 v2 v4) (hb_Ma_part_0 N () m p v1 v2 v4) := by
  unfold fb_Ma_part_0 hb_Ma_part_0
  refine rf_br ?_ ?_
  · refine rf_bo (rx_55_2 R) ?_
    refine rf_bo (gR_M3 R) ?_
    refine rf_soP R.md (fun j28 h_j28 => ?_)
    refine rf_bo (gR_P2 R h_j28) ?_
    refine rf_so ?_
    refine rf_ck (ox_43 R) ?_
    refine rf_bx0 (rf_gz (ym_Te_listLength R ⟨_, h_j28.1, rfl, rfl⟩) (by omega)) (fun u30' u30 r30 R_u30 => ?_)
    refine rf_gw ?_
    refine rf_br ?_ ?_
    · refine rf_ck (ox_55 R_u30) ?_
      refine rf_bx0 (rf_gz (ym_Ma_wrong R_u30) (by omega)) (fun u34' u34 r34 R_u34 => ?_)
      refine rf_gw ?_
      exact (yb_Ma_part_53 R_u34)
    · refine rf_bx0 (rf_gz (ym_Te_make R_u30) (by omega)) (fun u32' u32 r32 R_u32 => ?_)
      refine rf_gw ?_
      refine rf_ck (ox_55 R_u32) ?_
      refine rf_ck (all1 (okR_s R_u32 (by decide))) ?_
      refine rf_bx (rf_gw (ym_Ma_answer R_u32)) (by unfold zle; omega) (fun c_u33 u33' u33 r33 r33' R_u33 E_u33 v_u33 => ?_)
      cases v_u33
      refine rf_gw ?_
      exact (yb_Ma_part_53 R_u33)
  · refine rf_br ?_ ?_
    · exact (yb_Ma_part_68 R)
    · refine rf_br ?_ ?_
      · exact (yb_Ma_part_68 R)
      · exact (yb_Ma_part_74 R)
theorem ym_Ma_part {N : Nat} {p : Nat} {c : Nat → Nat} {m : MS} {u : CS} (R : RP (some p) c m u) {v1 : Int32} {v2 : Int64} {v4 : Int32} : RF 1 (some p) VE c u (fm_Ma_part N u 55 v1 v2 v4) (hm_Ma_part N m p v1 v2 v4) := yb_Ma_part_0 (N := N) R
theorem yb_Ma_test_229 {N : Nat} {p : Nat} {c : Nat → Nat} {m : MS} {u : CS} (R : RP (some p) c m u) : RF 1 (some p) VE c u (fb_Ma_test_229 N () u) (hb_Ma_test_229 N () m p) := by
  unfold fb_Ma_test_229 hb_Ma_test_229
  exact rf_ret R rfl
theorem yb_Ma_test_212 {N : Nat} {p : Nat} {c : Nat → Nat} {m : MS} {u : CS} (R : RP (some p) c m u) {t1 : Int32} {t2 : Int32} : RF 1 (some p) VE c u (fb_Ma_test_212 N () u 55 t1 t2) (hb_Ma_test_212 N () m p t1 t2) := by
  unfold fb_Ma_test_212 hb_Ma_test_212
  refine rf_bx0 (rf_gz (ym_Ma_truth R) (by omega)) (fun u1' u1 r1 R_u1 => ?_)
  refine rf_gw ?_
  refine rf_ck (ox_55 R_u1) ?_
  refine rf_bx (rf_gw (ym_Ma_answer R_u1)) (by unfold zle; omega) (fun c_u2 u2' u2 r2 r2' R_u2 E_u2 v_u2 => ?_)
  cases v_u2
  refine rf_gw ?_
  exact (yb_Ma_test_229 R_u2)
theorem yb_Ma_test_190 {N : Nat} {p : Nat} {c : Nat → Nat} {m : MS} {u : CS} (R : RP (some p) c m u) {t1 : Int32} {t2 : Int32} : RF 1 (some p) VE c u (fb_Ma_test_190 N () u 55 t1 t2) (hb_Ma_test_190 N () m p t1 t2) := by
  unfold fb_Ma_test_190 hb_Ma_test_190
  refine rf_bx0 (rf_gz (ym_Ma_truth R) (by omega)) (fun u3' u3 r3 R_u3 => ?_)
  refine rf_gw ?_
  refine rf_ck (ox_55 R_u3) ?_
  refine rf_bx (rf_gw (ym_Ma_answer R_u3)) (by unfold zle; omega) (fun c_u4 u4' u4 r4 r4' R_u4 E_u4 v_u4 => ?_)
  cases v_u4
  refine rf_gw ?_
  exact (yb_Ma_test_229 R_u4)
theorem yb_Ma_test_168 {N : Nat} {p : Nat} {c : Nat → Nat} {m : MS} {u : CS} (R : RP (some p) c m u) {t1 : Int32} {t2 : Int32} : RF 1 (some p) VE c u (fb_Ma_test_168 N () u 55 t1 t2) (hb_Ma_test_168 N () m p t1 t2) := by
  unfold fb_Ma_test_168 hb_Ma_test_168
  refine rf_bx0 (rf_gz (ym_Ma_truth R) (by omega)) (fun u5' u5 r5 R_u5 => ?_)
  refine rf_gw ?_
  refine rf_ck (ox_55 R_u5) ?_
  refine rf_bx (rf_gw (ym_Ma_answer R_u5)) (by unfold zle; omega) (fun c_u6 u6' u6 r6 r6' R_u6 E_u6 v_u6 => ?_)
  cases v_u6
  refine rf_gw ?_
  exact (yb_Ma_test_229 R_u6)
theorem yb_Ma_test_146 {N : Nat} {p : Nat} {c : Nat → Nat} {m : MS} {u : CS} (R : RP (some p) c m u) {t1 : Int32} {t2 : Int32} : RF 1 (some p) VE c u (fb_Ma_test_146 N () u 55 t1 t2) (hb_Ma_test_146 N () m p t1 t2) := by
  unfold fb_Ma_test_146 hb_Ma_test_146
  refine rf_bx0 (rf_gz (ym_Ma_truth R) (by omega)) (fun u7' u7 r7 R_u7 => ?_)
  refine rf_gw ?_
  refine rf_ck (ox_55 R_u7) ?_
  refine rf_bx (rf_gw (ym_Ma_answer R_u7)) (by unfold zle; omega) (fun c_u8 u8' u8 r8 r8' R_u8 E_u8 v_u8 => ?_)
  cases v_u8
  refine rf_gw ?_
  exact (yb_Ma_test_229 R_u8)
theorem yb_Ma_test_124 {N : Nat} {p : Nat} {c : Nat → Nat} {m : MS} {u : CS} (R : RP (some p) c m u) {t1 : Int32} {t2 : Int32} : RF 1 (some p) VE c u (fb_Ma_test_124 N () u 55 t1 t2) (hb_Ma_test_124 N () m p t1 t2) := by
  unfold fb_Ma_test_124 hb_Ma_test_124
  refine rf_bx0 (rf_gz (ym_Ma_truth R) (by omega)) (fun u9' u9 r9 R_u9 => ?_)
  refine rf_gw ?_
  refine rf_ck (ox_55 R_u9) ?_
  refine rf_bx (rf_gw (ym_Ma_answer R_u9)) (by unfold zle; omega) (fun c_u10 u10' u10 r10 r10' R_u10 E_u10 v_u10 => ?_)
  cases v_u10
  refine rf_gw ?_
  exact (yb_Ma_test_229 R_u10)
theorem yb_Ma_test_119 {N : Nat} {p : Nat} {c : Nat → Nat} {m : MS} {u : CS} (R : RP (some p) c m u) {t1 : Int32} : RF 1 (some p) VE c u (fb_Ma_test_119 N () u 55 t1) (hb_Ma_test_119 N () m p t1) := by
  unfold fb_Ma_test_119 hb_Ma_test_119
  exact (yb_Ma_test_124 R)
theorem yb_Ma_test_94 {N : Nat} {p : Nat} {c : Nat → Nat} {m : MS} {u : CS} (R : RP (some p) c m u) {t1 : Int32} {t2 : Int32} : RF 1 (some p) VE c u (fb_Ma_test_94 N () u 55 t1 t2) (hb_Ma_test_94 N () m p t1 t2) := by
  unfold fb_Ma_test_94 hb_Ma_test_94
  refine rf_bx0 (rf_gz (ym_Ma_truth R) (by omega)) (fun u11' u11 r11 R_u11 => ?_)
  refine rf_gw ?_
  refine rf_ck (ox_55 R_u11) ?_
  refine rf_bx (rf_gw (ym_Ma_answer R_u11)) (by unfold zle; omega) (fun c_u12 u12' u12 r12 r12' R_u12 E_u12 v_u12 => ?_)
  cases v_u12
  refine rf_gw ?_
  exact (yb_Ma_test_229 R_u12)
theorem yb_Ma_test_72 {N : Nat} {p : Nat} {c : Nat → Nat} {m : MS} {u : CS} (R : RP (some p) c m u) {t1 : Int32} {t2 : Int32} : RF 1 (some p) VE c u (fb_Ma_test_72 N () u 55 t1 t2) (hb_Ma_test_72 N () m p t1 t2) := by
  unfold fb_Ma_test_72 hb_Ma_test_72
  refine rf_bx0 (rf_gz (ym_Ma_truth R) (by omega)) (fun u13' u13 r13 R_u13 => ?_)
  refine rf_gw ?_
  refine rf_ck (ox_55 R_u13) ?_
  refine rf_bx (rf_gw (ym_Ma_answer R_u13)) (by unfold zle; omega) (fun c_u14 u14' u14 r14 r14' R_u14 E_u14 v_u14 => ?_)
  cases v_u14
  refine rf_gw ?_
  exact (yb_Ma_test_229 R_u14)
theorem yb_Ma_test_0 {N : Nat} {p : Nat} {c : Nat → Nat} {m : MS} {u : CS} (R : RP (some p) c m u) {v1 : Int32} : RF 1 (some p) VE c u (fb_Ma_test_0 N () u 55 v1) (hb_Ma_test_0 N () m p v1) := by
  unfold fb_Ma_test_0 hb_Ma_test_0
  refine rf_bo (gR_M4 R) ?_
  refine rf_soF R.md (fun j17 h_j17 => ?_)
  refine rf_ck (io_F R h_j17) ?_
  refine rf_bx0 (rf_gz (ym_Fr_below R h_j17) (by omega)) (fun u16' u16 r16 R_u16 => ?_)
  refine rf_gw ?_
  refine rf_bx0 (rf_gz (ym_Te_tag R_u16) (by omega)) (fun u18' u18 r18 R_u18 => ?_)
  refine rf_gw ?_
  refine rf_br ?_ ?_
  · refine rf_br ?_ ?_
    · exact (yb_Ma_test_72 R_u18)
    · exact (yb_Ma_test_72 R_u18)
  · refine rf_br ?_ ?_
    · refine rf_br ?_ ?_
      · exact (yb_Ma_test_94 R_u18)
      · exact (yb_Ma_test_94 R_u18)
    · refine rf_br ?_ ?_
      · refine rf_br ?_ ?_
        · exact (yb_Ma_test_119 R_u18)
        · refine rf_br ?_ ?_
          · exact (yb_Ma_test_119 R_u18)
          · exact (yb_Ma_test_124 R_u18)
      · refine rf_br ?_ ?_
        · refine rf_br ?_ ?_
          · exact (yb_Ma_test_146 R_u18)
          · exact (yb_Ma_test_146 R_u18)
        · refine rf_br ?_ ?_
          · refine rf_br ?_ ?_
            · exact (yb_Ma_test_168 R_u18)
            · exact (yb_Ma_test_168 R_u18)
          · refine rf_br ?_ ?_
            · refine rf_br ?_ ?_
              · exact (yb_Ma_test_190 R_u18)
              · exact (yb_Ma_test_190 R_u18)
            · refine rf_br ?_ ?_
              · refine rf_br ?_ ?_
                · exact (yb_Ma_test_212 R_u18)
                · exact (yb_Ma_test_212 R_u18)
              · refine rf_ck (ox_55 R_u18) ?_
                refine rf_ck (all1 (okR_s R_u18 (by decide))) ?_
                refine rf_bx (rf_gw (ym_Ma_part R_u18)) (by unfold zle; omega) (fun c_u19 u19' u19 r19 r19' R_u19 E_u19 v_u19 => ?_)
                cases v_u19
                refine rf_gw ?_
                exact (yb_Ma_test_229 R_u19)
theorem ym_Ma_test {N : Nat} {p : Nat} {c : Nat → Nat} {m : MS} {u : CS} (R : RP (some p) c m u) {v1 : Int32} : RF 1 (some p) VE c u (fm_Ma_test N u 55 v1) (hm_Ma_test N m p v1) := yb_Ma_test_0 (N := N) R
theorem yb_Ma_alone_309 {N : Nat} {p : Nat} {c : Nat → Nat} {m : MS} {u : CS} (R : RP (some p) c m u) : RF 1 (some p) VE c u (fb_Ma_alone_309 N () u) (hb_Ma_alone_309 N () m p) := by
  unfold fb_Ma_alone_309 hb_Ma_alone_309
  exact rf_ret R rfl
theorem yb_Ma_alone_216 {N : Nat} {p : Nat} {c : Nat → Nat} {m : MS} {u : CS} (R : RP (some p) c m u) {t0 : Nat} {t0' : Nat} {t1 : Int32} (h_t0 : PVn c t0 t0') : RF 1 (some p) VE c u (fb_Ma_alone_216 N () u (some t0) t1) (hb_Ma_alone_216 N () m p t0' t1) := by
  unfold fb_Ma_alone_216 hb_Ma_alone_216
  refine rf_so ?_
  refine rf_ckk ?_
  refine rf_w (wq_11 R h_t0) (fun w2' w2 R_w2 => ?_)
  exact (yb_Ma_alone_309 R_w2)
theorem yb_Ma_alone_183 {N : Nat} {p : Nat} {c : Nat → Nat} {m : MS} {u : CS} (R : RP (some p) c m u) {v2 : Int64} : RF 1 (some p) VE c u (fb_Ma_alone_183 N () u 55 v2) (hb_Ma_alone_183 N () m p v2) := by
  unfold fb_Ma_alone_183 hb_Ma_alone_183
  refine rf_bo (gR_M3 R) ?_
  refine rf_soP R.md (fun j4 h_j4 => ?_)
  refine rf_bo (gq_11 R h_j4) ?_
  refine rf_bx0 (rf_gz (ym_Ma_truth R) (by omega)) (fun u6' u6 r6 R_u6 => ?_)
  refine rf_gw ?_
  refine rf_ck (ox_55 R_u6) ?_
  refine rf_ck (all1 (okR_s R_u6 (by decide))) ?_
  refine rf_bx (rf_gw (ym_Ma_answer R_u6)) (by unfold zle; omega) (fun c_u7 u7' u7 r7 r7' R_u7 E_u7 v_u7 => ?_)
  cases v_u7
  refine rf_gw ?_
  refine rf_bo (gR_M3 R_u7) ?_
  refine rf_bx0 (rf_gz (ym_Ma_atom R_u7) (by omega)) (fun u9' u9 r9 R_u9 => ?_)
  refine rf_gw ?_
  refine rf_br ?_ ?_
  · exact (yb_Ma_alone_216 R_u9 ⟨R_u9.md, rfl⟩)
  · exact (yb_Ma_alone_216 R_u9 ⟨R_u9.md, rfl⟩)
theorem yb_Ma_alone_0 {N : Nat} {p : Nat} {c : Nat → Nat} {m : MS} {u : CS} (R : RP (some p) c m u) {v1 : Int32} : RF 1 (some p) VE c u (fb_Ma_alone_0 N () u 55 v1) (hb_Ma_alone_0 N () m p v1) := by
  unfold fb_Ma_alone_0 hb_Ma_alone_0
  refine rf_bo (gR_M4 R) ?_
  refine rf_soF R.md (fun j12 h_j12 => ?_)
  refine rf_ck (io_F R h_j12) ?_
  refine rf_bx0 (rf_gz (ym_Fr_below R h_j12) (by omega)) (fun u11' u11 r11 R_u11 => ?_)
  refine rf_gw ?_
  refine rf_br ?_ ?_
  · refine rf_bo (gR_M3 R_u11) ?_
    refine rf_soP R_u11.md (fun j14 h_j14 => ?_)
    refine rf_bo (gI_P0 R_u11 h_j14) ?_
    refine rf_bx0 (rf_gz (ym_Te_make R_u11) (by omega)) (fun u16' u16 r16 R_u16 => ?_)
    refine rf_gw ?_
    refine rf_ck (ox_55 R_u16) ?_
    refine rf_ck (all1 (okR_s R_u16 (by decide))) ?_
    refine rf_bx (rf_gw (ym_Ma_answer R_u16)) (by unfold zle; omega) (fun c_u17 u17' u17 r17 r17' R_u17 E_u17 v_u17 => ?_)
    cases v_u17
    refine rf_gw ?_
    exact (yb_Ma_alone_309 R_u17)
  · refine rf_br ?_ ?_
    · refine rf_ck (ox_55 R_u11) ?_
      refine rf_bx0 (rf_gz (ym_Ma_wrong R_u11) (by omega)) (fun u18' u18 r18 R_u18 => ?_)
      refine rf_gw ?_
      exact (yb_Ma_alone_309 R_u18)
    · refine rf_br ?_ ?_
      · refine rf_ck (ox_55 R_u11) ?_
        refine rf_bx0 (rf_gz (ym_Ma_wrong R_u11) (by omega)) (fun u19' u19 r19 R_u19 => ?_)
        refine rf_gw ?_
        exact (yb_Ma_alone_309 R_u19)
      · refine rf_br ?_ ?_
        · refine rf_ck (ox_55 R_u11) ?_
          refine rf_bx0 (rf_gz (ym_Ma_wrong R_u11) (by omega)) (fun u20' u20 r20 R_u20 => ?_)
          refine rf_gw ?_
          exact (yb_Ma_alone_309 R_u20)
        · refine rf_br ?_ ?_
          · refine rf_ck (ox_55 R_u11) ?_
            refine rf_bx0 (rf_gz (ym_Ma_wrong R_u11) (by omega)) (fun u21' u21 r21 R_u21 => ?_)
            refine rf_gw ?_
            exact (yb_Ma_alone_309 R_u21)
          · refine rf_br ?_ ?_
            · refine rf_bx0 (rf_gz (ym_Te_tag R_u11) (by omega)) (fun u22' u22 r22 R_u22 => ?_)
              refine rf_gw ?_
              refine rf_br ?_ ?_
              · refine rf_bo (rx_55_1 R_u22) ?_
                refine rf_bo (gR_M3 R_u22) ?_
                refine rf_soP R_u22.md (fun j25 h_j25 => ?_)
                refine rf_bo (gI_P0 R_u22 h_j25) ?_
                refine rf_so ?_
                refine rf_ck (ox_47 R_u22) ?_
                refine rf_bx0 (rf_gz (ym_Wl_removeWatch R_u22) (by omega)) (fun u27' u27 r27 R_u27 => ?_)
                refine rf_gw ?_
                refine rf_bx0 (rf_gz (ym_Ma_atom R_u27) (by omega)) (fun u29' u29 r29 R_u29 => ?_)
                refine rf_gw ?_
                refine rf_ck (ox_55 R_u29) ?_
                refine rf_ck (all1 (okR_s R_u29 (by decide))) ?_
                refine rf_bx (rf_gw (ym_Ma_answer R_u29)) (by unfold zle; omega) (fun c_u30 u30' u30 r30 r30' R_u30 E_u30 v_u30 => ?_)
                cases v_u30
                refine rf_gw ?_
                exact (yb_Ma_alone_309 R_u30)
              · refine rf_ck (ox_55 R_u22) ?_
                refine rf_bx0 (rf_gz (ym_Ma_wrong R_u22) (by omega)) (fun u31' u31 r31 R_u31 => ?_)
                refine rf_gw ?_
                exact (yb_Ma_alone_309 R_u31)
            · refine rf_br ?_ ?_
              · refine rf_bx0 (rf_gz (ym_Ma_atom R_u11) (by omega)) (fun u32' u32 r32 R_u32 => ?_)
                refine rf_gw ?_
                refine rf_br ?_ ?_
                · exact (yb_Ma_alone_183 R_u32)
                · refine rf_bx0 (rf_gz (ym_Ma_atom R_u32) (by omega)) (fun u33' u33 r33 R_u33 => ?_)
                  refine rf_gw ?_
                  refine rf_br ?_ ?_
                  · exact (yb_Ma_alone_183 R_u33)
                  · refine rf_ck (ox_55 R_u33) ?_
                    refine rf_bx0 (rf_gz (ym_Ma_wrong R_u33) (by omega)) (fun u34' u34 r34 R_u34 => ?_)
                    refine rf_gw ?_
                    exact (yb_Ma_alone_309 R_u34)
              · refine rf_br ?_ ?_
                · refine rf_ck (ox_55 R_u11) ?_
                  refine rf_bx0 (rf_gz (ym_Ma_tell R_u11) (by omega)) (fun u35' u35 r35 R_u35 => ?_)
                  refine rf_gw ?_
                  exact (yb_Ma_alone_309 R_u35)
                · refine rf_br ?_ ?_
                  · refine rf_ck (ox_55 R_u11) ?_
                    refine rf_bx0 (rf_gz (ym_Ma_tell R_u11) (by omega)) (fun u36' u36 r36 R_u36 => ?_)
                    refine rf_gw ?_
                    exact (yb_Ma_alone_309 R_u36)
                  · refine rf_br ?_ ?_
                    · refine rf_ck (ox_55 R_u11) ?_
                      refine rf_bx0 (rf_gz (ym_Ma_tell R_u11) (by omega)) (fun u37' u37 r37 R_u37 => ?_)
                      refine rf_gw ?_
                      exact (yb_Ma_alone_309 R_u37)
                    · refine rf_br ?_ ?_
                      · refine rf_ck (ox_55 R_u11) ?_
                        refine rf_bx0 (rf_gz (ym_Ma_wrong R_u11) (by omega)) (fun u38' u38 r38 R_u38 => ?_)
                        refine rf_gw ?_
                        exact (yb_Ma_alone_309 R_u38)
                      · refine rf_br ?_ ?_
                        · refine rf_bo (rx_55_1 R_u11) ?_
                          refine rf_so ?_
                          refine rf_bo (gx_47_5 R_u11) ?_
                          refine rf_bx0 (rf_gz (ym_Te_make R_u11) (by omega)) (fun u42' u42 r42 R_u42 => ?_)
                          refine rf_gw ?_
                          refine rf_ck (ox_55 R_u42) ?_
                          refine rf_ck (all1 (okR_s R_u42 (by decide))) ?_
                          refine rf_bx (rf_gw (ym_Ma_answer R_u42)) (by unfold zle; omega) (fun c_u43 u43' u43 r43 r43' R_u43 E_u43 v_u43 => ?_)
                          cases v_u43
                          refine rf_gw ?_
                          refine rf_bo (rx_55_1 R_u43) ?_
                          refine rf_so ?_
                          refine rf_bo (gx_47_5 R_u43) ?_
                          refine rf_w (px_47_5 R_u43) (fun w47' w47 R_w47 => ?_)
                          exact (yb_Ma_alone_309 R_w47)
                        · refine rf_br ?_ ?_
                          · refine rf_ck (ox_55 R_u11) ?_
                            refine rf_bx0 (rf_gz (ym_Ma_wrong R_u11) (by omega)) (fun u48' u48 r48 R_u48 => ?_)
                            refine rf_gw ?_
                            exact (yb_Ma_alone_309 R_u48)
                          · refine rf_br ?_ ?_
                            · refine rf_ck (ox_55 R_u11) ?_
                              refine rf_bx0 (rf_gz (ym_Ma_wrong R_u11) (by omega)) (fun u49' u49 r49 R_u49 => ?_)
                              refine rf_gw ?_
                              exact (yb_Ma_alone_309 R_u49)
                            · refine rf_br ?_ ?_
                              · refine rf_ck (ox_55 R_u11) ?_
                                refine rf_bx0 (rf_gz (ym_Ma_wrong R_u11) (by omega)) (fun u50' u50 r50 R_u50 => ?_)
                                refine rf_gw ?_
                                exact (yb_Ma_alone_309 R_u50)
                              · refine rf_br ?_ ?_
                                · refine rf_ck (ox_55 R_u11) ?_
                                  refine rf_bx0 (rf_gz (ym_Ma_wrong R_u11) (by omega)) (fun u51' u51 r51 R_u51 => ?_)
                                  refine rf_gw ?_
                                  exact (yb_Ma_alone_309 R_u51)
                                · refine rf_br ?_ ?_
                                  · refine rf_bo (rx_55_1 R_u11) ?_
                                    refine rf_so ?_
                                    refine rf_bo (gx_47_4 R_u11) ?_
                                    refine rf_bx0 (rf_gz (ym_Te_make R_u11) (by omega)) (fun u55' u55 r55 R_u55 => ?_)
                                    refine rf_gw ?_
                                    refine rf_ck (ox_55 R_u55) ?_
                                    refine rf_ck (all1 (okR_s R_u55 (by decide))) ?_
                                    refine rf_bx (rf_gw (ym_Ma_answer R_u55)) (by unfold zle; omega) (fun c_u56 u56' u56 r56 r56' R_u56 E_u56 v_u56 => ?_)
                                    cases v_u56
                                    refine rf_gw ?_
                                    exact (yb_Ma_alone_309 R_u56)
                                  · refine rf_ck (ox_55 R_u11) ?_
                                    refine rf_bx0 (rf_gz (ym_Ma_wrong R_u11) (by omega)) (fun u57' u57 r57 R_u57 => ?_)
                                    refine rf_gw ?_
                                    exact (yb_Ma_alone_309 R_u57)
theorem ym_Ma_alone {N : Nat} {p : Nat} {c : Nat → Nat} {m : MS} {u : CS} (R : RP (some p) c m u) {v1 : Int32} : RF 1 (some p) VE c u (fm_Ma_alone N u 55 v1) (hm_Ma_alone N m p v1) := yb_Ma_alone_0 (N := N) R
theorem yb_Ma_predefined_163 {N : Nat} {p : Nat} {c : Nat → Nat} {m : MS} {u : CS} (R : RP (some p) c m u) : RF 2 (some p) VE c u (fb_Ma_predefined_163 N () u) (hb_Ma_predefined_163 N () m p) := by
  unfold fb_Ma_predefined_163 hb_Ma_predefined_163
  exact rf_ret R rfl
theorem yb_Ma_predefined_146 {N : Nat} {p : Nat} {c : Nat → Nat} {m : MS} {u : CS} (R : RP (some p) c m u) : RF 2 (some p) VE c u (fb_Ma_predefined_146 N () u 55) (hb_Ma_predefined_146 N () m p) := by
  unfold fb_Ma_predefined_146 hb_Ma_predefined_146
  refine rf_bo (gx_55_9 R) ?_
  refine rf_br ?_ ?_
  · refine rf_bo (gx_55_5 R) ?_
    refine rf_w (px_55_5 R) (fun w3' w3 R_w3 => ?_)
    exact (yb_Ma_predefined_163 R_w3)
  · exact (yb_Ma_predefined_163 R)
theorem yb_Ma_predefined_141 {N : Nat} {p : Nat} {c : Nat → Nat} {m : MS} {u : CS} (R : RP (some p) c m u) {v1 : Int32} : RF 2 (some p) VE c u (fb_Ma_predefined_141 N () u 55 v1) (hb_Ma_predefined_141 N () m p v1) := by
  unfold fb_Ma_predefined_141 hb_Ma_predefined_141
  refine rf_ck (ox_55 R) ?_
  refine rf_ck (all1 (okR_s R (by decide))) ?_
  refine rf_bx (rf_gw (ym_Ma_alone R)) (by unfold zle; omega) (fun c_u4 u4' u4 r4 r4' R_u4 E_u4 v_u4 => ?_)
  cases v_u4
  refine rf_gw ?_
  exact (yb_Ma_predefined_146 R_u4)
theorem yb_Ma_predefined_0 {N : Nat} {p : Nat} {c : Nat → Nat} {m : MS} {u : CS} (R : RP (some p) c m u) {v1 : Int32} : RF 2 (some p) VE c u (fb_Ma_predefined_0 N () u 55 v1) (hb_Ma_predefined_0 N () m p v1) := by
  unfold fb_Ma_predefined_0 hb_Ma_predefined_0
  refine rf_br ?_ ?_
  · refine rf_ck (ox_55 R) ?_
    refine rf_ck (all1 (okR_s R (by decide))) ?_
    refine rf_bx (rf_gw (ym_Ma_spawn R)) (by unfold zle; omega) (fun c_u5 u5' u5 r5 r5' R_u5 E_u5 v_u5 => ?_)
    cases v_u5
    refine rf_gw ?_
    exact (yb_Ma_predefined_146 R_u5)
  · refine rf_br ?_ ?_
    · refine rf_br ?_ ?_
      · exact (yb_Ma_predefined_141 R)
      · refine rf_br ?_ ?_
        · exact (yb_Ma_predefined_141 R)
        · refine rf_ck (ox_55 R) ?_
          refine rf_ck (all1 (okR_s R (by decide))) ?_
          refine rf_bx (rf_gw (ym_Ma_test R)) (by unfold zle; omega) (fun c_u6 u6' u6 r6 r6' R_u6 E_u6 v_u6 => ?_)
          cases v_u6
          refine rf_gw ?_
          exact (yb_Ma_predefined_146 R_u6)
    · refine rf_br ?_ ?_
      · refine rf_br ?_ ?_
        · exact (yb_Ma_predefined_141 R)
        · refine rf_br ?_ ?_
          · exact (yb_Ma_predefined_141 R)
          · refine rf_ck (ox_55 R) ?_
            refine rf_ck (all1 (okR_s R (by decide))) ?_
            refine rf_bx (rf_gw (ym_Ma_test R)) (by unfold zle; omega) (fun c_u7 u7' u7 r7 r7' R_u7 E_u7 v_u7 => ?_)
            cases v_u7
            refine rf_gw ?_
            exact (yb_Ma_predefined_146 R_u7)
      · refine rf_br ?_ ?_
        · refine rf_br ?_ ?_
          · exact (yb_Ma_predefined_141 R)
          · refine rf_br ?_ ?_
            · exact (yb_Ma_predefined_141 R)
            · refine rf_ck (ox_55 R) ?_
              refine rf_ck (all1 (okR_s R (by decide))) ?_
              refine rf_bx (rf_gw (ym_Ma_test R)) (by unfold zle; omega) (fun c_u8 u8' u8 r8 r8' R_u8 E_u8 v_u8 => ?_)
              cases v_u8
              refine rf_gw ?_
              exact (yb_Ma_predefined_146 R_u8)
        · refine rf_br ?_ ?_
          · refine rf_br ?_ ?_
            · exact (yb_Ma_predefined_141 R)
            · refine rf_br ?_ ?_
              · exact (yb_Ma_predefined_141 R)
              · refine rf_ck (ox_55 R) ?_
                refine rf_ck (all1 (okR_s R (by decide))) ?_
                refine rf_bx (rf_gw (ym_Ma_test R)) (by unfold zle; omega) (fun c_u9 u9' u9 r9 r9' R_u9 E_u9 v_u9 => ?_)
                cases v_u9
                refine rf_gw ?_
                exact (yb_Ma_predefined_146 R_u9)
          · refine rf_br ?_ ?_
            · refine rf_br ?_ ?_
              · exact (yb_Ma_predefined_141 R)
              · refine rf_br ?_ ?_
                · exact (yb_Ma_predefined_141 R)
                · refine rf_ck (ox_55 R) ?_
                  refine rf_ck (all1 (okR_s R (by decide))) ?_
                  refine rf_bx (rf_gw (ym_Ma_test R)) (by unfold zle; omega) (fun c_u10 u10' u10 r10 r10' R_u10 E_u10 v_u10 => ?_)
                  cases v_u10
                  refine rf_gw ?_
                  exact (yb_Ma_predefined_146 R_u10)
            · refine rf_br ?_ ?_
              · refine rf_br ?_ ?_
                · exact (yb_Ma_predefined_141 R)
                · refine rf_br ?_ ?_
                  · exact (yb_Ma_predefined_141 R)
                  · refine rf_ck (ox_55 R) ?_
                    refine rf_ck (all1 (okR_s R (by decide))) ?_
                    refine rf_bx (rf_gw (ym_Ma_test R)) (by unfold zle; omega) (fun c_u11 u11' u11 r11 r11' R_u11 E_u11 v_u11 => ?_)
                    cases v_u11
                    refine rf_gw ?_
                    exact (yb_Ma_predefined_146 R_u11)
              · refine rf_br ?_ ?_
                · refine rf_br ?_ ?_
                  · exact (yb_Ma_predefined_141 R)
                  · refine rf_br ?_ ?_
                    · exact (yb_Ma_predefined_141 R)
                    · refine rf_ck (ox_55 R) ?_
                      refine rf_ck (all1 (okR_s R (by decide))) ?_
                      refine rf_bx (rf_gw (ym_Ma_test R)) (by unfold zle; omega) (fun c_u12 u12' u12 r12 r12' R_u12 E_u12 v_u12 => ?_)
                      cases v_u12
                      refine rf_gw ?_
                      exact (yb_Ma_predefined_146 R_u12)
                · refine rf_br ?_ ?_
                  · refine rf_br ?_ ?_
                    · exact (yb_Ma_predefined_141 R)
                    · refine rf_br ?_ ?_
                      · exact (yb_Ma_predefined_141 R)
                      · refine rf_ck (ox_55 R) ?_
                        refine rf_ck (all1 (okR_s R (by decide))) ?_
                        refine rf_bx (rf_gw (ym_Ma_test R)) (by unfold zle; omega) (fun c_u13 u13' u13 r13 r13' R_u13 E_u13 v_u13 => ?_)
                        cases v_u13
                        refine rf_gw ?_
                        exact (yb_Ma_predefined_146 R_u13)
                  · refine rf_br ?_ ?_
                    · refine rf_bo (rx_55_1 R) ?_
                      refine rf_bo (gR_M3 R) ?_
                      refine rf_soP R.md (fun j16 h_j16 => ?_)
                      refine rf_bo (gR_P2 R h_j16) ?_
                      refine rf_bo (gR_M4 R) ?_
                      refine rf_soF R.md (fun j20 h_j20 => ?_)
                      refine rf_ck (io_F R h_j20) ?_
                      refine rf_bx0 (rf_gz (ym_Fr_below R h_j20) (by omega)) (fun u19' u19 r19 R_u19 => ?_)
                      refine rf_gw ?_
                      refine rf_so ?_
                      refine rf_ck (ox_47 R_u19) ?_
                      refine rf_bx0 (rf_gz (ym_Wl_print R_u19 ⟨_, h_j16.1, rfl, rfl⟩) (by omega)) (fun u21' u21 r21 R_u21 => ?_)
                      refine rf_gw ?_
                      refine rf_bx0 (rf_gz (ym_Ma_atom R_u21) (by omega)) (fun u23' u23 r23 R_u23 => ?_)
                      refine rf_gw ?_
                      refine rf_ck (ox_55 R_u23) ?_
                      refine rf_ck (all1 (okR_s R_u23 (by decide))) ?_
                      refine rf_bx (rf_gw (ym_Ma_answer R_u23)) (by unfold zle; omega) (fun c_u24 u24' u24 r24 r24' R_u24 E_u24 v_u24 => ?_)
                      cases v_u24
                      refine rf_gw ?_
                      exact (yb_Ma_predefined_146 R_u24)
                    · refine rf_br ?_ ?_
                      · refine rf_br ?_ ?_
                        · exact (yb_Ma_predefined_141 R)
                        · refine rf_br ?_ ?_
                          · exact (yb_Ma_predefined_141 R)
                          · refine rf_ck (ox_55 R) ?_
                            refine rf_ck (all1 (okR_s R (by decide))) ?_
                            refine rf_bx (rf_gw (ym_Ma_test R)) (by unfold zle; omega) (fun c_u25 u25' u25 r25 r25' R_u25 E_u25 v_u25 => ?_)
                            cases v_u25
                            refine rf_gw ?_
                            exact (yb_Ma_predefined_146 R_u25)
                      · refine rf_br ?_ ?_
                        · refine rf_ck (ox_55 R) ?_
                          refine rf_ck (all1 (okR_s R (by decide))) ?_
                          refine rf_bx (rf_gw (ym_Ma_naming R)) (by unfold zle; omega) (fun c_u26 u26' u26 r26 r26' R_u26 E_u26 v_u26 => ?_)
                          cases v_u26
                          refine rf_gw ?_
                          exact (yb_Ma_predefined_146 R_u26)
                        · refine rf_br ?_ ?_
                          · refine rf_ck (ox_55 R) ?_
                            refine rf_ck (all1 (okR_s R (by decide))) ?_
                            refine rf_bx (rf_gw (ym_Ma_naming R)) (by unfold zle; omega) (fun c_u27 u27' u27 r27 r27' R_u27 E_u27 v_u27 => ?_)
                            cases v_u27
                            refine rf_gw ?_
                            exact (yb_Ma_predefined_146 R_u27)
                          · refine rf_br ?_ ?_
                            · refine rf_ck (ox_55 R) ?_
                              refine rf_ck (all1 (okR_s R (by decide))) ?_
                              refine rf_bx (rf_gw (ym_Ma_naming R)) (by unfold zle; omega) (fun c_u28 u28' u28 r28 r28' R_u28 E_u28 v_u28 => ?_)
                              cases v_u28
                              refine rf_gw ?_
                              exact (yb_Ma_predefined_146 R_u28)
                            · refine rf_br ?_ ?_
                              · exact (yb_Ma_predefined_141 R)
                              · refine rf_br ?_ ?_
                                · exact (yb_Ma_predefined_141 R)
                                · refine rf_ck (ox_55 R) ?_
                                  refine rf_ck (all1 (okR_s R (by decide))) ?_
                                  refine rf_bx (rf_gw (ym_Ma_test R)) (by unfold zle; omega) (fun c_u29 u29' u29 r29 r29' R_u29 E_u29 v_u29 => ?_)
                                  cases v_u29
                                  refine rf_gw ?_
                                  exact (yb_Ma_predefined_146 R_u29)
theorem ym_Ma_predefined {N : Nat} {p : Nat} {c : Nat → Nat} {m : MS} {u : CS} (R : RP (some p) c m u) {v1 : Int32} : RF 2 (some p) VE c u (fm_Ma_predefined N u 55 v1) (hm_Ma_predefined N m p v1) := yb_Ma_predefined_0 (N := N) R
end
section
set_option maxRecDepth 100000
theorem yb_Wl_post_193 {N : Nat} {o : Option Nat} {c : Nat → Nat} {m : MS} {u : CS} (R : RP o c m u) {v1 : Nat} {v1' : Nat} {v2 : Int32} {v3 : Int32} {v11 : Int32} {v12 : Int64} (h_v1 : PVn c v1 v1') : RF 3 o VE c u (fb_Wl_post_193 N () u (some v1) v2 v3 v11 v12) (hb_Wl_post_193 N () m v1' v2 v3 v11 v12) := by
  unfold fb_Wl_post_193 hb_Wl_post_193
  refine rf_so ?_
  refine rf_bo (gR_P2 R h_v1) ?_
  refine rf_bx0 (ym_Te_make R) (fun u3' u3 r3 R_u3 => ?_)
  refine rf_so ?_
  refine rf_wk (sq_2 R_u3 h_v1.1) (fun w5' w5 R_w5 => ?_)
  refine rf_so ?_
  refine rf_bo (gR_P2 R_w5 h_v1) ?_
  refine rf_so ?_
  refine rf_wk (sq_2 R_w5 h_v1.1) (fun w9' w9 R_w9 => ?_)
  refine rf_bx0 (ym_Te_make R_w9) (fun u10' u10 r10 R_u10 => ?_)
  refine rf_so ?_
  refine rf_ck (io_P R_u10 h_v1) ?_
  refine rf_bx0 (ym_Pr_comes R_u10 h_v1) (fun u11' u11 r11 R_u11 => ?_)
  exact rf_ret R_u11 rfl
theorem yb_Wl_post_169 {N : Nat} {o : Option Nat} {c : Nat → Nat} {m : MS} {u : CS} (R : RP o c m u) {v1 : Nat} {v1' : Nat} {v2 : Int32} {v3 : Int32} {v4 : Int32} {v11 : Int32} {v12 : Int64} {t0 : Nat} {t0' : Nat} {t1 : Int32} {t2 : Int32} {t3 : Int32} (h_v1 : PVn c v1 v1') (h_t0 : CVn c t0 t0') : RF 3 o VE c u (fb_Wl_post_169 N () u (some v1) v2 v3 v4 v11 v12 (some t0) t1 t2 t3) (hb_Wl_post_169 N () m v1' v2 v3 v4 v11 v12 t0' t1 t2 t3) := by
  unfold fb_Wl_post_169 hb_Wl_post_169
  refine rf_bx0 (ym_Te_make R) (fun u13' u13 r13 R_u13 => ?_)
  refine rf_so ?_
  refine rf_wk (sq_C R_u13 h_t0) (fun w15' w15 R_w15 => ?_)
  refine rf_br ?_ ?_
  · refine rf_so ?_
    refine rf_bo (gR_P2 R_w15 h_v1) ?_
    refine rf_bx0 (ym_Te_make R_w15) (fun u18' u18 r18 R_u18 => ?_)
    refine rf_so ?_
    refine rf_wk (sq_2 R_u18 h_v1.1) (fun w20' w20 R_w20 => ?_)
    exact (yb_Wl_post_193 R_w20 h_v1)
  · exact (yb_Wl_post_193 R_w15 h_v1)
theorem yb_Wl_post_120 {N : Nat} {o : Option Nat} {c : Nat → Nat} {m : MS} {u : CS} (R : RP o c m u) {v1 : Nat} {v1' : Nat} {v2 : Int32} {v3 : Int32} {v4 : Int32} {v11 : Int32} {t0 : Int64} (h_v1 : PVn c v1 v1') : RF 3 o VE c u (fb_Wl_post_120 N () u (some v1) v2 v3 v4 v11 t0) (hb_Wl_post_120 N () m v1' v2 v3 v4 v11 t0) := by
  unfold fb_Wl_post_120 hb_Wl_post_120
  refine rf_br ?_ ?_
  · refine rf_so ?_
    refine rf_ck (io_P R h_v1) ?_
    refine rf_bx0 (ym_Pr_comes R h_v1) (fun u28' u28 r28 R_u28 => ?_)
    exact rf_ret R_u28 rfl
  · refine rf_so ?_
    refine rf_bo (gR_P2 R h_v1) ?_
    refine rf_bx0 (ym_Te_make R) (fun u23' u23 r23 R_u23 => ?_)
    refine rf_so ?_
    refine rf_wk (sq_2 R_u23 h_v1.1) (fun w25' w25 R_w25 => ?_)
    refine rf_so ?_
    refine rf_bo (gR_P2 R_w25 h_v1) ?_
    refine rf_br ?_ ?_
    · exact (yb_Wl_post_169 R_w25 h_v1 ⟨_, h_v1.1, rfl, rfl⟩)
    · exact (yb_Wl_post_169 R_w25 h_v1 ⟨_, h_v1.1, rfl, rfl⟩)
theorem yb_Wl_post_81 {N : Nat} {o : Option Nat} {c : Nat → Nat} {m : MS} {u : CS} (R : RP o c m u) {v1 : Nat} {v1' : Nat} {v2 : Int32} {v3 : Int32} {v4 : Int32} {v7 : Option Nat} {v7' : Option Nat} {t0 : Int64} (h_v1 : PVn c v1 v1') (h_v7 : PVo c v7 v7') : RF 3 o VE c u (fb_Wl_post_81 N () u (some v1) v2 v3 v4 v7 t0) (hb_Wl_post_81 N () m v1' v2 v3 v4 v7' t0) := by
  unfold fb_Wl_post_81 hb_Wl_post_81
  refine rf_so ?_
  refine rf_bo (gq_4 R h_v1) ?_
  refine rf_so ?_
  refine rf_bo (gq_4 R h_v1) ?_
  refine rf_w (wq_4 R h_v1) (fun w34' w34 R_w34 => ?_)
  refine rf_br2 (PV_n h_v7) ?_ ?_
  · exact (yb_Wl_post_120 R_w34 h_v1)
  · refine rf_boQ h_v7 (fun j35 j35' e1_j35 e2_j35 h_j35 => ?_)
    subst e1_j35
    refine rf_so ?_
    refine rf_bo (gR_P2 R_w34 h_j35) ?_
    refine rf_so ?_
    refine rf_ck (io_P R_w34 h_v1) ?_
    refine rf_bx0 (ym_Pr_copyIn R_w34 h_v1 ⟨_, h_j35.1, rfl, rfl⟩) (fun u37' u37 r37 R_u37 => ?_)
    exact (yb_Wl_post_120 R_u37 h_v1)
theorem yb_Wl_post_41 {N : Nat} {o : Option Nat} {c : Nat → Nat} {m : MS} {u : CS} (R : RP o c m u) {v1 : Nat} {v1' : Nat} {v2 : Int32} {v3 : Int32} {v4 : Int32} {v5 : Int64} {v7 : Option Nat} {v7' : Option Nat} {t0 : Int32} (h_v1 : PVn c v1 v1') (h_v7 : PVo c v7 v7') : RF 3 o VE c u (fb_Wl_post_41 N () u 47 (some v1) v2 v3 v4 v5 v7 t0) (hb_Wl_post_41 N () m v1' v2 v3 v4 v5 v7' t0) := by
  unfold fb_Wl_post_41 hb_Wl_post_41
  refine rf_so ?_
  refine rf_ck (io_P R h_v1) ?_
  refine rf_bx (ym_Pr_want R h_v1) (by unfold zle; omega) (fun c_u39 u39' u39 r39 r39' R_u39 E_u39 v_u39 => ?_)
  cases v_u39
  replace h_v1 := E_u39.P h_v1
  replace h_v7 := E_u39.Po h_v7
  refine rf_br ?_ ?_
  · refine rf_ck (ox_47 R_u39) ?_
    refine rf_bx0 (ym_Wl_endsBy R_u39 h_v1) (fun u45' u45 r45 R_u45 => ?_)
    exact rf_ret R_u45 rfl
  · refine rf_ck (okR_Po R_u39 h_v7) ?_
    refine rf_ck (okR_P R_u39 h_v1) ?_
    refine rf_br2 (PV_e R_u39 h_v7 (PV_j h_v1)) ?_ ?_
    · refine rf_so ?_
      refine rf_bo (gR_P1 R_u39 h_v1) ?_
      refine rf_soF h_v1.1 (fun j44 h_j44 => ?_)
      refine rf_ck (io_F R_u39 h_j44) ?_
      refine rf_bx0 (ym_Fr_below R_u39 h_j44) (fun u43' u43 r43 R_u43 => ?_)
      exact (yb_Wl_post_81 R_u43 h_v1 h_v7)
    · exact (yb_Wl_post_81 R_u39 h_v1 h_v7)
theorem yb_Wl_post_17 {N : Nat} {o : Option Nat} {c : Nat → Nat} {m : MS} {u : CS} (R : RP o c m u) : RF 3 o VE c u (fb_Wl_post_17 N () u) (hb_Wl_post_17 N () m) := by
  unfold fb_Wl_post_17 hb_Wl_post_17
  exact rf_ret R rfl
theorem yb_Wl_post_0 {N : Nat} {o : Option Nat} {c : Nat → Nat} {m : MS} {u : CS} (R : RP o c m u) {v1 : Nat} {v1' : Nat} {v2 : Int32} {v3 : Int32} {v4 : Int32} {v5 : Int64} {v7 : Option Nat} {v7' : Option Nat} (h_v1 : PVn c v1 v1') (h_v7 : PVo c v7 v7') : RF 3 o VE c u (fb_Wl_post_0 N () u 47 (some v1) v2 v3 v4 v5 v7) (hb_Wl_post_0 N () m v1' v2 v3 v4 v5 v7') := by
  unfold fb_Wl_post_0 hb_Wl_post_0
  refine rf_so ?_
  refine rf_bo (gq_9 R h_v1) ?_
  refine rf_br ?_ ?_
  · exact (yb_Wl_post_17 R)
  · refine rf_so ?_
    refine rf_bo (gq_7 R h_v1) ?_
    refine rf_br ?_ ?_
    · refine rf_br2 (PV_n h_v7) ?_ ?_
      · exact (yb_Wl_post_41 R h_v1 h_v7)
      · refine rf_bo (rx_47_0 R) ?_
        refine rf_boQ h_v7 (fun j51 j51' e1_j51 e2_j51 h_j51 => ?_)
        subst e1_j51
        refine rf_so ?_
        refine rf_bo (gR_P2 R h_j51) ?_
        refine rf_so ?_
        refine rf_ck (ox_43 R) ?_
        refine rf_bx0 (ym_Te_size R ⟨_, h_j51.1, rfl, rfl⟩) (fun u53' u53 r53 R_u53 => ?_)
        exact (yb_Wl_post_41 R_u53 h_v1 (PV_j h_j51))
    · exact (yb_Wl_post_17 R)
theorem ym_Wl_post {N : Nat} {o : Option Nat} {c : Nat → Nat} {m : MS} {u : CS} (R : RP o c m u) {v1 : Nat} {v1' : Nat} {v2 : Int32} {v3 : Int32} {v4 : Int32} {v5 : Int64} {v7 : Option Nat} {v7' : Option Nat} (h_v1 : PVn c v1 v1') (h_v7 : PVo c v7 v7') : RF 3 o VE c u (fm_Wl_post N u 47 (some v1) v2 v3 v4 v5 v7) (hm_Wl_post N m v1' v2 v3 v4 v5 v7') := yb_Wl_post_0 (N := N) R h_v1 h_v7
theorem yb_Wl_signal_121 {N : Nat} {o : Option Nat} {c : Nat → Nat} {m : MS} {u : CS} (R : RP o c m u) : RF 3 o VE c u (fb_Wl_signal_121 N () u) (hb_Wl_signal_121 N () m) := by
  unfold fb_Wl_signal_121 hb_Wl_signal_121
  exact rf_ret R rfl
theorem yb_Wl_signal_70 {N : Nat} {o : Option Nat} {c : Nat → Nat} {m : MS} {u : CS} (R : RP o c m u) {v2 : Nat} {v2' : Nat} {v3 : Int64} (h_v2 : PVn c v2 v2') : RF 3 o VE c u (fb_Wl_signal_70 N () u 47 (some v2) v3) (hb_Wl_signal_70 N () m v2' v3) := by
  unfold fb_Wl_signal_70 hb_Wl_signal_70
  refine rf_ck (ox_47 R) ?_
  refine rf_bx0 (ym_Wl_endsWith R h_v2 h_v2) (fun u1' u1 r1 R_u1 => ?_)
  exact (yb_Wl_signal_121 R_u1)
theorem yb_Wl_signal_59 {N : Nat} {o : Option Nat} {c : Nat → Nat} {m : MS} {u : CS} (R : RP o c m u) {v2 : Nat} {v2' : Nat} {v3 : Int64} {v5 : Option Nat} {v5' : Option Nat} (h_v2 : PVn c v2 v2') (h_v5 : PVo c v5 v5') : RF 3 o VE c u (fb_Wl_signal_59 N () u 47 (some v2) v3 v5) (hb_Wl_signal_59 N () m v2' v3 v5') := by
  unfold fb_Wl_signal_59 hb_Wl_signal_59
  refine rf_br2 (PV_n h_v5) ?_ ?_
  · exact (yb_Wl_signal_70 R h_v2)
  · refine rf_ck (okR_Po R h_v5) ?_
    refine rf_ck (okR_P R h_v2) ?_
    refine rf_br2 (PV_e R h_v5 (PV_j h_v2)) ?_ ?_
    · exact (yb_Wl_signal_70 R h_v2)
    · refine rf_boQ h_v5 (fun j2 j2' e1_j2 e2_j2 h_j2 => ?_)
      subst e1_j2
      refine rf_so ?_
      refine rf_bo (gq_9 R h_j2) ?_
      refine rf_br ?_ ?_
      · refine rf_ck (ox_47 R) ?_
        refine rf_bx0 (ym_Wl_endsWith R h_v2 h_j2) (fun u11' u11 r11 R_u11 => ?_)
        exact (yb_Wl_signal_121 R_u11)
      · refine rf_so ?_
        refine rf_w (wq_4 R h_v2) (fun w5' w5 R_w5 => ?_)
        refine rf_so ?_
        refine rf_bo (gR_P2 R_w5 h_j2) ?_
        refine rf_so ?_
        refine rf_ck (io_P R_w5 h_v2) ?_
        refine rf_bx0 (ym_Pr_copyIn R_w5 h_v2 ⟨_, h_j2.1, rfl, rfl⟩) (fun u8' u8 r8 R_u8 => ?_)
        refine rf_ck (ox_47 R_u8) ?_
        refine rf_bx0 (ym_Wl_endsWith R_u8 h_v2 h_v2) (fun u10' u10 r10 R_u10 => ?_)
        exact (yb_Wl_signal_121 R_u10)
theorem yb_Wl_signal_43 {N : Nat} {o : Option Nat} {c : Nat → Nat} {m : MS} {u : CS} (R : RP o c m u) {v1 : Int32} {v2 : Nat} {v2' : Nat} {v3 : Int64} {v5 : Option Nat} {v5' : Option Nat} {t0 : Int32} (h_v2 : PVn c v2 v2') (h_v5 : PVo c v5 v5') : RF 3 o VE c u (fb_Wl_signal_43 N () u 47 v1 (some v2) v3 v5 t0) (hb_Wl_signal_43 N () m v1 v2' v3 v5' t0) := by
  unfold fb_Wl_signal_43 hb_Wl_signal_43
  refine rf_br ?_ ?_
  · exact (yb_Wl_signal_59 R h_v2 h_v5)
  · refine rf_so ?_
    refine rf_bo (gI_P0 R h_v2) ?_
    refine rf_br ?_ ?_
    · exact (yb_Wl_signal_59 R h_v2 h_v5)
    · exact rf_ret R rfl
theorem yb_Wl_signal_0 {N : Nat} {o : Option Nat} {c : Nat → Nat} {m : MS} {u : CS} (R : RP o c m u) {v1 : Int32} {v2 : Nat} {v2' : Nat} {v3 : Int64} {v5 : Option Nat} {v5' : Option Nat} (h_v2 : PVn c v2 v2') (h_v5 : PVo c v5 v5') : RF 3 o VE c u (fb_Wl_signal_0 N () u 47 v1 (some v2) v3 v5) (hb_Wl_signal_0 N () m v1 v2' v3 v5') := by
  unfold fb_Wl_signal_0 hb_Wl_signal_0
  refine rf_so ?_
  refine rf_bo (gq_9 R h_v2) ?_
  refine rf_br ?_ ?_
  · exact rf_ret R rfl
  · refine rf_so ?_
    refine rf_bo (gq_11 R h_v2) ?_
    refine rf_br ?_ ?_
    · refine rf_bx0 (ym_Te_make R) (fun u18' u18 r18 R_u18 => ?_)
      refine rf_br ?_ ?_
      · exact (yb_Wl_signal_43 R_u18 h_v2 h_v5)
      · exact (yb_Wl_signal_43 R_u18 h_v2 h_v5)
    · refine rf_ck (ox_47 R) ?_
      refine rf_bx (ym_Wl_post R h_v2 h_v5) (by unfold zle; omega) (fun c_u19 u19' u19 r19 r19' R_u19 E_u19 v_u19 => ?_)
      cases v_u19
      exact rf_ret R_u19 rfl
theorem ym_Wl_signal {N : Nat} {o : Option Nat} {c : Nat → Nat} {m : MS} {u : CS} (R : RP o c m u) {v1 : Int32} {v2 : Nat} {v2' : Nat} {v3 : Int64} {v5 : Option Nat} {v5' : Option Nat} (h_v2 : PVn c v2 v2') (h_v5 : PVo c v5 v5') : RF 3 o VE c u (fm_Wl_signal N u 47 v1 (some v2) v3 v5) (hm_Wl_signal N m v1 v2' v3 v5') := yb_Wl_signal_0 (N := N) R h_v2 h_v5
theorem yb_Pr_removeLink_44 {N : Nat} {o : Option Nat} {c : Nat → Nat} {m : MS} {u : CS} (R : RP o c m u) : RF 0 o VE c u (fb_Pr_removeLink_44 N () u) (hb_Pr_removeLink_44 N () m) := by
  unfold fb_Pr_removeLink_44 hb_Pr_removeLink_44
  exact rf_ret R rfl
theorem yb_Pr_removeLink_0 {N : Nat} {o : Option Nat} {c : Nat → Nat} {m : MS} {u : CS} (R : RP o c m u) {v0 : Nat} {v0' : Nat} {v1 : Int32} (h_v0 : PVn c v0 v0') : RF 0 o VE c u (fb_Pr_removeLink_0 N () u v0 v1) (hb_Pr_removeLink_0 N () m v0' v1) := by
  unfold fb_Pr_removeLink_0 hb_Pr_removeLink_0
  refine rf_ck (io_P R h_v0) ?_
  refine rf_bx0 (ym_Pr_seekLink R h_v0) (fun u1' u1 r1 R_u1 => ?_)
  refine rf_br ?_ ?_
  · exact (yb_Pr_removeLink_44 R_u1)
  · refine rf_bo (gR_P14 R_u1 h_v0) ?_
    refine rf_bo (gR_P14 R_u1 h_v0) ?_
    refine rf_bo (gq_15 R_u1 h_v0) ?_
    refine rf_so ?_
    refine rf_so ?_
    refine rf_wk (cq_14 R_u1 h_v0.1) (fun w7' w7 R_w7 => ?_)
    refine rf_bo (gq_15 R_w7 h_v0) ?_
    refine rf_w (wq_15 R_w7 h_v0) (fun w9' w9 R_w9 => ?_)
    exact (yb_Pr_removeLink_44 R_w9)
theorem ym_Pr_removeLink {N : Nat} {o : Option Nat} {c : Nat → Nat} {m : MS} {u : CS} (R : RP o c m u) {v0 : Nat} {v0' : Nat} {v1 : Int32} (h_v0 : PVn c v0 v0') : RF 0 o VE c u (fm_Pr_removeLink N u v0 v1) (hm_Pr_removeLink N m v0' v1) := yb_Pr_removeLink_0 (N := N) R h_v0
theorem yb_Ma_watch_81 {N : Nat} {p : Nat} {c : Nat → Nat} {m : MS} {u : CS} (R : RP (some p) c m u) {v2 : Int32} : RF 3 (some p) VE c u (fb_Ma_watch_81 N () u v2) (hb_Ma_watch_81 N () m p v2) := by
  unfold fb_Ma_watch_81 hb_Ma_watch_81
  refine rf_bx0 (ym_Te_make R) (fun u1' u1 r1 R_u1 => ?_)
  exact rf_ret R_u1 rfl
theorem yb_Ma_watch_0 {N : Nat} {p : Nat} {c : Nat → Nat} {m : MS} {u : CS} (R : RP (some p) c m u) {v1 : Nat} {v1' : Nat} (h_v1 : PVn c v1 v1') : RF 3 (some p) VE c u (fb_Ma_watch_0 N () u 55 (some v1)) (hb_Ma_watch_0 N () m p v1') := by
  unfold fb_Ma_watch_0 hb_Ma_watch_0
  refine rf_bo (rx_55_1 R) ?_
  refine rf_so ?_
  refine rf_bo (gx_47_5 R) ?_
  refine rf_bo (rx_55_1 R) ?_
  refine rf_so ?_
  refine rf_bo (gx_47_5 R) ?_
  refine rf_w (px_47_5 R) (fun w8' w8 R_w8 => ?_)
  refine rf_so ?_
  refine rf_bo (gq_9 R_w8 h_v1) ?_
  refine rf_br ?_ ?_
  · refine rf_bo (rx_55_1 R_w8) ?_
    refine rf_bo (gR_M3 R_w8) ?_
    refine rf_so ?_
    refine rf_bo (gI_P0 R_w8 h_v1) ?_
    refine rf_bx0 (ym_Ma_atom R_w8) (fun u24' u24 r24 R_u24 => ?_)
    refine rf_so ?_
    refine rf_ck (ox_47 R_u24) ?_
    refine rf_bx (ym_Wl_post R_u24 ⟨R_u24.md, rfl⟩ PV_0) (by unfold zle; omega) (fun c_u25 u25' u25 r25 r25' R_u25 E_u25 v_u25 => ?_)
    cases v_u25
    exact (yb_Ma_watch_81 R_u25)
  · refine rf_bo (gR_M3 R_w8) ?_
    refine rf_ck (okR_P R_w8 h_v1) ?_
    refine rf_ck (okR_r R_w8 R_w8.md isR0) ?_
    refine rf_br2 (PV_e R_w8 (PV_j h_v1) (PV_s R_w8.md)) ?_ ?_
    · exact (yb_Ma_watch_81 R_w8)
    · refine rf_bo (rx_55_1 R_w8) ?_
      refine rf_bo (gR_M3 R_w8) ?_
      refine rf_soP R_w8.md (fun j14 h_j14 => ?_)
      refine rf_bo (gI_P0 R_w8 h_j14) ?_
      refine rf_so ?_
      refine rf_bo (gI_P0 R_w8 h_v1) ?_
      refine rf_so ?_
      refine rf_ck (ox_47 R_w8) ?_
      refine rf_bx0 (ym_Wl_addWatch R_w8) (fun u18' u18 r18 R_u18 => ?_)
      exact (yb_Ma_watch_81 R_u18)
theorem ym_Ma_watch {N : Nat} {p : Nat} {c : Nat → Nat} {m : MS} {u : CS} (R : RP (some p) c m u) {v1 : Nat} {v1' : Nat} (h_v1 : PVn c v1 v1') : RF 3 (some p) VE c u (fm_Ma_watch N u 55 (some v1)) (hm_Ma_watch N m p v1') := yb_Ma_watch_0 (N := N) R h_v1
theorem yb_Ma_toward_335 {N : Nat} {p : Nat} {c : Nat → Nat} {m : MS} {u : CS} (R : RP (some p) c m u) {v2 : Int32} {v5 : Int64} : RF 2 (some p) VE c u (fb_Ma_toward_335 N () u 55 v2 v5) (hb_Ma_toward_335 N () m p v2 v5) := by
  unfold fb_Ma_toward_335 hb_Ma_toward_335
  refine rf_ck (ox_55 R) ?_
  refine rf_ck (all1 (okR_s R (by decide))) ?_
  refine rf_bx (rf_gw (ym_Ma_answer R)) (by unfold zle; omega) (fun c_u1 u1' u1 r1 r1' R_u1 E_u1 v_u1 => ?_)
  cases v_u1
  refine rf_gw ?_
  refine rf_bo (gx_55_5 R_u1) ?_
  refine rf_w (px_55_5 R_u1) (fun w3' w3 R_w3 => ?_)
  exact rf_ret R_w3 rfl
theorem yb_Ma_toward_330 {N : Nat} {p : Nat} {c : Nat → Nat} {m : MS} {u : CS} (R : RP (some p) c m u) {v2 : Int32} {t0 : Int32} : RF 2 (some p) VE c u (fb_Ma_toward_330 N () u 55 v2 t0) (hb_Ma_toward_330 N () m p v2 t0) := by
  unfold fb_Ma_toward_330 hb_Ma_toward_330
  refine rf_bx0 (rf_gz (ym_Ma_truth R) (by omega)) (fun u4' u4 r4 R_u4 => ?_)
  refine rf_gw ?_
  exact (yb_Ma_toward_335 R_u4)
theorem yb_Ma_toward_95 {N : Nat} {p : Nat} {c : Nat → Nat} {m : MS} {u : CS} (R : RP (some p) c m u) {v1 : Int32} {v2 : Int32} {v3 : Option Nat} {v3' : Option Nat} (h_v3 : PVo c v3 v3') : RF 2 (some p) VE c u (fb_Ma_toward_95 N () u 55 v1 v2 v3) (hb_Ma_toward_95 N () m p v1 v2 v3') := by
  unfold fb_Ma_toward_95 hb_Ma_toward_95
  refine rf_bx0 (rf_gz (ym_Ma_atom R) (by omega)) (fun u5' u5 r5 R_u5 => ?_)
  refine rf_gw ?_
  refine rf_br ?_ ?_
  · refine rf_boQ h_v3 (fun j6 j6' e1_j6 e2_j6 h_j6 => ?_)
    subst e1_j6
    refine rf_so ?_
    refine rf_bo (gq_9 R_u5 h_j6) ?_
    refine rf_br ?_ ?_
    · refine rf_bo (rx_55_1 R_u5) ?_
      refine rf_so ?_
      refine rf_bo (gI_P0 R_u5 h_j6) ?_
      refine rf_bo (gR_M3 R_u5) ?_
      refine rf_bx0 (rf_gz (ym_Ma_atom R_u5) (by omega)) (fun u28' u28 r28 R_u28 => ?_)
      refine rf_gw ?_
      refine rf_so ?_
      refine rf_ck (ox_47 R_u28) ?_
      refine rf_bx (rf_gz (ym_Wl_signal R_u28 ⟨R_u28.md, rfl⟩ PV_0) (by omega)) (by unfold zle; omega) (fun c_u29 u29' u29 r29 r29' R_u29 E_u29 v_u29 => ?_)
      cases v_u29
      refine rf_gw ?_
      exact (yb_Ma_toward_335 R_u29)
    · refine rf_bo (gR_M3 R_u5) ?_
      refine rf_ck (okR_P R_u5 h_j6) ?_
      refine rf_ck (okR_r R_u5 R_u5.md isR0) ?_
      refine rf_br2 (PV_e R_u5 (PV_j h_j6) (PV_s R_u5.md)) ?_ ?_
      · exact (yb_Ma_toward_335 R_u5)
      · refine rf_bo (gR_M3 R_u5) ?_
        refine rf_so ?_
        refine rf_bo (gI_P0 R_u5 h_j6) ?_
        refine rf_soP R_u5.md (fun j13 h_j13 => ?_)
        refine rf_ck (io_P R_u5 h_j13) ?_
        refine rf_bx0 (rf_gz (ym_Pr_seekLink R_u5 h_j13) (by omega)) (fun u12' u12 r12 R_u12 => ?_)
        refine rf_gw ?_
        refine rf_br ?_ ?_
        · refine rf_bo (gR_M3 R_u12) ?_
          refine rf_so ?_
          refine rf_bo (gI_P0 R_u12 h_j6) ?_
          refine rf_soP R_u12.md (fun j18 h_j18 => ?_)
          refine rf_ck (io_P R_u12 h_j18) ?_
          refine rf_bx0 (rf_gz (ym_Pr_addLink R_u12 h_j18) (by omega)) (fun u17' u17 r17 R_u17 => ?_)
          refine rf_gw ?_
          refine rf_bo (gR_M3 R_u17) ?_
          refine rf_soP R_u17.md (fun j20 h_j20 => ?_)
          refine rf_bo (gI_P0 R_u17 h_j20) ?_
          refine rf_so ?_
          refine rf_ck (io_P R_u17 h_j6) ?_
          refine rf_bx0 (rf_gz (ym_Pr_addLink R_u17 h_j6) (by omega)) (fun u22' u22 r22 R_u22 => ?_)
          refine rf_gw ?_
          exact (yb_Ma_toward_335 R_u22)
        · exact (yb_Ma_toward_335 R_u12)
  · refine rf_br ?_ ?_
    · refine rf_bo (gR_M3 R_u5) ?_
      refine rf_boQ h_v3 (fun j32 j32' e1_j32 e2_j32 h_j32 => ?_)
      subst e1_j32
      refine rf_so ?_
      refine rf_bo (gI_P0 R_u5 h_j32) ?_
      refine rf_soP R_u5.md (fun j35 h_j35 => ?_)
      refine rf_ck (io_P R_u5 h_j35) ?_
      refine rf_bx0 (rf_gz (ym_Pr_removeLink R_u5 h_j35) (by omega)) (fun u34' u34 r34 R_u34 => ?_)
      refine rf_gw ?_
      refine rf_bo (gR_M3 R_u34) ?_
      refine rf_soP R_u34.md (fun j37 h_j37 => ?_)
      refine rf_bo (gI_P0 R_u34 h_j37) ?_
      refine rf_so ?_
      refine rf_ck (io_P R_u34 h_j32) ?_
      refine rf_bx0 (rf_gz (ym_Pr_removeLink R_u34 h_j32) (by omega)) (fun u39' u39 r39 R_u39 => ?_)
      refine rf_gw ?_
      exact (yb_Ma_toward_335 R_u39)
    · refine rf_br ?_ ?_
      · refine rf_ck (ox_55 R_u5) ?_
        refine rf_opt h_v3 (fun v3_j v3_q e1_v3 e2_v3 h_v3j => ?_)
        subst e1_v3
        refine rf_bx (rf_gz (ym_Ma_watch R_u5 h_v3j) (by omega)) (by unfold zle; omega) (fun c_u41 u41' u41 r41 r41' R_u41 E_u41 v_u41 => ?_)
        cases v_u41
        refine rf_gw ?_
        exact (yb_Ma_toward_335 R_u41)
      · refine rf_br ?_ ?_
        · refine rf_bo (gR_M4 R_u5) ?_
          refine rf_soF R_u5.md (fun j44 h_j44 => ?_)
          refine rf_ck (io_F R_u5 h_j44) ?_
          refine rf_bx0 (rf_gz (ym_Fr_below R_u5 h_j44) (by omega)) (fun u43' u43 r43 R_u43 => ?_)
          refine rf_gw ?_
          refine rf_bx0 (rf_gz (ym_Ma_atom R_u43) (by omega)) (fun u45' u45 r45 R_u45 => ?_)
          refine rf_gw ?_
          refine rf_br ?_ ?_
          · refine rf_bo (rx_55_1 R_u45) ?_
            refine rf_so ?_
            refine rf_ck (ox_47 R_u45) ?_
            refine rf_opt h_v3 (fun v3_j v3_q e1_v3 e2_v3 h_v3j => ?_)
            subst e1_v3
            refine rf_bx0 (rf_gz (ym_Wl_endsBy R_u45 h_v3j) (by omega)) (fun u57' u57 r57 R_u57 => ?_)
            refine rf_gw ?_
            exact (yb_Ma_toward_335 R_u57)
          · refine rf_bo (rx_55_1 R_u45) ?_
            refine rf_bo (gR_M3 R_u45) ?_
            refine rf_soP R_u45.md (fun j48 h_j48 => ?_)
            refine rf_bo (gI_P0 R_u45 h_j48) ?_
            refine rf_bo (gR_M4 R_u45) ?_
            refine rf_soF R_u45.md (fun j52 h_j52 => ?_)
            refine rf_ck (io_F R_u45 h_j52) ?_
            refine rf_bx0 (rf_gz (ym_Fr_below R_u45 h_j52) (by omega)) (fun u51' u51 r51 R_u51 => ?_)
            refine rf_gw ?_
            refine rf_bo (gR_M3 R_u51) ?_
            refine rf_so ?_
            refine rf_ck (ox_47 R_u51) ?_
            refine rf_opt h_v3 (fun v3_j v3_q e1_v3 e2_v3 h_v3j => ?_)
            subst e1_v3
            refine rf_bx (rf_gz (ym_Wl_signal R_u51 h_v3j (PV_s R_u51.md)) (by omega)) (by unfold zle; omega) (fun c_u54 u54' u54 r54 r54' R_u54 E_u54 v_u54 => ?_)
            cases v_u54
            refine rf_gw ?_
            exact (yb_Ma_toward_335 R_u54)
        · refine rf_boQ h_v3 (fun j59 j59' e1_j59 e2_j59 h_j59 => ?_)
          subst e1_j59
          refine rf_so ?_
          refine rf_bo (gq_9 R_u5 h_j59) ?_
          refine rf_br ?_ ?_
          · exact (yb_Ma_toward_330 R_u5)
          · exact (yb_Ma_toward_330 R_u5)
theorem yb_Ma_toward_88 {N : Nat} {p : Nat} {c : Nat → Nat} {m : MS} {u : CS} (R : RP (some p) c m u) : RF 2 (some p) VE c u (fb_Ma_toward_88 N () u 55) (hb_Ma_toward_88 N () m p) := by
  unfold fb_Ma_toward_88 hb_Ma_toward_88
  refine rf_ck (ox_55 R) ?_
  refine rf_bx0 (rf_gz (ym_Ma_wrong R) (by omega)) (fun u61' u61 r61 R_u61 => ?_)
  refine rf_gw ?_
  exact rf_ret R_u61 rfl
theorem yb_Ma_toward_59 {N : Nat} {p : Nat} {c : Nat → Nat} {m : MS} {u : CS} (R : RP (some p) c m u) {v1 : Int32} {v2 : Int32} {v3 : Option Nat} {v3' : Option Nat} {t0 : Int32} (h_v3 : PVo c v3 v3') : RF 2 (some p) VE c u (fb_Ma_toward_59 N () u 55 v1 v2 v3 t0) (hb_Ma_toward_59 N () m p v1 v2 v3' t0) := by
  unfold fb_Ma_toward_59 hb_Ma_toward_59
  refine rf_br2 (PV_n h_v3) ?_ ?_
  · exact (yb_Ma_toward_88 R)
  · refine rf_br ?_ ?_
    · refine rf_br ?_ ?_
      · refine rf_bo (rx_55_1 R) ?_
        refine rf_so ?_
        refine rf_bo (gx_47_10 R) ?_
        refine rf_br ?_ ?_
        · exact (yb_Ma_toward_95 R h_v3)
        · exact (yb_Ma_toward_88 R)
      · exact (yb_Ma_toward_95 R h_v3)
    · exact (yb_Ma_toward_88 R)
theorem yb_Ma_toward_58 {N : Nat} {p : Nat} {c : Nat → Nat} {m : MS} {u : CS} (R : RP (some p) c m u) {v1 : Int32} {v2 : Int32} {v3 : Option Nat} {v3' : Option Nat} (h_v3 : PVo c v3 v3') : RF 2 (some p) VE c u (fb_Ma_toward_58 N () u 55 v1 v2 v3) (hb_Ma_toward_58 N () m p v1 v2 v3') := by
  unfold fb_Ma_toward_58 hb_Ma_toward_58
  exact (yb_Ma_toward_59 R h_v3)
theorem yb_Ma_toward_11 {N : Nat} {p : Nat} {c : Nat → Nat} {m : MS} {u : CS} (R : RP (some p) c m u) {v1 : Int32} {t0 : Int32} : RF 2 (some p) VE c u (fb_Ma_toward_11 N () u 55 v1 t0) (hb_Ma_toward_11 N () m p v1 t0) := by
  unfold fb_Ma_toward_11 hb_Ma_toward_11
  refine rf_ck (ox_55 R) ?_
  refine rf_bxP (rf_gz (ym_Ma_processAt R) (by omega)) (fun u65' u65 r65 r65' R_u65 h_r65 => ?_)
  refine rf_gw ?_
  refine rf_br ?_ ?_
  · refine rf_bo (rx_55_2 R_u65) ?_
    refine rf_bo (gR_M3 R_u65) ?_
    refine rf_soP R_u65.md (fun j68 h_j68 => ?_)
    refine rf_bo (gR_P2 R_u65 h_j68) ?_
    refine rf_bo (gR_M4 R_u65) ?_
    refine rf_soF R_u65.md (fun j72 h_j72 => ?_)
    refine rf_ck (io_F R_u65 h_j72) ?_
    refine rf_bx0 (rf_gz (ym_Fr_below R_u65 h_j72) (by omega)) (fun u71' u71 r71 R_u71 => ?_)
    refine rf_gw ?_
    refine rf_so ?_
    refine rf_ck (ox_43 R_u71) ?_
    refine rf_bx0 (rf_gz (ym_Te_size R_u71 ⟨_, h_j68.1, rfl, rfl⟩) (by omega)) (fun u73' u73 r73 R_u73 => ?_)
    refine rf_gw ?_
    refine rf_br ?_ ?_
    · exact (yb_Ma_toward_58 R_u73 h_r65)
    · exact (yb_Ma_toward_59 R_u73 h_r65)
  · exact (yb_Ma_toward_58 R_u65 h_r65)
theorem yb_Ma_toward_0 {N : Nat} {p : Nat} {c : Nat → Nat} {m : MS} {u : CS} (R : RP (some p) c m u) {v1 : Int32} : RF 2 (some p) VE c u (fb_Ma_toward_0 N () u 55 v1) (hb_Ma_toward_0 N () m p v1) := by
  unfold fb_Ma_toward_0 hb_Ma_toward_0
  refine rf_br ?_ ?_
  · exact (yb_Ma_toward_11 R)
  · exact (yb_Ma_toward_11 R)
theorem ym_Ma_toward {N : Nat} {p : Nat} {c : Nat → Nat} {m : MS} {u : CS} (R : RP (some p) c m u) {v1 : Int32} : RF 2 (some p) VE c u (fm_Ma_toward N u 55 v1) (hm_Ma_toward N m p v1) := yb_Ma_toward_0 (N := N) R
theorem yb_Ma_room_0 {N : Nat} {p : Nat} {c : Nat → Nat} {m : MS} {u : CS} (R : RP (some p) c m u) {v1 : Int32} : RF 3 (some p) VE c u (fb_Ma_room_0 N () u 55 v1) (hb_Ma_room_0 N () m p v1) := by
  unfold fb_Ma_room_0 hb_Ma_room_0
  refine rf_bo (gR_M3 R) ?_
  refine rf_soP R.md (fun j3 h_j3 => ?_)
  refine rf_ck (io_P R h_j3) ?_
  refine rf_bx (ym_Pr_want R h_j3) (by unfold zle; omega) (fun c_u2 u2' u2 r2 r2' R_u2 E_u2 v_u2 => ?_)
  cases v_u2
  refine rf_br ?_ ?_
  · refine rf_bo (rx_55_1 R_u2) ?_
    refine rf_bo (gR_M3 R_u2) ?_
    refine rf_so ?_
    refine rf_ck (ox_47 R_u2) ?_
    refine rf_bx0 (ym_Wl_endsBy R_u2 ⟨R_u2.md, rfl⟩) (fun u6' u6 r6 R_u6 => ?_)
    refine rf_ckk ?_
    exact rf_ret R_u6 rfl
  · refine rf_ckk ?_
    exact rf_ret R_u2 rfl
theorem ym_Ma_room {N : Nat} {p : Nat} {c : Nat → Nat} {m : MS} {u : CS} (R : RP (some p) c m u) {v1 : Int32} : RF 3 (some p) VE c u (fm_Ma_room N u 55 v1) (hm_Ma_room N m p v1) := yb_Ma_room_0 (N := N) R
theorem yb_Ma_string_126 {N : Nat} {p : Nat} {c : Nat → Nat} {m : MS} {u : CS} {G : (CS → Nat → Int32 → Int32 → Int32 → Option (CS × Unit))} {G' : (MS → Nat → Int32 → Int32 → Int32 → Option (MS × Unit))} (hG : ∀ (c : Nat → Nat) (m : MS) (u : CS) (v1 : Int32) (v2 : Int32) (v3 : Int32), RP (some p) c m u → RF 2 (some p) VE c u (G u 55 v1 v2 v3) (G' m p v1 v2 v3)) (R : RP (some p) c m u) {v1 : Int32} {t0 : Nat} {t0' : Nat} {t1 : Int64} (h_t0 : FVn c t0 t0') : RF 2 (some p) VE c u (fb_Ma_string_126 N G u 55 v1 (some t0) t1) (hb_Ma_string_126 N G' m p v1 t0' t1) := by
  unfold fb_Ma_string_126 hb_Ma_string_126
  refine rf_so ?_
  refine rf_ck (io_F R h_t0) ?_
  refine rf_ck (all1 (okR_s R (by decide))) ?_
  refine rf_bx (rf_gw (ym_Fr_push R h_t0)) (by unfold zle; omega) (fun c_u1 u1' u1 r1 r1' R_u1 E_u1 v_u1 => ?_)
  cases v_u1
  refine rf_gw ?_
  refine rf_bo (gx_55_5 R_u1) ?_
  refine rf_w (px_55_5 R_u1) (fun w4' w4 R_w4 => ?_)
  exact rf_ret R_w4 rfl
theorem yb_Ma_string_21 {N : Nat} {p : Nat} {c : Nat → Nat} {m : MS} {u : CS} {G : (CS → Nat → Int32 → Int32 → Int32 → Option (CS × Unit))} {G' : (MS → Nat → Int32 → Int32 → Int32 → Option (MS × Unit))} (hG : ∀ (c : Nat → Nat) (m : MS) (u : CS) (v1 : Int32) (v2 : Int32) (v3 : Int32), RP (some p) c m u → RF 2 (some p) VE c u (G u 55 v1 v2 v3) (G' m p v1 v2 v3)) (R : RP (some p) c m u) {v1 : Int32} {v2 : Int32} {v3 : Int32} : RF 2 (some p) VE c u (fb_Ma_string_21 N G u 55 v1 v2 v3) (hb_Ma_string_21 N G' m p v1 v2 v3) := by
  unfold fb_Ma_string_21 hb_Ma_string_21
  refine rf_br ?_ ?_
  · refine rf_bx0 (rf_gz (ym_Te_make R) (by omega)) (fun u5' u5 r5 R_u5 => ?_)
    refine rf_gw ?_
    refine rf_ck (ox_55 R_u5) ?_
    refine rf_bx0 (rf_gz (ym_Ma_endList R_u5) (by omega)) (fun u6' u6 r6 R_u6 => ?_)
    refine rf_gw ?_
    refine rf_bo (gR_M4 R_u6) ?_
    refine rf_br ?_ ?_
    · refine rf_bx0 (rf_gz (ym_Te_make R_u6) (by omega)) (fun u9' u9 r9 R_u9 => ?_)
      refine rf_gw ?_
      exact (yb_Ma_string_126 hG R_u9 ⟨R_u9.md, rfl⟩)
    · refine rf_bx0 (rf_gz (ym_Te_make R_u6) (by omega)) (fun u8' u8 r8 R_u8 => ?_)
      refine rf_gw ?_
      exact (yb_Ma_string_126 hG R_u8 ⟨R_u8.md, rfl⟩)
  · refine rf_bo (gR_M3 R) ?_
    refine rf_soP R.md (fun j11 h_j11 => ?_)
    refine rf_bo (gR_P2 R h_j11) ?_
    refine rf_bo (rx_55_0 R) ?_
    refine rf_bo (gx_55_5 R) ?_
    refine rf_so ?_
    refine rf_ck (ox_22 R) ?_
    refine rf_bx0 (rf_gz (ym_Co_at R) (by omega)) (fun u15' u15 r15 R_u15 => ?_)
    refine rf_gw ?_
    refine rf_bx0 (rf_gz (ym_Te_make R_u15) (by omega)) (fun u17' u17 r17 R_u17 => ?_)
    refine rf_gw ?_
    refine rf_so ?_
    refine rf_wk (sq_2 R_u17 h_j11.1) (fun w19' w19 R_w19 => ?_)
    refine rf_bo (gR_M3 R_w19) ?_
    refine rf_soP R_w19.md (fun j21 h_j21 => ?_)
    refine rf_bo (gR_P2 R_w19 h_j21) ?_
    refine rf_bx0 (rf_gz (ym_Te_make R_w19) (by omega)) (fun u23' u23 r23 R_u23 => ?_)
    refine rf_gw ?_
    refine rf_so ?_
    refine rf_wk (sq_2 R_u23 h_j21.1) (fun w25' w25 R_w25 => ?_)
    exact (hG _ _ _ _ _ _ R_w25)
theorem yb_Ma_string_0 {N : Nat} {p : Nat} {c : Nat → Nat} {m : MS} {u : CS} {G : (CS → Nat → Int32 → Int32 → Int32 → Option (CS × Unit))} {G' : (MS → Nat → Int32 → Int32 → Int32 → Option (MS × Unit))} (hG : ∀ (c : Nat → Nat) (m : MS) (u : CS) (v1 : Int32) (v2 : Int32) (v3 : Int32), RP (some p) c m u → RF 2 (some p) VE c u (G u 55 v1 v2 v3) (G' m p v1 v2 v3)) (R : RP (some p) c m u) {v1 : Int32} : RF 2 (some p) VE c u (fb_Ma_string_0 N G u 55 v1) (hb_Ma_string_0 N G' m p v1) := by
  unfold fb_Ma_string_0 hb_Ma_string_0
  refine rf_ck (ox_55 R) ?_
  refine rf_bx (rf_gz (ym_Ma_room R) (by omega)) (by unfold zle; omega) (fun c_u26 u26' u26 r26 r26' R_u26 E_u26 v_u26 => ?_)
  cases v_u26
  refine rf_gw ?_
  refine rf_br ?_ ?_
  · exact rf_ret R_u26 rfl
  · refine rf_bo (gR_M3 R_u26) ?_
    refine rf_soP R_u26.md (fun j28 h_j28 => ?_)
    refine rf_bo (gq_4 R_u26 h_j28) ?_
    exact (hG _ _ _ _ _ _ R_u26)
theorem yg_Ma_string {N : Nat} {p : Nat} : ∀ n, (∀ (c : Nat → Nat) (m : MS) (u : CS) (v1 : Int32) (v2 : Int32) (v3 : Int32), RP (some p) c m u → RF 2 (some p) VE c u ((gg_Ma_string N n) u 55 v1 v2 v3) ((hg_Ma_string N n) m p v1 v2 v3)) := by
  intro n
  induction n with
  | zero => exact fun c m u v1 v2 v3 R => rf_none
  | succ n ih => exact fun c m u v1 v2 v3 R => yb_Ma_string_21 (N := N) ih R
theorem ym_Ma_string {N : Nat} {p : Nat} {c : Nat → Nat} {m : MS} {u : CS} (R : RP (some p) c m u) {v1 : Int32} : RF 2 (some p) VE c u (fm_Ma_string N u 55 v1) (hm_Ma_string N m p v1) := yb_Ma_string_0 (N := N) (yg_Ma_string (N := N) N) R
theorem yb_Ma_tuple_57 {N : Nat} {p : Nat} {c : Nat → Nat} {m : MS} {u : CS} {G : (CS → Nat → Int32 → Int32 → Int32 → Option (CS × Unit))} {G' : (MS → Nat → Int32 → Int32 → Int32 → Option (MS × Unit))} (hG : ∀ (c : Nat → Nat) (m : MS) (u : CS) (v1 : Int32) (v2 : Int32) (v3 : Int32), RP (some p) c m u → RF 2 (some p) VE c u (G u 55 v1 v2 v3) (G' m p v1 v2 v3)) (R : RP (some p) c m u) {v1 : Int32} {v2 : Int32} {v3 : Int32} : RF 2 (some p) VE c u (fb_Ma_tuple_57 N G u 55 v1 v2 v3) (hb_Ma_tuple_57 N G' m p v1 v2 v3) := by
  unfold fb_Ma_tuple_57 hb_Ma_tuple_57
  refine rf_br ?_ ?_
  · refine rf_bo (gR_M3 R) ?_
    refine rf_soP R.md (fun j2 h_j2 => ?_)
    refine rf_bo (gq_4 R h_j2) ?_
    refine rf_w (wq_4 R h_j2) (fun w4' w4 R_w4 => ?_)
    refine rf_bx0 (rf_gz (ym_Te_make R_w4) (by omega)) (fun u5' u5 r5 R_u5 => ?_)
    refine rf_gw ?_
    refine rf_ck (ox_55 R_u5) ?_
    refine rf_ck (all1 (okR_s R_u5 (by decide))) ?_
    refine rf_bx (rf_gw (ym_Ma_answer R_u5)) (by unfold zle; omega) (fun c_u6 u6' u6 r6 r6' R_u6 E_u6 v_u6 => ?_)
    cases v_u6
    refine rf_gw ?_
    refine rf_bo (gx_55_5 R_u6) ?_
    refine rf_w (px_55_5 R_u6) (fun w8' w8 R_w8 => ?_)
    exact rf_ret R_w8 rfl
  · refine rf_bo (gR_M3 R) ?_
    refine rf_soP R.md (fun j10 h_j10 => ?_)
    refine rf_bo (gR_P2 R h_j10) ?_
    refine rf_bo (gR_M4 R) ?_
    refine rf_soF R.md (fun j14 h_j14 => ?_)
    refine rf_ck (io_F R h_j14) ?_
    refine rf_bx0 (rf_gz (ym_Fr_below R h_j14) (by omega)) (fun u13' u13 r13 R_u13 => ?_)
    refine rf_gw ?_
    refine rf_so ?_
    refine rf_wk (sq_2 R_u13 h_j10.1) (fun w16' w16 R_w16 => ?_)
    exact (hG _ _ _ _ _ _ R_w16)
theorem yb_Ma_tuple_0 {N : Nat} {p : Nat} {c : Nat → Nat} {m : MS} {u : CS} {G : (CS → Nat → Int32 → Int32 → Int32 → Option (CS × Unit))} {G' : (MS → Nat → Int32 → Int32 → Int32 → Option (MS × Unit))} (hG : ∀ (c : Nat → Nat) (m : MS) (u : CS) (v1 : Int32) (v2 : Int32) (v3 : Int32), RP (some p) c m u → RF 2 (some p) VE c u (G u 55 v1 v2 v3) (G' m p v1 v2 v3)) (R : RP (some p) c m u) {v1 : Int32} : RF 2 (some p) VE c u (fb_Ma_tuple_0 N G u 55 v1) (hb_Ma_tuple_0 N G' m p v1) := by
  unfold fb_Ma_tuple_0 hb_Ma_tuple_0
  refine rf_ck (ox_55 R) ?_
  refine rf_bx0 (rf_gz (ym_Ma_sizes R) (by omega)) (fun u17' u17 r17 R_u17 => ?_)
  refine rf_gw ?_
  refine rf_br ?_ ?_
  · refine rf_ck (ox_55 R_u17) ?_
    refine rf_bx (rf_gz (ym_Ma_room R_u17) (by omega)) (by unfold zle; omega) (fun c_u18 u18' u18 r18 r18' R_u18 E_u18 v_u18 => ?_)
    cases v_u18
    refine rf_gw ?_
    refine rf_br ?_ ?_
    · exact rf_ret R_u18 rfl
    · refine rf_bo (gR_M3 R_u18) ?_
      refine rf_soP R_u18.md (fun j20 h_j20 => ?_)
      refine rf_bo (gq_4 R_u18 h_j20) ?_
      refine rf_bo (gR_M3 R_u18) ?_
      refine rf_soP R_u18.md (fun j23 h_j23 => ?_)
      refine rf_bo (gR_P2 R_u18 h_j23) ?_
      refine rf_bx0 (rf_gz (ym_Te_make R_u18) (by omega)) (fun u25' u25 r25 R_u25 => ?_)
      refine rf_gw ?_
      refine rf_so ?_
      refine rf_wk (sq_2 R_u25 h_j23.1) (fun w27' w27 R_w27 => ?_)
      exact (hG _ _ _ _ _ _ R_w27)
  · refine rf_ck (ox_55 R_u17) ?_
    refine rf_bx0 (rf_gz (ym_Ma_wrong R_u17) (by omega)) (fun u28' u28 r28 R_u28 => ?_)
    refine rf_gw ?_
    exact rf_ret R_u28 rfl
theorem yg_Ma_tuple {N : Nat} {p : Nat} : ∀ n, (∀ (c : Nat → Nat) (m : MS) (u : CS) (v1 : Int32) (v2 : Int32) (v3 : Int32), RP (some p) c m u → RF 2 (some p) VE c u ((gg_Ma_tuple N n) u 55 v1 v2 v3) ((hg_Ma_tuple N n) m p v1 v2 v3)) := by
  intro n
  induction n with
  | zero => exact fun c m u v1 v2 v3 R => rf_none
  | succ n ih => exact fun c m u v1 v2 v3 R => yb_Ma_tuple_57 (N := N) ih R
theorem ym_Ma_tuple {N : Nat} {p : Nat} {c : Nat → Nat} {m : MS} {u : CS} (R : RP (some p) c m u) {v1 : Int32} : RF 2 (some p) VE c u (fm_Ma_tuple N u 55 v1) (hm_Ma_tuple N m p v1) := yb_Ma_tuple_0 (N := N) (yg_Ma_tuple (N := N) N) R
theorem yb_Ma_list_44 {N : Nat} {p : Nat} {c : Nat → Nat} {m : MS} {u : CS} {G : (CS → Nat → Int32 → Int32 → Int32 → Option (CS × Unit))} {G' : (MS → Nat → Int32 → Int32 → Int32 → Option (MS × Unit))} (hG : ∀ (c : Nat → Nat) (m : MS) (u : CS) (v1 : Int32) (v2 : Int32) (v3 : Int32), RP (some p) c m u → RF 2 (some p) VE c u (G u 55 v1 v2 v3) (G' m p v1 v2 v3)) (R : RP (some p) c m u) {v1 : Int32} {v2 : Int32} {v3 : Int32} : RF 2 (some p) VE c u (fb_Ma_list_44 N G u 55 v1 v2 v3) (hb_Ma_list_44 N G' m p v1 v2 v3) := by
  unfold fb_Ma_list_44 hb_Ma_list_44
  refine rf_br ?_ ?_
  · refine rf_bo (gR_M4 R) ?_
    refine rf_soF R.md (fun j3 h_j3 => ?_)
    refine rf_ck (io_F R h_j3) ?_
    refine rf_bx0 (rf_gz (ym_Fr_below R h_j3) (by omega)) (fun u2' u2 r2 R_u2 => ?_)
    refine rf_gw ?_
    refine rf_ck (ox_55 R_u2) ?_
    refine rf_bx0 (rf_gz (ym_Ma_endList R_u2) (by omega)) (fun u4' u4 r4 R_u4 => ?_)
    refine rf_gw ?_
    refine rf_bx0 (rf_gz (ym_Te_make R_u4) (by omega)) (fun u5' u5 r5 R_u5 => ?_)
    refine rf_gw ?_
    refine rf_ck (ox_55 R_u5) ?_
    refine rf_ck (all1 (okR_s R_u5 (by decide))) ?_
    refine rf_bx (rf_gw (ym_Ma_answer R_u5)) (by unfold zle; omega) (fun c_u6 u6' u6 r6 r6' R_u6 E_u6 v_u6 => ?_)
    cases v_u6
    refine rf_gw ?_
    refine rf_bo (gx_55_5 R_u6) ?_
    refine rf_w (px_55_5 R_u6) (fun w8' w8 R_w8 => ?_)
    exact rf_ret R_w8 rfl
  · refine rf_bo (gR_M3 R) ?_
    refine rf_soP R.md (fun j10 h_j10 => ?_)
    refine rf_bo (gR_P2 R h_j10) ?_
    refine rf_bo (gR_M4 R) ?_
    refine rf_soF R.md (fun j14 h_j14 => ?_)
    refine rf_ck (io_F R h_j14) ?_
    refine rf_bx0 (rf_gz (ym_Fr_below R h_j14) (by omega)) (fun u13' u13 r13 R_u13 => ?_)
    refine rf_gw ?_
    refine rf_so ?_
    refine rf_wk (sq_2 R_u13 h_j10.1) (fun w16' w16 R_w16 => ?_)
    refine rf_bo (gR_M3 R_w16) ?_
    refine rf_soP R_w16.md (fun j18 h_j18 => ?_)
    refine rf_bo (gR_P2 R_w16 h_j18) ?_
    refine rf_bx0 (rf_gz (ym_Te_make R_w16) (by omega)) (fun u20' u20 r20 R_u20 => ?_)
    refine rf_gw ?_
    refine rf_so ?_
    refine rf_wk (sq_2 R_u20 h_j18.1) (fun w22' w22 R_w22 => ?_)
    exact (hG _ _ _ _ _ _ R_w22)
theorem yb_Ma_list_0 {N : Nat} {p : Nat} {c : Nat → Nat} {m : MS} {u : CS} {G : (CS → Nat → Int32 → Int32 → Int32 → Option (CS × Unit))} {G' : (MS → Nat → Int32 → Int32 → Int32 → Option (MS × Unit))} (hG : ∀ (c : Nat → Nat) (m : MS) (u : CS) (v1 : Int32) (v2 : Int32) (v3 : Int32), RP (some p) c m u → RF 2 (some p) VE c u (G u 55 v1 v2 v3) (G' m p v1 v2 v3)) (R : RP (some p) c m u) {v1 : Int32} : RF 2 (some p) VE c u (fb_Ma_list_0 N G u 55 v1) (hb_Ma_list_0 N G' m p v1) := by
  unfold fb_Ma_list_0 hb_Ma_list_0
  refine rf_ck (ox_55 R) ?_
  refine rf_bx0 (rf_gz (ym_Ma_sizes R) (by omega)) (fun u23' u23 r23 R_u23 => ?_)
  refine rf_gw ?_
  refine rf_br ?_ ?_
  · refine rf_ck (ox_55 R_u23) ?_
    refine rf_bx (rf_gz (ym_Ma_room R_u23) (by omega)) (by unfold zle; omega) (fun c_u24 u24' u24 r24 r24' R_u24 E_u24 v_u24 => ?_)
    cases v_u24
    refine rf_gw ?_
    refine rf_br ?_ ?_
    · exact rf_ret R_u24 rfl
    · refine rf_bo (gR_M3 R_u24) ?_
      refine rf_soP R_u24.md (fun j26 h_j26 => ?_)
      refine rf_bo (gq_4 R_u24 h_j26) ?_
      exact (hG _ _ _ _ _ _ R_u24)
  · refine rf_ck (ox_55 R_u23) ?_
    refine rf_bx0 (rf_gz (ym_Ma_wrong R_u23) (by omega)) (fun u28' u28 r28 R_u28 => ?_)
    refine rf_gw ?_
    exact rf_ret R_u28 rfl
theorem yg_Ma_list {N : Nat} {p : Nat} : ∀ n, (∀ (c : Nat → Nat) (m : MS) (u : CS) (v1 : Int32) (v2 : Int32) (v3 : Int32), RP (some p) c m u → RF 2 (some p) VE c u ((gg_Ma_list N n) u 55 v1 v2 v3) ((hg_Ma_list N n) m p v1 v2 v3)) := by
  intro n
  induction n with
  | zero => exact fun c m u v1 v2 v3 R => rf_none
  | succ n ih => exact fun c m u v1 v2 v3 R => yb_Ma_list_44 (N := N) ih R
theorem ym_Ma_list {N : Nat} {p : Nat} {c : Nat → Nat} {m : MS} {u : CS} (R : RP (some p) c m u) {v1 : Int32} : RF 2 (some p) VE c u (fm_Ma_list N u 55 v1) (hm_Ma_list N m p v1) := yb_Ma_list_0 (N := N) (yg_Ma_list (N := N) N) R
theorem yb_Ma_fun_144 {N : Nat} {p : Nat} {c : Nat → Nat} {m : MS} {u : CS} {G : (CS → Nat → Int32 → Int32 → Int32 → Int32 → Option (CS × Unit)) × (CS → Nat → Int32 → Int32 → Int32 → Option (CS × Unit))} {G' : (MS → Nat → Int32 → Int32 → Int32 → Int32 → Option (MS × Unit)) × (MS → Nat → Int32 → Int32 → Int32 → Option (MS × Unit))} (hG1 : ∀ (c : Nat → Nat) (m : MS) (u : CS) (v1 : Int32) (v2 : Int32) (v3 : Int32) (v4 : Int32), RP (some p) c m u → RF 2 (some p) VE c u (G.1 u 55 v1 v2 v3 v4) (G'.1 m p v1 v2 v3 v4)) (hG2 : ∀ (c : Nat → Nat) (m : MS) (u : CS) (v2 : Int32) (v4 : Int32) (v5 : Int32), RP (some p) c m u → RF 2 (some p) VE c u (G.2 u 55 v2 v4 v5) (G'.2 m p v2 v4 v5)) (R : RP (some p) c m u) {v2 : Int32} {v4 : Int32} {v5 : Int32} : RF 2 (some p) VE c u (fb_Ma_fun_144 N G u 55 v2 v4 v5) (hb_Ma_fun_144 N G' m p v2 v4 v5) := by
  unfold fb_Ma_fun_144 hb_Ma_fun_144
  refine rf_br ?_ ?_
  · refine rf_bo (gR_M3 R) ?_
    refine rf_soP R.md (fun j2 h_j2 => ?_)
    refine rf_bo (gq_4 R h_j2) ?_
    refine rf_w (wq_4 R h_j2) (fun w4' w4 R_w4 => ?_)
    refine rf_bo (gR_M4 R_w4) ?_
    refine rf_bx0 (rf_gz (ym_Te_make R_w4) (by omega)) (fun u6' u6 r6 R_u6 => ?_)
    refine rf_gw ?_
    refine rf_soF R_u6.md (fun j8 h_j8 => ?_)
    refine rf_ck (io_F R_u6 h_j8) ?_
    refine rf_ck (all1 (okR_s R_u6 (by decide))) ?_
    refine rf_bx (rf_gw (ym_Fr_push R_u6 h_j8)) (by unfold zle; omega) (fun c_u7 u7' u7 r7 r7' R_u7 E_u7 v_u7 => ?_)
    cases v_u7
    refine rf_gw ?_
    refine rf_bo (gx_55_5 R_u7) ?_
    refine rf_w (px_55_5 R_u7) (fun w10' w10 R_w10 => ?_)
    exact rf_ret R_w10 rfl
  · refine rf_bo (gR_M3 R) ?_
    refine rf_soP R.md (fun j12 h_j12 => ?_)
    refine rf_bo (gR_P2 R h_j12) ?_
    refine rf_bo (gR_M4 R) ?_
    refine rf_bo (rx_55_0 R) ?_
    refine rf_bo (gx_55_5 R) ?_
    refine rf_so ?_
    refine rf_ck (ox_22 R) ?_
    refine rf_bx0 (rf_gz (ym_Co_at R) (by omega)) (fun u17' u17 r17 R_u17 => ?_)
    refine rf_gw ?_
    refine rf_soF R_u17.md (fun j20 h_j20 => ?_)
    refine rf_ck (io_F R_u17 h_j20) ?_
    refine rf_bx0 (rf_gz (ym_Fr_termOf R_u17 h_j20) (by omega)) (fun u19' u19 r19 R_u19 => ?_)
    refine rf_gw ?_
    refine rf_so ?_
    refine rf_wk (sq_2 R_u19 h_j12.1) (fun w22' w22 R_w22 => ?_)
    exact (hG2 _ _ _ _ _ _ R_w22)
theorem yb_Ma_fun_21 {N : Nat} {p : Nat} {c : Nat → Nat} {m : MS} {u : CS} {G : (CS → Nat → Int32 → Int32 → Int32 → Int32 → Option (CS × Unit)) × (CS → Nat → Int32 → Int32 → Int32 → Option (CS × Unit))} {G' : (MS → Nat → Int32 → Int32 → Int32 → Int32 → Option (MS × Unit)) × (MS → Nat → Int32 → Int32 → Int32 → Option (MS × Unit))} (hG1 : ∀ (c : Nat → Nat) (m : MS) (u : CS) (v1 : Int32) (v2 : Int32) (v3 : Int32) (v4 : Int32), RP (some p) c m u → RF 2 (some p) VE c u (G.1 u 55 v1 v2 v3 v4) (G'.1 m p v1 v2 v3 v4)) (hG2 : ∀ (c : Nat → Nat) (m : MS) (u : CS) (v2 : Int32) (v4 : Int32) (v5 : Int32), RP (some p) c m u → RF 2 (some p) VE c u (G.2 u 55 v2 v4 v5) (G'.2 m p v2 v4 v5)) (R : RP (some p) c m u) {v1 : Int32} {v2 : Int32} {v3 : Int32} {v4 : Int32} : RF 2 (some p) VE c u (fb_Ma_fun_21 N G u 55 v1 v2 v3 v4) (hb_Ma_fun_21 N G' m p v1 v2 v3 v4) := by
  unfold fb_Ma_fun_21 hb_Ma_fun_21
  refine rf_br ?_ ?_
  · refine rf_br ?_ ?_
    · refine rf_ck (ox_55 R) ?_
      refine rf_bx (rf_gz (ym_Ma_room R) (by omega)) (by unfold zle; omega) (fun c_u23 u23' u23 r23 r23' R_u23 E_u23 v_u23 => ?_)
      cases v_u23
      refine rf_gw ?_
      refine rf_br ?_ ?_
      · exact rf_ret R_u23 rfl
      · refine rf_bo (gR_M3 R_u23) ?_
        refine rf_soP R_u23.md (fun j25 h_j25 => ?_)
        refine rf_bo (gq_4 R_u23 h_j25) ?_
        refine rf_bo (gR_M3 R_u23) ?_
        refine rf_soP R_u23.md (fun j28 h_j28 => ?_)
        refine rf_bo (gR_P2 R_u23 h_j28) ?_
        refine rf_bx0 (rf_gz (ym_Te_make R_u23) (by omega)) (fun u30' u30 r30 R_u30 => ?_)
        refine rf_gw ?_
        refine rf_so ?_
        refine rf_wk (sq_2 R_u30 h_j28.1) (fun w32' w32 R_w32 => ?_)
        refine rf_bo (gR_M3 R_w32) ?_
        refine rf_soP R_w32.md (fun j34 h_j34 => ?_)
        refine rf_bo (gR_P2 R_w32 h_j34) ?_
        refine rf_bx0 (rf_gz (ym_Te_make R_w32) (by omega)) (fun u36' u36 r36 R_u36 => ?_)
        refine rf_gw ?_
        refine rf_so ?_
        refine rf_wk (sq_2 R_u36 h_j34.1) (fun w38' w38 R_w38 => ?_)
        exact (hG2 _ _ _ _ _ _ R_w38)
    · refine rf_ck (ox_55 R) ?_
      refine rf_bx0 (rf_gz (ym_Ma_wrong R) (by omega)) (fun u39' u39 r39 R_u39 => ?_)
      refine rf_gw ?_
      exact rf_ret R_u39 rfl
  · refine rf_bo (rx_55_2 R) ?_
    refine rf_bo (gR_M3 R) ?_
    refine rf_soP R.md (fun j42 h_j42 => ?_)
    refine rf_bo (gR_P2 R h_j42) ?_
    refine rf_bo (gR_M4 R) ?_
    refine rf_bo (rx_55_0 R) ?_
    refine rf_bo (gx_55_5 R) ?_
    refine rf_so ?_
    refine rf_ck (ox_22 R) ?_
    refine rf_bx0 (rf_gz (ym_Co_at R) (by omega)) (fun u47' u47 r47 R_u47 => ?_)
    refine rf_gw ?_
    refine rf_soF R_u47.md (fun j50 h_j50 => ?_)
    refine rf_ck (io_F R_u47 h_j50) ?_
    refine rf_bx0 (rf_gz (ym_Fr_termOf R_u47 h_j50) (by omega)) (fun u49' u49 r49 R_u49 => ?_)
    refine rf_gw ?_
    refine rf_so ?_
    refine rf_ck (ox_43 R_u49) ?_
    refine rf_bx0 (rf_gz (ym_Te_size R_u49 ⟨_, h_j42.1, rfl, rfl⟩) (by omega)) (fun u51' u51 r51 R_u51 => ?_)
    refine rf_gw ?_
    exact (hG1 _ _ _ _ _ _ _ R_u51)
theorem yb_Ma_fun_0 {N : Nat} {p : Nat} {c : Nat → Nat} {m : MS} {u : CS} {G : (CS → Nat → Int32 → Int32 → Int32 → Int32 → Option (CS × Unit)) × (CS → Nat → Int32 → Int32 → Int32 → Option (CS × Unit))} {G' : (MS → Nat → Int32 → Int32 → Int32 → Int32 → Option (MS × Unit)) × (MS → Nat → Int32 → Int32 → Int32 → Option (MS × Unit))} (hG1 : ∀ (c : Nat → Nat) (m : MS) (u : CS) (v1 : Int32) (v2 : Int32) (v3 : Int32) (v4 : Int32), RP (some p) c m u → RF 2 (some p) VE c u (G.1 u 55 v1 v2 v3 v4) (G'.1 m p v1 v2 v3 v4)) (hG2 : ∀ (c : Nat → Nat) (m : MS) (u : CS) (v2 : Int32) (v4 : Int32) (v5 : Int32), RP (some p) c m u → RF 2 (some p) VE c u (G.2 u 55 v2 v4 v5) (G'.2 m p v2 v4 v5)) (R : RP (some p) c m u) {v1 : Int32} : RF 2 (some p) VE c u (fb_Ma_fun_0 N G u 55 v1) (hb_Ma_fun_0 N G' m p v1) := by
  unfold fb_Ma_fun_0 hb_Ma_fun_0
  refine rf_bo (rx_55_0 R) ?_
  refine rf_bo (gx_55_5 R) ?_
  refine rf_so ?_
  refine rf_ck (ox_22 R) ?_
  refine rf_bx0 (rf_gz (ym_Co_at R) (by omega)) (fun u55' u55 r55 R_u55 => ?_)
  refine rf_gw ?_
  exact (hG1 _ _ _ _ _ _ _ R_u55)
theorem yg_Ma_fun {N : Nat} {p : Nat} : ∀ n, (∀ (c : Nat → Nat) (m : MS) (u : CS) (v1 : Int32) (v2 : Int32) (v3 : Int32) (v4 : Int32), RP (some p) c m u → RF 2 (some p) VE c u ((gg_Ma_fun N n).1 u 55 v1 v2 v3 v4) ((hg_Ma_fun N n).1 m p v1 v2 v3 v4)) ∧ (∀ (c : Nat → Nat) (m : MS) (u : CS) (v2 : Int32) (v4 : Int32) (v5 : Int32), RP (some p) c m u → RF 2 (some p) VE c u ((gg_Ma_fun N n).2 u 55 v2 v4 v5) ((hg_Ma_fun N n).2 m p v2 v4 v5)) := by
  intro n
  induction n with
  | zero => exact ⟨fun c m u v1 v2 v3 v4 R => rf_none, fun c m u v2 v4 v5 R => rf_none⟩
  | succ n ih => exact ⟨fun c m u v1 v2 v3 v4 R => yb_Ma_fun_21 (N := N) ih.1 ih.2 R, fun c m u v2 v4 v5 R => yb_Ma_fun_144 (N := N) ih.1 ih.2 R⟩
theorem ym_Ma_fun {N : Nat} {p : Nat} {c : Nat → Nat} {m : MS} {u : CS} (R : RP (some p) c m u) {v1 : Int32} : RF 2 (some p) VE c u (fm_Ma_fun N u 55 v1) (hm_Ma_fun N m p v1) := yb_Ma_fun_0 (N := N) (yg_Ma_fun (N := N) N).1 (yg_Ma_fun (N := N) N).2 R
theorem yb_Ma_funOf_0 {N : Nat} {p : Nat} {c : Nat → Nat} {m : MS} {u : CS} (R : RP (some p) c m u) {v1 : Int32} : RF 2 (some p) VE c u (fb_Ma_funOf_0 N () u 55 v1) (hb_Ma_funOf_0 N () m p v1) := by
  unfold fb_Ma_funOf_0 hb_Ma_funOf_0
  refine rf_ck (ox_55 R) ?_
  refine rf_bx (rf_gz (ym_Ma_room R) (by omega)) (by unfold zle; omega) (fun c_u1 u1' u1 r1 r1' R_u1 E_u1 v_u1 => ?_)
  cases v_u1
  refine rf_gw ?_
  refine rf_br ?_ ?_
  · exact rf_ret R_u1 rfl
  · refine rf_bo (gR_M3 R_u1) ?_
    refine rf_soP R_u1.md (fun j3 h_j3 => ?_)
    refine rf_bo (gq_4 R_u1 h_j3) ?_
    refine rf_bo (gR_M3 R_u1) ?_
    refine rf_soP R_u1.md (fun j6 h_j6 => ?_)
    refine rf_bo (gR_P2 R_u1 h_j6) ?_
    refine rf_bx0 (rf_gz (ym_Te_make R_u1) (by omega)) (fun u8' u8 r8 R_u8 => ?_)
    refine rf_gw ?_
    refine rf_so ?_
    refine rf_wk (sq_2 R_u8 h_j6.1) (fun w10' w10 R_w10 => ?_)
    refine rf_bo (gR_M3 R_w10) ?_
    refine rf_soP R_w10.md (fun j12 h_j12 => ?_)
    refine rf_bo (gR_P2 R_w10 h_j12) ?_
    refine rf_bx0 (rf_gz (ym_Te_make R_w10) (by omega)) (fun u14' u14 r14 R_u14 => ?_)
    refine rf_gw ?_
    refine rf_so ?_
    refine rf_wk (sq_2 R_u14 h_j12.1) (fun w16' w16 R_w16 => ?_)
    refine rf_bo (gR_M3 R_w16) ?_
    refine rf_soP R_w16.md (fun j18 h_j18 => ?_)
    refine rf_bo (gq_4 R_w16 h_j18) ?_
    refine rf_w (wq_4 R_w16 h_j18) (fun w20' w20 R_w20 => ?_)
    refine rf_bo (gR_M4 R_w20) ?_
    refine rf_bx0 (rf_gz (ym_Te_make R_w20) (by omega)) (fun u22' u22 r22 R_u22 => ?_)
    refine rf_gw ?_
    refine rf_soF R_u22.md (fun j24 h_j24 => ?_)
    refine rf_ck (io_F R_u22 h_j24) ?_
    refine rf_ck (all1 (okR_s R_u22 (by decide))) ?_
    refine rf_bx (rf_gw (ym_Fr_push R_u22 h_j24)) (by unfold zle; omega) (fun c_u23 u23' u23 r23 r23' R_u23 E_u23 v_u23 => ?_)
    cases v_u23
    refine rf_gw ?_
    refine rf_bo (gx_55_5 R_u23) ?_
    refine rf_w (px_55_5 R_u23) (fun w26' w26 R_w26 => ?_)
    exact rf_ret R_w26 rfl
theorem ym_Ma_funOf {N : Nat} {p : Nat} {c : Nat → Nat} {m : MS} {u : CS} (R : RP (some p) c m u) {v1 : Int32} : RF 2 (some p) VE c u (fm_Ma_funOf N u 55 v1) (hm_Ma_funOf N m p v1) := yb_Ma_funOf_0 (N := N) R
theorem yb_Ma_making_166 {N : Nat} {p : Nat} {c : Nat → Nat} {m : MS} {u : CS} (R : RP (some p) c m u) : RF 2 (some p) VE c u (fb_Ma_making_166 N () u) (hb_Ma_making_166 N () m p) := by
  unfold fb_Ma_making_166 hb_Ma_making_166
  exact rf_ret R rfl
theorem yb_Ma_making_0 {N : Nat} {p : Nat} {c : Nat → Nat} {m : MS} {u : CS} (R : RP (some p) c m u) {v1 : Int32} : RF 2 (some p) VE c u (fb_Ma_making_0 N () u 55 v1) (hb_Ma_making_0 N () m p v1) := by
  unfold fb_Ma_making_0 hb_Ma_making_0
  refine rf_bo (rx_55_0 R) ?_
  refine rf_bo (gx_55_5 R) ?_
  refine rf_so ?_
  refine rf_ck (ox_22 R) ?_
  refine rf_bx0 (rf_gz (ym_Co_at R) (by omega)) (fun u3' u3 r3 R_u3 => ?_)
  refine rf_gw ?_
  refine rf_br ?_ ?_
  · refine rf_bo (gR_M4 R_u3) ?_
    refine rf_bo (rx_55_0 R_u3) ?_
    refine rf_bo (gx_55_5 R_u3) ?_
    refine rf_so ?_
    refine rf_ck (ox_22 R_u3) ?_
    refine rf_bx0 (rf_gz (ym_Co_at R_u3) (by omega)) (fun u8' u8 r8 R_u8 => ?_)
    refine rf_gw ?_
    refine rf_bx0 (rf_gz (ym_Te_make R_u8) (by omega)) (fun u10' u10 r10 R_u10 => ?_)
    refine rf_gw ?_
    refine rf_soF R_u10.md (fun j12 h_j12 => ?_)
    refine rf_ck (io_F R_u10 h_j12) ?_
    refine rf_ck (all1 (okR_s R_u10 (by decide))) ?_
    refine rf_bx (rf_gw (ym_Fr_push R_u10 h_j12)) (by unfold zle; omega) (fun c_u11 u11' u11 r11 r11' R_u11 E_u11 v_u11 => ?_)
    cases v_u11
    refine rf_gw ?_
    refine rf_bo (gx_55_5 R_u11) ?_
    refine rf_w (px_55_5 R_u11) (fun w14' w14 R_w14 => ?_)
    exact (yb_Ma_making_166 R_w14)
  · refine rf_br ?_ ?_
    · refine rf_ck (ox_55 R_u3) ?_
      refine rf_ck (all1 (okR_s R_u3 (by decide))) ?_
      refine rf_bx (rf_gw (ym_Ma_string R_u3)) (by unfold zle; omega) (fun c_u15 u15' u15 r15 r15' R_u15 E_u15 v_u15 => ?_)
      cases v_u15
      refine rf_gw ?_
      exact (yb_Ma_making_166 R_u15)
    · refine rf_br ?_ ?_
      · refine rf_bo (gR_M4 R_u3) ?_
        refine rf_bo (gR_M4 R_u3) ?_
        refine rf_soF R_u3.md (fun j19 h_j19 => ?_)
        refine rf_ck (io_F R_u3 h_j19) ?_
        refine rf_bx0 (rf_gz (ym_Fr_termOf R_u3 h_j19) (by omega)) (fun u18' u18 r18 R_u18 => ?_)
        refine rf_gw ?_
        refine rf_soF R_u18.md (fun j21 h_j21 => ?_)
        refine rf_ck (io_F R_u18 h_j21) ?_
        refine rf_ck (all1 (okR_s R_u18 (by decide))) ?_
        refine rf_bx (rf_gw (ym_Fr_push R_u18 h_j21)) (by unfold zle; omega) (fun c_u20 u20' u20 r20 r20' R_u20 E_u20 v_u20 => ?_)
        cases v_u20
        refine rf_gw ?_
        refine rf_bo (gx_55_5 R_u20) ?_
        refine rf_w (px_55_5 R_u20) (fun w23' w23 R_w23 => ?_)
        exact (yb_Ma_making_166 R_w23)
      · refine rf_br ?_ ?_
        · refine rf_ck (ox_55 R_u3) ?_
          refine rf_ck (all1 (okR_s R_u3 (by decide))) ?_
          refine rf_bx (rf_gw (ym_Ma_tuple R_u3)) (by unfold zle; omega) (fun c_u24 u24' u24 r24 r24' R_u24 E_u24 v_u24 => ?_)
          cases v_u24
          refine rf_gw ?_
          exact (yb_Ma_making_166 R_u24)
        · refine rf_br ?_ ?_
          · refine rf_ck (ox_55 R_u3) ?_
            refine rf_ck (all1 (okR_s R_u3 (by decide))) ?_
            refine rf_bx (rf_gw (ym_Ma_list R_u3)) (by unfold zle; omega) (fun c_u25 u25' u25 r25 r25' R_u25 E_u25 v_u25 => ?_)
            cases v_u25
            refine rf_gw ?_
            exact (yb_Ma_making_166 R_u25)
          · refine rf_br ?_ ?_
            · refine rf_ck (ox_55 R_u3) ?_
              refine rf_ck (all1 (okR_s R_u3 (by decide))) ?_
              refine rf_bx (rf_gw (ym_Ma_fun R_u3)) (by unfold zle; omega) (fun c_u26 u26' u26 r26 r26' R_u26 E_u26 v_u26 => ?_)
              cases v_u26
              refine rf_gw ?_
              exact (yb_Ma_making_166 R_u26)
            · refine rf_br ?_ ?_
              · refine rf_ck (ox_55 R_u3) ?_
                refine rf_ck (all1 (okR_s R_u3 (by decide))) ?_
                refine rf_bx (rf_gw (ym_Ma_funOf R_u3)) (by unfold zle; omega) (fun c_u27 u27' u27 r27 r27' R_u27 E_u27 v_u27 => ?_)
                cases v_u27
                refine rf_gw ?_
                exact (yb_Ma_making_166 R_u27)
              · refine rf_w (px_55_8 R_u3) (fun w28' w28 R_w28 => ?_)
                exact (yb_Ma_making_166 R_w28)
theorem ym_Ma_making {N : Nat} {p : Nat} {c : Nat → Nat} {m : MS} {u : CS} (R : RP (some p) c m u) {v1 : Int32} : RF 2 (some p) VE c u (fm_Ma_making N u 55 v1) (hm_Ma_making N m p v1) := yb_Ma_making_0 (N := N) R
theorem yb_Te_orderAlone_107 {N : Nat} {o : Option Nat} {c : Nat → Nat} {m : MS} {u : CS} (R : RP o c m u) {t0 : Int32} : RF 0 o VE c u (fb_Te_orderAlone_107 N () u t0) (hb_Te_orderAlone_107 N () m t0) := by
  unfold fb_Te_orderAlone_107 hb_Te_orderAlone_107
  exact rf_ret R rfl
theorem yb_Te_orderAlone_75 {N : Nat} {o : Option Nat} {c : Nat → Nat} {m : MS} {u : CS} (R : RP o c m u) {v1 : Nat} {v1' : Nat} {v7 : Int32} {v8 : Int32} (h_v1 : CVn c v1 v1') : RF 0 o VE c u (fb_Te_orderAlone_75 N () u (some v1) v7 v8) (hb_Te_orderAlone_75 N () m v1' v7 v8) := by
  unfold fb_Te_orderAlone_75 hb_Te_orderAlone_75
  refine rf_so ?_
  refine rf_ai (aq_C R h_v1) ?_
  refine rf_so ?_
  refine rf_ai (aq_C R h_v1) ?_
  refine rf_bx0 (ym_JI_compare R) (fun u5' u5 r5 R_u5 => ?_)
  exact rf_ret R_u5 rfl
theorem yb_Te_orderAlone_62 {N : Nat} {o : Option Nat} {c : Nat → Nat} {m : MS} {u : CS} (R : RP o c m u) {t0 : Int32} : RF 0 o VE c u (fb_Te_orderAlone_62 N () u t0) (hb_Te_orderAlone_62 N () m t0) := by
  unfold fb_Te_orderAlone_62 hb_Te_orderAlone_62
  exact rf_ret R rfl
theorem yb_Te_orderAlone_0 {N : Nat} {o : Option Nat} {c : Nat → Nat} {m : MS} {u : CS} (R : RP o c m u) {v1 : Nat} {v1' : Nat} {v2 : Int64} {v4 : Int64} (h_v1 : CVn c v1 v1') : RF 0 o VE c u (fb_Te_orderAlone_0 N () u 43 (some v1) v2 v4) (hb_Te_orderAlone_0 N () m v1' v2 v4) := by
  unfold fb_Te_orderAlone_0 hb_Te_orderAlone_0
  refine rf_bx0 (ym_Te_tag R) (fun u6' u6 r6 R_u6 => ?_)
  refine rf_bx0 (ym_Te_tag R_u6) (fun u7' u7 r7 R_u7 => ?_)
  refine rf_br ?_ ?_
  · refine rf_br ?_ ?_
    · refine rf_br ?_ ?_
      · exact (yb_Te_orderAlone_62 R_u7)
      · refine rf_bo (rx_43_3 R_u7) ?_
        refine rf_so ?_
        refine rf_ck (ox_1 R_u7) ?_
        refine rf_bx0 (ym_Wo_order R_u7 (by unfold isWd; omega)) (fun u10' u10 r10 R_u10 => ?_)
        exact (yb_Te_orderAlone_62 R_u10)
    · refine rf_br ?_ ?_
      · exact (yb_Te_orderAlone_75 R_u7 h_v1)
      · refine rf_br ?_ ?_
        · exact (yb_Te_orderAlone_75 R_u7 h_v1)
        · refine rf_br ?_ ?_
          · exact (yb_Te_orderAlone_107 R_u7)
          · refine rf_bx0 (ym_JI_compare R_u7) (fun u8' u8 r8 R_u8 => ?_)
            exact (yb_Te_orderAlone_107 R_u8)
  · refine rf_bx0 (ym_Te_tag R_u7) (fun u12' u12 r12 R_u12 => ?_)
    exact rf_ret R_u12 rfl
theorem ym_Te_orderAlone {N : Nat} {o : Option Nat} {c : Nat → Nat} {m : MS} {u : CS} (R : RP o c m u) {v1 : Nat} {v1' : Nat} {v2 : Int64} {v4 : Int64} (h_v1 : CVn c v1 v1') : RF 0 o VE c u (fm_Te_orderAlone N u 43 (some v1) v2 v4) (hm_Te_orderAlone N m v1' v2 v4) := yb_Te_orderAlone_0 (N := N) R h_v1
theorem yb_Te_order_179 {N : Nat} {o : Option Nat} {c : Nat → Nat} {m : MS} {u : CS} {G : (CS → Nat → Option Nat → Int32 → Int32 → Option (CS × Int32)) × (CS → Nat → Option Nat → Int32 → Int32 → Int32 → Int32 → Int32 → Int32 → Option (CS × Int32))} {G' : (MS → Nat → Int32 → Int32 → Option (MS × Int32)) × (MS → Nat → Int32 → Int32 → Int32 → Int32 → Int32 → Int32 → Option (MS × Int32))} (hG1 : ∀ (c : Nat → Nat) (m : MS) (u : CS) (v1 : Nat) (v1' : Nat) (v6 : Int32) (v7 : Int32), RP o c m u → CVn c v1 v1' → RF 0 o VE c u (G.1 u 43 (some v1) v6 v7) (G'.1 m v1' v6 v7)) (hG2 : ∀ (c : Nat → Nat) (m : MS) (u : CS) (v1 : Nat) (v1' : Nat) (v6 : Int32) (v7 : Int32) (v9 : Int32) (v10 : Int32) (v12 : Int32) (v13 : Int32), RP o c m u → CVn c v1 v1' → RF 0 o VE c u (G.2 u 43 (some v1) v6 v7 v9 v10 v12 v13) (G'.2 m v1' v6 v7 v9 v10 v12 v13)) (R : RP o c m u) : RF 0 o VE c u (fb_Te_order_179 N G u) (hb_Te_order_179 N G' m) := by
  unfold fb_Te_order_179 hb_Te_order_179
  exact rf_ret R rfl
theorem yb_Te_order_173 {N : Nat} {o : Option Nat} {c : Nat → Nat} {m : MS} {u : CS} {G : (CS → Nat → Option Nat → Int32 → Int32 → Option (CS × Int32)) × (CS → Nat → Option Nat → Int32 → Int32 → Int32 → Int32 → Int32 → Int32 → Option (CS × Int32))} {G' : (MS → Nat → Int32 → Int32 → Option (MS × Int32)) × (MS → Nat → Int32 → Int32 → Int32 → Int32 → Int32 → Int32 → Option (MS × Int32))} (hG1 : ∀ (c : Nat → Nat) (m : MS) (u : CS) (v1 : Nat) (v1' : Nat) (v6 : Int32) (v7 : Int32), RP o c m u → CVn c v1 v1' → RF 0 o VE c u (G.1 u 43 (some v1) v6 v7) (G'.1 m v1' v6 v7)) (hG2 : ∀ (c : Nat → Nat) (m : MS) (u : CS) (v1 : Nat) (v1' : Nat) (v6 : Int32) (v7 : Int32) (v9 : Int32) (v10 : Int32) (v12 : Int32) (v13 : Int32), RP o c m u → CVn c v1 v1' → RF 0 o VE c u (G.2 u 43 (some v1) v6 v7 v9 v10 v12 v13) (G'.2 m v1' v6 v7 v9 v10 v12 v13)) (R : RP o c m u) {v1 : Nat} {v1' : Nat} {v6 : Int32} {v7 : Int32} (h_v1 : CVn c v1 v1') : RF 0 o VE c u (fb_Te_order_173 N G u 43 (some v1) v6 v7) (hb_Te_order_173 N G' m v1' v6 v7) := by
  unfold fb_Te_order_173 hb_Te_order_173
  exact (hG1 _ _ _ _ _ _ _ R h_v1)
theorem yb_Te_order_121 {N : Nat} {o : Option Nat} {c : Nat → Nat} {m : MS} {u : CS} {G : (CS → Nat → Option Nat → Int32 → Int32 → Option (CS × Int32)) × (CS → Nat → Option Nat → Int32 → Int32 → Int32 → Int32 → Int32 → Int32 → Option (CS × Int32))} {G' : (MS → Nat → Int32 → Int32 → Option (MS × Int32)) × (MS → Nat → Int32 → Int32 → Int32 → Int32 → Int32 → Int32 → Option (MS × Int32))} (hG1 : ∀ (c : Nat → Nat) (m : MS) (u : CS) (v1 : Nat) (v1' : Nat) (v6 : Int32) (v7 : Int32), RP o c m u → CVn c v1 v1' → RF 0 o VE c u (G.1 u 43 (some v1) v6 v7) (G'.1 m v1' v6 v7)) (hG2 : ∀ (c : Nat → Nat) (m : MS) (u : CS) (v1 : Nat) (v1' : Nat) (v6 : Int32) (v7 : Int32) (v9 : Int32) (v10 : Int32) (v12 : Int32) (v13 : Int32), RP o c m u → CVn c v1 v1' → RF 0 o VE c u (G.2 u 43 (some v1) v6 v7 v9 v10 v12 v13) (G'.2 m v1' v6 v7 v9 v10 v12 v13)) (R : RP o c m u) {v1 : Nat} {v1' : Nat} {v6 : Int32} {v7 : Int32} {v9 : Int32} {v10 : Int32} {v12 : Int32} {v13 : Int32} (h_v1 : CVn c v1 v1') : RF 0 o VE c u (fb_Te_order_121 N G u 43 (some v1) v6 v7 v9 v10 v12 v13) (hb_Te_order_121 N G' m v1' v6 v7 v9 v10 v12 v13) := by
  unfold fb_Te_order_121 hb_Te_order_121
  refine rf_br ?_ ?_
  · exact (yb_Te_order_173 hG1 hG2 R h_v1)
  · refine rf_br ?_ ?_
    · exact (yb_Te_order_173 hG1 hG2 R h_v1)
    · refine rf_bo (rx_43_1 R) ?_
      refine rf_so ?_
      refine rf_ai (aq_C R h_v1) ?_
      refine rf_so ?_
      refine rf_wk (sx_45 R) (fun w5' w5 R_w5 => ?_)
      refine rf_bo (rx_43_2 R_w5) ?_
      refine rf_so ?_
      refine rf_ai (aq_C R_w5 h_v1) ?_
      refine rf_so ?_
      refine rf_wk (sx_46 R_w5) (fun w10' w10 R_w10 => ?_)
      exact (hG2 _ _ _ _ _ _ _ _ _ _ _ R_w10 h_v1)
theorem yb_Te_order_21 {N : Nat} {o : Option Nat} {c : Nat → Nat} {m : MS} {u : CS} {G : (CS → Nat → Option Nat → Int32 → Int32 → Option (CS × Int32)) × (CS → Nat → Option Nat → Int32 → Int32 → Int32 → Int32 → Int32 → Int32 → Option (CS × Int32))} {G' : (MS → Nat → Int32 → Int32 → Option (MS × Int32)) × (MS → Nat → Int32 → Int32 → Int32 → Int32 → Int32 → Int32 → Option (MS × Int32))} (hG1 : ∀ (c : Nat → Nat) (m : MS) (u : CS) (v1 : Nat) (v1' : Nat) (v6 : Int32) (v7 : Int32), RP o c m u → CVn c v1 v1' → RF 0 o VE c u (G.1 u 43 (some v1) v6 v7) (G'.1 m v1' v6 v7)) (hG2 : ∀ (c : Nat → Nat) (m : MS) (u : CS) (v1 : Nat) (v1' : Nat) (v6 : Int32) (v7 : Int32) (v9 : Int32) (v10 : Int32) (v12 : Int32) (v13 : Int32), RP o c m u → CVn c v1 v1' → RF 0 o VE c u (G.2 u 43 (some v1) v6 v7 v9 v10 v12 v13) (G'.2 m v1' v6 v7 v9 v10 v12 v13)) (R : RP o c m u) {v1 : Nat} {v1' : Nat} {v6 : Int32} {v7 : Int32} (h_v1 : CVn c v1 v1') : RF 0 o VE c u (fb_Te_order_21 N G u 43 (some v1) v6 v7) (hb_Te_order_21 N G' m v1' v6 v7) := by
  unfold fb_Te_order_21 hb_Te_order_21
  refine rf_br ?_ ?_
  · exact (yb_Te_order_179 hG1 hG2 R)
  · refine rf_br ?_ ?_
    · exact (yb_Te_order_179 hG1 hG2 R)
    · refine rf_bo (rx_43_1 R) ?_
      refine rf_so ?_
      refine rf_ai (ax_45 R) ?_
      refine rf_bo (rx_43_2 R) ?_
      refine rf_so ?_
      refine rf_ai (ax_46 R) ?_
      refine rf_ck (ox_43 R) ?_
      refine rf_bx0 (ym_Te_orderAlone R h_v1) (fun u17' u17 r17 R_u17 => ?_)
      refine rf_br ?_ ?_
      · refine rf_bo (rx_43_1 R_u17) ?_
        refine rf_so ?_
        refine rf_ai (ax_45 R_u17) ?_
        refine rf_bo (rx_43_2 R_u17) ?_
        refine rf_so ?_
        refine rf_ai (ax_46 R_u17) ?_
        refine rf_bo (rx_43_1 R_u17) ?_
        refine rf_so ?_
        refine rf_ai (ax_45 R_u17) ?_
        refine rf_bx0 (ym_Te_cellsAt R_u17 h_v1) (fun u27' u27 r27 R_u27 => ?_)
        refine rf_bo (rx_43_1 R_u27) ?_
        refine rf_so ?_
        refine rf_ai (ax_45 R_u27) ?_
        refine rf_bx0 (ym_Te_partsOf R_u27) (fun u31' u31 r31 R_u31 => ?_)
        exact (hG2 _ _ _ _ _ _ _ _ _ _ _ R_u31 h_v1)
      · exact rf_ret R_u17 rfl
theorem yb_Te_order_0 {N : Nat} {o : Option Nat} {c : Nat → Nat} {m : MS} {u : CS} {G : (CS → Nat → Option Nat → Int32 → Int32 → Option (CS × Int32)) × (CS → Nat → Option Nat → Int32 → Int32 → Int32 → Int32 → Int32 → Int32 → Option (CS × Int32))} {G' : (MS → Nat → Int32 → Int32 → Option (MS × Int32)) × (MS → Nat → Int32 → Int32 → Int32 → Int32 → Int32 → Int32 → Option (MS × Int32))} (hG1 : ∀ (c : Nat → Nat) (m : MS) (u : CS) (v1 : Nat) (v1' : Nat) (v6 : Int32) (v7 : Int32), RP o c m u → CVn c v1 v1' → RF 0 o VE c u (G.1 u 43 (some v1) v6 v7) (G'.1 m v1' v6 v7)) (hG2 : ∀ (c : Nat → Nat) (m : MS) (u : CS) (v1 : Nat) (v1' : Nat) (v6 : Int32) (v7 : Int32) (v9 : Int32) (v10 : Int32) (v12 : Int32) (v13 : Int32), RP o c m u → CVn c v1 v1' → RF 0 o VE c u (G.2 u 43 (some v1) v6 v7 v9 v10 v12 v13) (G'.2 m v1' v6 v7 v9 v10 v12 v13)) (R : RP o c m u) {v1 : Nat} {v1' : Nat} {v2 : Int64} {v4 : Int64} (h_v1 : CVn c v1 v1') : RF 0 o VE c u (fb_Te_order_0 N G u 43 (some v1) v2 v4) (hb_Te_order_0 N G' m v1' v2 v4) := by
  unfold fb_Te_order_0 hb_Te_order_0
  refine rf_bo (rx_43_1 R) ?_
  refine rf_so ?_
  refine rf_wk (sx_45 R) (fun w34' w34 R_w34 => ?_)
  refine rf_bo (rx_43_2 R_w34) ?_
  refine rf_so ?_
  refine rf_wk (sx_46 R_w34) (fun w37' w37 R_w37 => ?_)
  exact (hG1 _ _ _ _ _ _ _ R_w37 h_v1)
theorem yg_Te_order {N : Nat} {o : Option Nat} : ∀ n, (∀ (c : Nat → Nat) (m : MS) (u : CS) (v1 : Nat) (v1' : Nat) (v6 : Int32) (v7 : Int32), RP o c m u → CVn c v1 v1' → RF 0 o VE c u ((gg_Te_order N n).1 u 43 (some v1) v6 v7) ((hg_Te_order N n).1 m v1' v6 v7)) ∧ (∀ (c : Nat → Nat) (m : MS) (u : CS) (v1 : Nat) (v1' : Nat) (v6 : Int32) (v7 : Int32) (v9 : Int32) (v10 : Int32) (v12 : Int32) (v13 : Int32), RP o c m u → CVn c v1 v1' → RF 0 o VE c u ((gg_Te_order N n).2 u 43 (some v1) v6 v7 v9 v10 v12 v13) ((hg_Te_order N n).2 m v1' v6 v7 v9 v10 v12 v13)) := by
  intro n
  induction n with
  | zero => exact ⟨fun c m u v1 v1' v6 v7 R h_v1 => rf_none, fun c m u v1 v1' v6 v7 v9 v10 v12 v13 R h_v1 => rf_none⟩
  | succ n ih => exact ⟨fun c m u v1 v1' v6 v7 R h_v1 => yb_Te_order_21 (N := N) ih.1 ih.2 R h_v1, fun c m u v1 v1' v6 v7 v9 v10 v12 v13 R h_v1 => yb_Te_order_121 (N := N) ih.1 ih.2 R h_v1⟩
theorem ym_Te_order {N : Nat} {o : Option Nat} {c : Nat → Nat} {m : MS} {u : CS} (R : RP o c m u) {v1 : Nat} {v1' : Nat} {v2 : Int64} {v4 : Int64} (h_v1 : CVn c v1 v1') : RF 0 o VE c u (fm_Te_order N u 43 (some v1) v2 v4) (hm_Te_order N m v1' v2 v4) := yb_Te_order_0 (N := N) (yg_Te_order (N := N) N).1 (yg_Te_order (N := N) N).2 R h_v1
end
section
set_option maxRecDepth 100000
theorem yb_Ma_number_0 {N : Nat} {p : Nat} {c : Nat → Nat} {m : MS} {u : CS} (R : RP (some p) c m u) {v1 : Int32} {v2 : Int64} {v4 : Int32} : RF 1 (some p) VE c u (fb_Ma_number_0 N () u 55 v1 v2 v4) (hb_Ma_number_0 N () m p v1 v2 v4) := by
  unfold fb_Ma_number_0 hb_Ma_number_0
  refine rf_br ?_ ?_
  · refine rf_bx0 (rf_gz (ym_Te_make R) (by omega)) (fun u1' u1 r1 R_u1 => ?_)
    refine rf_gw ?_
    refine rf_ck (ox_55 R_u1) ?_
    refine rf_ck (all1 (okR_s R_u1 (by decide))) ?_
    refine rf_bx (rf_gw (ym_Ma_answer R_u1)) (by unfold zle; omega) (fun c_u2 u2' u2 r2 r2' R_u2 E_u2 v_u2 => ?_)
    cases v_u2
    refine rf_gw ?_
    refine rf_bo (gx_55_5 R_u2) ?_
    refine rf_w (px_55_5 R_u2) (fun w4' w4 R_w4 => ?_)
    exact rf_ret R_w4 rfl
  · refine rf_ck (ox_55 R) ?_
    refine rf_bx0 (rf_gz (ym_Ma_wrong R) (by omega)) (fun u5' u5 r5 R_u5 => ?_)
    refine rf_gw ?_
    exact rf_ret R_u5 rfl
theorem ym_Ma_number {N : Nat} {p : Nat} {c : Nat → Nat} {m : MS} {u : CS} (R : RP (some p) c m u) {v1 : Int32} {v2 : Int64} {v4 : Int32} : RF 1 (some p) VE c u (fm_Ma_number N u 55 v1 v2 v4) (hm_Ma_number N m p v1 v2 v4) := yb_Ma_number_0 (N := N) R
theorem yb_Ma_arithmetic_208 {N : Nat} {p : Nat} {c : Nat → Nat} {m : MS} {u : CS} (R : RP (some p) c m u) {v8 : Int64} : RF 1 (some p) VE c u (fb_Ma_arithmetic_208 N () u 55 v8) (hb_Ma_arithmetic_208 N () m p v8) := by
  unfold fb_Ma_arithmetic_208 hb_Ma_arithmetic_208
  refine rf_ck (ox_55 R) ?_
  refine rf_ck (all1 (okR_s R (by decide))) ?_
  refine rf_bx (rf_gw (ym_Ma_number R)) (by unfold zle; omega) (fun c_u1 u1' u1 r1 r1' R_u1 E_u1 v_u1 => ?_)
  cases v_u1
  refine rf_gw ?_
  exact rf_ret R_u1 rfl
theorem yb_Ma_arithmetic_206 {N : Nat} {p : Nat} {c : Nat → Nat} {m : MS} {u : CS} (R : RP (some p) c m u) {t0 : Int64} : RF 1 (some p) VE c u (fb_Ma_arithmetic_206 N () u 55 t0) (hb_Ma_arithmetic_206 N () m p t0) := by
  unfold fb_Ma_arithmetic_206 hb_Ma_arithmetic_206
  exact (yb_Ma_arithmetic_208 R)
theorem yb_Ma_arithmetic_186 {N : Nat} {p : Nat} {c : Nat → Nat} {m : MS} {u : CS} (R : RP (some p) c m u) {t0 : Int64} : RF 1 (some p) VE c u (fb_Ma_arithmetic_186 N () u 55 t0) (hb_Ma_arithmetic_186 N () m p t0) := by
  unfold fb_Ma_arithmetic_186 hb_Ma_arithmetic_186
  exact (yb_Ma_arithmetic_208 R)
theorem yb_Ma_arithmetic_99 {N : Nat} {p : Nat} {c : Nat → Nat} {m : MS} {u : CS} (R : RP (some p) c m u) {v1 : Int32} {v3 : Int64} {v5 : Int64} : RF 1 (some p) VE c u (fb_Ma_arithmetic_99 N () u 55 v1 v3 v5) (hb_Ma_arithmetic_99 N () m p v1 v3 v5) := by
  unfold fb_Ma_arithmetic_99 hb_Ma_arithmetic_99
  refine rf_br ?_ ?_
  · refine rf_br ?_ ?_
    · exact (yb_Ma_arithmetic_186 R)
    · refine rf_ckk ?_
      exact (yb_Ma_arithmetic_186 R)
  · refine rf_br ?_ ?_
    · exact (yb_Ma_arithmetic_208 R)
    · refine rf_br ?_ ?_
      · exact (yb_Ma_arithmetic_208 R)
      · refine rf_br ?_ ?_
        · exact (yb_Ma_arithmetic_208 R)
        · refine rf_br ?_ ?_
          · exact (yb_Ma_arithmetic_206 R)
          · refine rf_ckk ?_
            exact (yb_Ma_arithmetic_206 R)
theorem yb_Ma_arithmetic_92 {N : Nat} {p : Nat} {c : Nat → Nat} {m : MS} {u : CS} (R : RP (some p) c m u) : RF 1 (some p) VE c u (fb_Ma_arithmetic_92 N () u 55) (hb_Ma_arithmetic_92 N () m p) := by
  unfold fb_Ma_arithmetic_92 hb_Ma_arithmetic_92
  refine rf_ck (ox_55 R) ?_
  refine rf_bx0 (rf_gz (ym_Ma_wrong R) (by omega)) (fun u2' u2 r2 R_u2 => ?_)
  refine rf_gw ?_
  exact rf_ret R_u2 rfl
theorem yb_Ma_arithmetic_74 {N : Nat} {p : Nat} {c : Nat → Nat} {m : MS} {u : CS} (R : RP (some p) c m u) {v1 : Int32} {v2 : Int32} {v3 : Int64} {v5 : Int64} {t0 : Int32} : RF 1 (some p) VE c u (fb_Ma_arithmetic_74 N () u 55 v1 v2 v3 v5 t0) (hb_Ma_arithmetic_74 N () m p v1 v2 v3 v5 t0) := by
  unfold fb_Ma_arithmetic_74 hb_Ma_arithmetic_74
  refine rf_br ?_ ?_
  · exact (yb_Ma_arithmetic_92 R)
  · refine rf_br ?_ ?_
    · exact (yb_Ma_arithmetic_99 R)
    · refine rf_br ?_ ?_
      · exact (yb_Ma_arithmetic_92 R)
      · exact (yb_Ma_arithmetic_99 R)
theorem yb_Ma_arithmetic_69 {N : Nat} {p : Nat} {c : Nat → Nat} {m : MS} {u : CS} (R : RP (some p) c m u) {v1 : Int32} {v2 : Int32} {v3 : Int64} {v5 : Int64} : RF 1 (some p) VE c u (fb_Ma_arithmetic_69 N () u 55 v1 v2 v3 v5) (hb_Ma_arithmetic_69 N () m p v1 v2 v3 v5) := by
  unfold fb_Ma_arithmetic_69 hb_Ma_arithmetic_69
  exact (yb_Ma_arithmetic_74 R)
theorem yb_Ma_arithmetic_33 {N : Nat} {p : Nat} {c : Nat → Nat} {m : MS} {u : CS} (R : RP (some p) c m u) {v1 : Int32} {t0 : Int32} : RF 1 (some p) VE c u (fb_Ma_arithmetic_33 N () u 55 v1 t0) (hb_Ma_arithmetic_33 N () m p v1 t0) := by
  unfold fb_Ma_arithmetic_33 hb_Ma_arithmetic_33
  refine rf_bo (gR_M4 R) ?_
  refine rf_soF R.md (fun j5 h_j5 => ?_)
  refine rf_ck (io_F R h_j5) ?_
  refine rf_bx0 (rf_gz (ym_Fr_below R h_j5) (by omega)) (fun u4' u4 r4 R_u4 => ?_)
  refine rf_gw ?_
  refine rf_bo (gR_M4 R_u4) ?_
  refine rf_soF R_u4.md (fun j8 h_j8 => ?_)
  refine rf_ck (io_F R_u4 h_j8) ?_
  refine rf_bx0 (rf_gz (ym_Fr_below R_u4 h_j8) (by omega)) (fun u7' u7 r7 R_u7 => ?_)
  refine rf_gw ?_
  refine rf_br ?_ ?_
  · exact (yb_Ma_arithmetic_69 R_u7)
  · refine rf_br ?_ ?_
    · exact (yb_Ma_arithmetic_69 R_u7)
    · exact (yb_Ma_arithmetic_74 R_u7)
theorem yb_Ma_arithmetic_32 {N : Nat} {p : Nat} {c : Nat → Nat} {m : MS} {u : CS} (R : RP (some p) c m u) {v1 : Int32} : RF 1 (some p) VE c u (fb_Ma_arithmetic_32 N () u 55 v1) (hb_Ma_arithmetic_32 N () m p v1) := by
  unfold fb_Ma_arithmetic_32 hb_Ma_arithmetic_32
  exact (yb_Ma_arithmetic_33 R)
theorem yb_Ma_arithmetic_0 {N : Nat} {p : Nat} {c : Nat → Nat} {m : MS} {u : CS} (R : RP (some p) c m u) {v1 : Int32} : RF 1 (some p) VE c u (fb_Ma_arithmetic_0 N () u 55 v1) (hb_Ma_arithmetic_0 N () m p v1) := by
  unfold fb_Ma_arithmetic_0 hb_Ma_arithmetic_0
  refine rf_bo (gR_M4 R) ?_
  refine rf_soF R.md (fun j11 h_j11 => ?_)
  refine rf_ck (io_F R h_j11) ?_
  refine rf_bx0 (rf_gz (ym_Fr_below R h_j11) (by omega)) (fun u10' u10 r10 R_u10 => ?_)
  refine rf_gw ?_
  refine rf_bx0 (rf_gz (ym_Te_tag R_u10) (by omega)) (fun u12' u12 r12 R_u12 => ?_)
  refine rf_gw ?_
  refine rf_br ?_ ?_
  · refine rf_bo (gR_M4 R_u12) ?_
    refine rf_soF R_u12.md (fun j15 h_j15 => ?_)
    refine rf_ck (io_F R_u12 h_j15) ?_
    refine rf_bx0 (rf_gz (ym_Fr_below R_u12 h_j15) (by omega)) (fun u14' u14 r14 R_u14 => ?_)
    refine rf_gw ?_
    refine rf_bx0 (rf_gz (ym_Te_tag R_u14) (by omega)) (fun u16' u16 r16 R_u16 => ?_)
    refine rf_gw ?_
    refine rf_br ?_ ?_
    · exact (yb_Ma_arithmetic_33 R_u16)
    · exact (yb_Ma_arithmetic_32 R_u16)
  · exact (yb_Ma_arithmetic_32 R_u12)
theorem ym_Ma_arithmetic {N : Nat} {p : Nat} {c : Nat → Nat} {m : MS} {u : CS} (R : RP (some p) c m u) {v1 : Int32} : RF 1 (some p) VE c u (fm_Ma_arithmetic N u 55 v1) (hm_Ma_arithmetic N m p v1) := yb_Ma_arithmetic_0 (N := N) R
theorem yb_Ma_negate_0 {N : Nat} {p : Nat} {c : Nat → Nat} {m : MS} {u : CS} (R : RP (some p) c m u) : RF 1 (some p) VE c u (fb_Ma_negate_0 N () u 55) (hb_Ma_negate_0 N () m p) := by
  unfold fb_Ma_negate_0 hb_Ma_negate_0
  refine rf_bo (gR_M4 R) ?_
  refine rf_soF R.md (fun j3 h_j3 => ?_)
  refine rf_ck (io_F R h_j3) ?_
  refine rf_bx0 (rf_gz (ym_Fr_below R h_j3) (by omega)) (fun u2' u2 r2 R_u2 => ?_)
  refine rf_gw ?_
  refine rf_bx0 (rf_gz (ym_Te_tag R_u2) (by omega)) (fun u4' u4 r4 R_u4 => ?_)
  refine rf_gw ?_
  refine rf_br ?_ ?_
  · refine rf_bo (gR_M4 R_u4) ?_
    refine rf_soF R_u4.md (fun j7 h_j7 => ?_)
    refine rf_ck (io_F R_u4 h_j7) ?_
    refine rf_bx0 (rf_gz (ym_Fr_below R_u4 h_j7) (by omega)) (fun u6' u6 r6 R_u6 => ?_)
    refine rf_gw ?_
    refine rf_ck (ox_55 R_u6) ?_
    refine rf_ck (all1 (okR_s R_u6 (by decide))) ?_
    refine rf_bx (rf_gw (ym_Ma_number R_u6)) (by unfold zle; omega) (fun c_u8 u8' u8 r8 r8' R_u8 E_u8 v_u8 => ?_)
    cases v_u8
    refine rf_gw ?_
    exact rf_ret R_u8 rfl
  · refine rf_ck (ox_55 R_u4) ?_
    refine rf_bx0 (rf_gz (ym_Ma_wrong R_u4) (by omega)) (fun u9' u9 r9 R_u9 => ?_)
    refine rf_gw ?_
    exact rf_ret R_u9 rfl
theorem ym_Ma_negate {N : Nat} {p : Nat} {c : Nat → Nat} {m : MS} {u : CS} (R : RP (some p) c m u) : RF 1 (some p) VE c u (fm_Ma_negate N u 55) (hm_Ma_negate N m p) := yb_Ma_negate_0 (N := N) R
theorem yb_Ma_not_50 {N : Nat} {p : Nat} {c : Nat → Nat} {m : MS} {u : CS} (R : RP (some p) c m u) {t1 : Int32} {t2 : Int32} : RF 1 (some p) VE c u (fb_Ma_not_50 N () u 55 55 t1 t2) (hb_Ma_not_50 N () m p t1 t2) := by
  unfold fb_Ma_not_50 hb_Ma_not_50
  refine rf_bx0 (rf_gz (ym_Ma_truth R) (by omega)) (fun u1' u1 r1 R_u1 => ?_)
  refine rf_gw ?_
  refine rf_ck (ox_55 R_u1) ?_
  refine rf_ck (all1 (okR_s R_u1 (by decide))) ?_
  refine rf_bx (rf_gw (ym_Ma_answer R_u1)) (by unfold zle; omega) (fun c_u2 u2' u2 r2 r2' R_u2 E_u2 v_u2 => ?_)
  cases v_u2
  refine rf_gw ?_
  refine rf_bo (gx_55_5 R_u2) ?_
  refine rf_w (px_55_5 R_u2) (fun w4' w4 R_w4 => ?_)
  exact rf_ret R_w4 rfl
theorem yb_Ma_not_34 {N : Nat} {p : Nat} {c : Nat → Nat} {m : MS} {u : CS} (R : RP (some p) c m u) {v1 : Int64} : RF 1 (some p) VE c u (fb_Ma_not_34 N () u 55 v1) (hb_Ma_not_34 N () m p v1) := by
  unfold fb_Ma_not_34 hb_Ma_not_34
  refine rf_bx0 (rf_gz (ym_Ma_atom R) (by omega)) (fun u5' u5 r5 R_u5 => ?_)
  refine rf_gw ?_
  refine rf_br ?_ ?_
  · exact (yb_Ma_not_50 R_u5)
  · exact (yb_Ma_not_50 R_u5)
theorem yb_Ma_not_0 {N : Nat} {p : Nat} {c : Nat → Nat} {m : MS} {u : CS} (R : RP (some p) c m u) : RF 1 (some p) VE c u (fb_Ma_not_0 N () u 55) (hb_Ma_not_0 N () m p) := by
  unfold fb_Ma_not_0 hb_Ma_not_0
  refine rf_bo (gR_M4 R) ?_
  refine rf_soF R.md (fun j8 h_j8 => ?_)
  refine rf_ck (io_F R h_j8) ?_
  refine rf_bx0 (rf_gz (ym_Fr_below R h_j8) (by omega)) (fun u7' u7 r7 R_u7 => ?_)
  refine rf_gw ?_
  refine rf_bx0 (rf_gz (ym_Ma_atom R_u7) (by omega)) (fun u9' u9 r9 R_u9 => ?_)
  refine rf_gw ?_
  refine rf_br ?_ ?_
  · exact (yb_Ma_not_34 R_u9)
  · refine rf_bx0 (rf_gz (ym_Ma_atom R_u9) (by omega)) (fun u10' u10 r10 R_u10 => ?_)
    refine rf_gw ?_
    refine rf_br ?_ ?_
    · exact (yb_Ma_not_34 R_u10)
    · refine rf_ck (ox_55 R_u10) ?_
      refine rf_bx0 (rf_gz (ym_Ma_wrong R_u10) (by omega)) (fun u11' u11 r11 R_u11 => ?_)
      refine rf_gw ?_
      exact rf_ret R_u11 rfl
theorem ym_Ma_not {N : Nat} {p : Nat} {c : Nat → Nat} {m : MS} {u : CS} (R : RP (some p) c m u) : RF 1 (some p) VE c u (fm_Ma_not N u 55) (hm_Ma_not N m p) := yb_Ma_not_0 (N := N) R
theorem yb_Ma_hinge_71 {N : Nat} {p : Nat} {c : Nat → Nat} {m : MS} {u : CS} (R : RP (some p) c m u) : RF 0 (some p) VE c u (fb_Ma_hinge_71 N () u) (hb_Ma_hinge_71 N () m p) := by
  unfold fb_Ma_hinge_71 hb_Ma_hinge_71
  exact rf_ret R rfl
theorem yb_Ma_hinge_36 {N : Nat} {p : Nat} {c : Nat → Nat} {m : MS} {u : CS} (R : RP (some p) c m u) {v1 : Int32} {v2 : Int32} {v3 : Int64} : RF 0 (some p) VE c u (fb_Ma_hinge_36 N () u 55 v1 v2 v3) (hb_Ma_hinge_36 N () m p v1 v2 v3) := by
  unfold fb_Ma_hinge_36 hb_Ma_hinge_36
  refine rf_bx0 (ym_Ma_truth R) (fun u1' u1 r1 R_u1 => ?_)
  refine rf_br ?_ ?_
  · refine rf_bo (gR_M4 R_u1) ?_
    refine rf_soF R_u1.md (fun j5 h_j5 => ?_)
    refine rf_ck (io_F R_u1 h_j5) ?_
    refine rf_bx0 (ym_Fr_drop R_u1 h_j5) (fun u4' u4 r4 R_u4 => ?_)
    refine rf_bo (gx_55_5 R_u4) ?_
    refine rf_w (px_55_5 R_u4) (fun w7' w7 R_w7 => ?_)
    exact (yb_Ma_hinge_71 R_w7)
  · refine rf_w (px_55_5 R_u1) (fun w2' w2 R_w2 => ?_)
    exact (yb_Ma_hinge_71 R_w2)
theorem yb_Ma_hinge_0 {N : Nat} {p : Nat} {c : Nat → Nat} {m : MS} {u : CS} (R : RP (some p) c m u) {v1 : Int32} {v2 : Int32} : RF 0 (some p) VE c u (fb_Ma_hinge_0 N () u 55 v1 v2) (hb_Ma_hinge_0 N () m p v1 v2) := by
  unfold fb_Ma_hinge_0 hb_Ma_hinge_0
  refine rf_bo (gR_M4 R) ?_
  refine rf_soF R.md (fun j10 h_j10 => ?_)
  refine rf_ck (io_F R h_j10) ?_
  refine rf_bx0 (ym_Fr_below R h_j10) (fun u9' u9 r9 R_u9 => ?_)
  refine rf_bx0 (ym_Ma_atom R_u9) (fun u11' u11 r11 R_u11 => ?_)
  refine rf_br ?_ ?_
  · exact (yb_Ma_hinge_36 R_u11)
  · refine rf_bx0 (ym_Ma_atom R_u11) (fun u12' u12 r12 R_u12 => ?_)
    refine rf_br ?_ ?_
    · exact (yb_Ma_hinge_36 R_u12)
    · refine rf_ck (ox_55 R_u12) ?_
      refine rf_bx0 (ym_Ma_wrong R_u12) (fun u13' u13 r13 R_u13 => ?_)
      exact (yb_Ma_hinge_71 R_u13)
theorem ym_Ma_hinge {N : Nat} {p : Nat} {c : Nat → Nat} {m : MS} {u : CS} (R : RP (some p) c m u) {v1 : Int32} {v2 : Int32} : RF 0 (some p) VE c u (fm_Ma_hinge N u 55 v1 v2) (hm_Ma_hinge N m p v1 v2) := yb_Ma_hinge_0 (N := N) R
theorem yb_Fr_forget_0 {N : Nat} {o : Option Nat} {c : Nat → Nat} {m : MS} {u : CS} (R : RP o c m u) {v0 : Nat} {v0' : Nat} {v1 : Int32} (h_v0 : FVn c v0 v0') : RF 0 o VE c u (fb_Fr_forget_0 N () u v0 v1) (hb_Fr_forget_0 N () m v0' v1) := by
  unfold fb_Fr_forget_0 hb_Fr_forget_0
  refine rf_bo (gf_4 R h_v0) ?_
  refine rf_lt ?_
  refine rf_w (wf_4 R h_v0) (fun w3' w3 R_w3 => ?_)
  exact rf_ret R_w3 rfl
theorem ym_Fr_forget {N : Nat} {o : Option Nat} {c : Nat → Nat} {m : MS} {u : CS} (R : RP o c m u) {v0 : Nat} {v0' : Nat} {v1 : Int32} (h_v0 : FVn c v0 v0') : RF 0 o VE c u (fm_Fr_forget N u v0 v1) (hm_Fr_forget N m v0' v1) := yb_Fr_forget_0 (N := N) R h_v0
theorem yb_Ma_sendTo_34 {N : Nat} {p : Nat} {c : Nat → Nat} {m : MS} {u : CS} (R : RP (some p) c m u) {t0 : Option Nat} {t0' : Option Nat} (h_t0 : PVo c t0 t0') : RF 2 (some p) VE c u (fb_Ma_sendTo_34 N () u 55 t0) (hb_Ma_sendTo_34 N () m p t0') := by
  unfold fb_Ma_sendTo_34 hb_Ma_sendTo_34
  refine rf_br2 (PV_n h_t0) ?_ ?_
  · refine rf_ck (ox_55 R) ?_
    refine rf_bx0 (rf_gz (ym_Ma_wrong R) (by omega)) (fun u17' u17 r17 R_u17 => ?_)
    refine rf_gw ?_
    exact rf_ret R_u17 rfl
  · refine rf_bo (rx_55_1 R) ?_
    refine rf_bo (gR_M3 R) ?_
    refine rf_soP R.md (fun j3 h_j3 => ?_)
    refine rf_bo (gI_P0 R h_j3) ?_
    refine rf_bo (gR_M4 R) ?_
    refine rf_soF R.md (fun j7 h_j7 => ?_)
    refine rf_ck (io_F R h_j7) ?_
    refine rf_bx0 (rf_gz (ym_Fr_below R h_j7) (by omega)) (fun u6' u6 r6 R_u6 => ?_)
    refine rf_gw ?_
    refine rf_bo (gR_M3 R_u6) ?_
    refine rf_so ?_
    refine rf_ck (ox_47 R_u6) ?_
    refine rf_opt h_t0 (fun t0_j t0_q e1_t0 e2_t0 h_t0j => ?_)
    subst e1_t0
    refine rf_bx (rf_gz (ym_Wl_post R_u6 h_t0j (PV_s R_u6.md)) (by omega)) (by unfold zle; omega) (fun c_u9 u9' u9 r9 r9' R_u9 E_u9 v_u9 => ?_)
    cases v_u9
    replace h_t0j := E_u9.P h_t0j
    refine rf_gw ?_
    refine rf_bo (gR_M4 R_u9) ?_
    refine rf_soF R_u9.md (fun j13 h_j13 => ?_)
    refine rf_ck (io_F R_u9 h_j13) ?_
    refine rf_bx0 (rf_gz (ym_Fr_below R_u9 h_j13) (by omega)) (fun u12' u12 r12 R_u12 => ?_)
    refine rf_gw ?_
    refine rf_ck (ox_55 R_u12) ?_
    refine rf_ck (all2 (okR_P R_u12 h_t0j) (okR_s R_u12 (by decide))) ?_
    refine rf_bx (rf_gw (ym_Ma_answer R_u12)) (by unfold zle; omega) (fun c_u14 u14' u14 r14 r14' R_u14 E_u14 v_u14 => ?_)
    cases v_u14
    refine rf_gw ?_
    refine rf_bo (gx_55_5 R_u14) ?_
    refine rf_w (px_55_5 R_u14) (fun w16' w16 R_w16 => ?_)
    exact rf_ret R_w16 rfl
theorem yb_Ma_sendTo_0 {N : Nat} {p : Nat} {c : Nat → Nat} {m : MS} {u : CS} (R : RP (some p) c m u) : RF 2 (some p) VE c u (fb_Ma_sendTo_0 N () u 55) (hb_Ma_sendTo_0 N () m p) := by
  unfold fb_Ma_sendTo_0 hb_Ma_sendTo_0
  refine rf_bo (gR_M4 R) ?_
  refine rf_soF R.md (fun j20 h_j20 => ?_)
  refine rf_ck (io_F R h_j20) ?_
  refine rf_bx0 (rf_gz (ym_Fr_below R h_j20) (by omega)) (fun u19' u19 r19 R_u19 => ?_)
  refine rf_gw ?_
  refine rf_bx0 (rf_gz (ym_Te_tag R_u19) (by omega)) (fun u21' u21 r21 R_u21 => ?_)
  refine rf_gw ?_
  refine rf_br ?_ ?_
  · refine rf_bo (rx_55_1 R_u21) ?_
    refine rf_so ?_
    refine rf_ck (ox_47 R_u21) ?_
    refine rf_bxP (rf_gz (ym_Wl_named R_u21) (by omega)) (fun u24' u24 r24 r24' R_u24 h_r24 => ?_)
    refine rf_gw ?_
    exact (yb_Ma_sendTo_34 R_u24 h_r24)
  · refine rf_ck (ox_55 R_u21) ?_
    refine rf_bxP (rf_gz (ym_Ma_processAt R_u21) (by omega)) (fun u22' u22 r22 r22' R_u22 h_r22 => ?_)
    refine rf_gw ?_
    exact (yb_Ma_sendTo_34 R_u22 h_r22)
theorem ym_Ma_sendTo {N : Nat} {p : Nat} {c : Nat → Nat} {m : MS} {u : CS} (R : RP (some p) c m u) : RF 2 (some p) VE c u (fm_Ma_sendTo N u 55) (hm_Ma_sendTo N m p) := yb_Ma_sendTo_0 (N := N) R
theorem yb_Ma_join_106 {N : Nat} {p : Nat} {c : Nat → Nat} {m : MS} {u : CS} {G : (CS → Nat → Int32 → Int32 → Int64 → Int32 → Option (CS × Unit))} {G' : (MS → Nat → Int32 → Int32 → Int64 → Int32 → Option (MS × Unit))} (hG : ∀ (c : Nat → Nat) (m : MS) (u : CS) (v1 : Int32) (v2 : Int32) (v3 : Int64) (v5 : Int32), RP (some p) c m u → RF 2 (some p) VE c u (G u 55 v1 v2 v3 v5) (G' m p v1 v2 v3 v5)) (R : RP (some p) c m u) {v1 : Int32} {v2 : Int32} {v3 : Int64} {v5 : Int32} : RF 2 (some p) VE c u (fb_Ma_join_106 N G u 55 v1 v2 v3 v5) (hb_Ma_join_106 N G' m p v1 v2 v3 v5) := by
  unfold fb_Ma_join_106 hb_Ma_join_106
  refine rf_br ?_ ?_
  · refine rf_bo (gR_M4 R) ?_
    refine rf_soF R.md (fun j3 h_j3 => ?_)
    refine rf_ck (io_F R h_j3) ?_
    refine rf_bx0 (rf_gz (ym_Fr_below R h_j3) (by omega)) (fun u2' u2 r2 R_u2 => ?_)
    refine rf_gw ?_
    refine rf_ck (ox_55 R_u2) ?_
    refine rf_bx0 (rf_gz (ym_Ma_endList R_u2) (by omega)) (fun u4' u4 r4 R_u4 => ?_)
    refine rf_gw ?_
    refine rf_bx0 (rf_gz (ym_Te_make R_u4) (by omega)) (fun u5' u5 r5 R_u5 => ?_)
    refine rf_gw ?_
    refine rf_ck (ox_55 R_u5) ?_
    refine rf_ck (all1 (okR_s R_u5 (by decide))) ?_
    refine rf_bx (rf_gw (ym_Ma_answer R_u5)) (by unfold zle; omega) (fun c_u6 u6' u6 r6 r6' R_u6 E_u6 v_u6 => ?_)
    cases v_u6
    refine rf_gw ?_
    refine rf_bo (gx_55_5 R_u6) ?_
    refine rf_w (px_55_5 R_u6) (fun w8' w8 R_w8 => ?_)
    exact rf_ret R_w8 rfl
  · refine rf_bo (gR_M3 R) ?_
    refine rf_soP R.md (fun j10 h_j10 => ?_)
    refine rf_bo (gR_P2 R h_j10) ?_
    refine rf_bo (gR_M3 R) ?_
    refine rf_soP R.md (fun j13 h_j13 => ?_)
    refine rf_bo (gR_P2 R h_j13) ?_
    refine rf_so ?_
    refine rf_ai (aq_2 R h_j13.1) ?_
    refine rf_so ?_
    refine rf_wk (sq_2 R h_j10.1) (fun w18' w18 R_w18 => ?_)
    refine rf_bo (gR_M3 R_w18) ?_
    refine rf_soP R_w18.md (fun j20 h_j20 => ?_)
    refine rf_bo (gR_P2 R_w18 h_j20) ?_
    refine rf_bx0 (rf_gz (ym_Te_make R_w18) (by omega)) (fun u22' u22 r22 R_u22 => ?_)
    refine rf_gw ?_
    refine rf_so ?_
    refine rf_wk (sq_2 R_u22 h_j20.1) (fun w24' w24 R_w24 => ?_)
    refine rf_bo (gR_M3 R_w24) ?_
    refine rf_soP R_w24.md (fun j26 h_j26 => ?_)
    refine rf_bo (gR_P2 R_w24 h_j26) ?_
    refine rf_so ?_
    refine rf_ai (aq_2 R_w24 h_j26.1) ?_
    exact (hG _ _ _ _ _ _ _ R_w24)
theorem yb_Ma_join_68 {N : Nat} {p : Nat} {c : Nat → Nat} {m : MS} {u : CS} {G : (CS → Nat → Int32 → Int32 → Int64 → Int32 → Option (CS × Unit))} {G' : (MS → Nat → Int32 → Int32 → Int64 → Int32 → Option (MS × Unit))} (hG : ∀ (c : Nat → Nat) (m : MS) (u : CS) (v1 : Int32) (v2 : Int32) (v3 : Int64) (v5 : Int32), RP (some p) c m u → RF 2 (some p) VE c u (G u 55 v1 v2 v3 v5) (G' m p v1 v2 v3 v5)) (R : RP (some p) c m u) : RF 2 (some p) VE c u (fb_Ma_join_68 N G u 55) (hb_Ma_join_68 N G' m p) := by
  unfold fb_Ma_join_68 hb_Ma_join_68
  refine rf_ck (ox_55 R) ?_
  refine rf_bx0 (rf_gz (ym_Ma_wrong R) (by omega)) (fun u30' u30 r30 R_u30 => ?_)
  refine rf_gw ?_
  exact rf_ret R_u30 rfl
theorem yb_Ma_join_0 {N : Nat} {p : Nat} {c : Nat → Nat} {m : MS} {u : CS} {G : (CS → Nat → Int32 → Int32 → Int64 → Int32 → Option (CS × Unit))} {G' : (MS → Nat → Int32 → Int32 → Int64 → Int32 → Option (MS × Unit))} (hG : ∀ (c : Nat → Nat) (m : MS) (u : CS) (v1 : Int32) (v2 : Int32) (v3 : Int64) (v5 : Int32), RP (some p) c m u → RF 2 (some p) VE c u (G u 55 v1 v2 v3 v5) (G' m p v1 v2 v3 v5)) (R : RP (some p) c m u) : RF 2 (some p) VE c u (fb_Ma_join_0 N G u 55) (hb_Ma_join_0 N G' m p) := by
  unfold fb_Ma_join_0 hb_Ma_join_0
  refine rf_bo (rx_55_2 R) ?_
  refine rf_bo (gR_M3 R) ?_
  refine rf_soP R.md (fun j33 h_j33 => ?_)
  refine rf_bo (gR_P2 R h_j33) ?_
  refine rf_bo (gR_M4 R) ?_
  refine rf_soF R.md (fun j37 h_j37 => ?_)
  refine rf_ck (io_F R h_j37) ?_
  refine rf_bx0 (rf_gz (ym_Fr_below R h_j37) (by omega)) (fun u36' u36 r36 R_u36 => ?_)
  refine rf_gw ?_
  refine rf_so ?_
  refine rf_ck (ox_43 R_u36) ?_
  refine rf_bx0 (rf_gz (ym_Te_listLength R_u36 ⟨_, h_j33.1, rfl, rfl⟩) (by omega)) (fun u38' u38 r38 R_u38 => ?_)
  refine rf_gw ?_
  refine rf_br ?_ ?_
  · refine rf_bo (gR_M4 R_u38) ?_
    refine rf_soF R_u38.md (fun j50 h_j50 => ?_)
    refine rf_ck (io_F R_u38 h_j50) ?_
    refine rf_bx0 (rf_gz (ym_Fr_below R_u38 h_j50) (by omega)) (fun u49' u49 r49 R_u49 => ?_)
    refine rf_gw ?_
    refine rf_ck (ox_55 R_u49) ?_
    refine rf_ck (all1 (okR_s R_u49 (by decide))) ?_
    refine rf_bx (rf_gw (ym_Ma_answer R_u49)) (by unfold zle; omega) (fun c_u51 u51' u51 r51 r51' R_u51 E_u51 v_u51 => ?_)
    cases v_u51
    refine rf_gw ?_
    refine rf_bo (gx_55_5 R_u51) ?_
    refine rf_w (px_55_5 R_u51) (fun w53' w53 R_w53 => ?_)
    exact rf_ret R_w53 rfl
  · refine rf_br ?_ ?_
    · exact (yb_Ma_join_68 hG R_u38)
    · refine rf_ck (ox_55 R_u38) ?_
      refine rf_bx0 (rf_gz (ym_Ma_sizes R_u38) (by omega)) (fun u40' u40 r40 R_u40 => ?_)
      refine rf_gw ?_
      refine rf_br ?_ ?_
      · refine rf_ck (ox_55 R_u40) ?_
        refine rf_bx (rf_gz (ym_Ma_room R_u40) (by omega)) (by unfold zle; omega) (fun c_u41 u41' u41 r41 r41' R_u41 E_u41 v_u41 => ?_)
        cases v_u41
        refine rf_gw ?_
        refine rf_br ?_ ?_
        · exact rf_ret R_u41 rfl
        · refine rf_bo (gR_M3 R_u41) ?_
          refine rf_soP R_u41.md (fun j43 h_j43 => ?_)
          refine rf_bo (gq_4 R_u41 h_j43) ?_
          refine rf_bo (gR_M4 R_u41) ?_
          refine rf_soF R_u41.md (fun j47 h_j47 => ?_)
          refine rf_ck (io_F R_u41 h_j47) ?_
          refine rf_bx0 (rf_gz (ym_Fr_below R_u41 h_j47) (by omega)) (fun u46' u46 r46 R_u46 => ?_)
          refine rf_gw ?_
          exact (hG _ _ _ _ _ _ _ R_u46)
      · exact (yb_Ma_join_68 hG R_u40)
theorem yg_Ma_join {N : Nat} {p : Nat} : ∀ n, (∀ (c : Nat → Nat) (m : MS) (u : CS) (v1 : Int32) (v2 : Int32) (v3 : Int64) (v5 : Int32), RP (some p) c m u → RF 2 (some p) VE c u ((gg_Ma_join N n) u 55 v1 v2 v3 v5) ((hg_Ma_join N n) m p v1 v2 v3 v5)) := by
  intro n
  induction n with
  | zero => exact fun c m u v1 v2 v3 v5 R => rf_none
  | succ n ih => exact fun c m u v1 v2 v3 v5 R => yb_Ma_join_106 (N := N) ih R
theorem ym_Ma_join {N : Nat} {p : Nat} {c : Nat → Nat} {m : MS} {u : CS} (R : RP (some p) c m u) : RF 2 (some p) VE c u (fm_Ma_join N u 55) (hm_Ma_join N m p) := yb_Ma_join_0 (N := N) (yg_Ma_join (N := N) N) R
theorem yb_Ma_markGone_188 {N : Nat} {p : Nat} {c : Nat → Nat} {m : MS} {u : CS} {G : (CS → Nat → Int32 → Int32 → Option (CS × Int32)) × (CS → Nat → Int32 → Int32 → Int64 → Int32 → Option (CS × Int32)) × (CS → Nat → Int32 → Int32 → Int64 → Int32 → Int64 → Int32 → Option (CS × Int32))} {G' : (MS → Nat → Int32 → Int32 → Option (MS × Int32)) × (MS → Nat → Int32 → Int32 → Int64 → Int32 → Option (MS × Int32)) × (MS → Nat → Int32 → Int32 → Int64 → Int32 → Int64 → Int32 → Option (MS × Int32))} (hG1 : ∀ (c : Nat → Nat) (m : MS) (u : CS) (v1 : Int32) (v2 : Int32), RP (some p) c m u → RF 0 (some p) VE c u (G.1 u 55 v1 v2) (G'.1 m p v1 v2)) (hG2 : ∀ (c : Nat → Nat) (m : MS) (u : CS) (v1 : Int32) (v2 : Int32) (v3 : Int64) (v5 : Int32), RP (some p) c m u → RF 0 (some p) VE c u (G.2.1 u 55 v1 v2 v3 v5) (G'.2.1 m p v1 v2 v3 v5)) (hG3 : ∀ (c : Nat → Nat) (m : MS) (u : CS) (v1 : Int32) (v2 : Int32) (v3 : Int64) (v5 : Int32) (v6 : Int64) (v8 : Int32), RP (some p) c m u → RF 0 (some p) VE c u (G.2.2 u 55 v1 v2 v3 v5 v6 v8) (G'.2.2 m p v1 v2 v3 v5 v6 v8)) (R : RP (some p) c m u) {v2 : Int32} : RF 0 (some p) VE c u (fb_Ma_markGone_188 N G u v2) (hb_Ma_markGone_188 N G' m p v2) := by
  unfold fb_Ma_markGone_188 hb_Ma_markGone_188
  exact rf_ret R rfl
theorem yb_Ma_markGone_169 {N : Nat} {p : Nat} {c : Nat → Nat} {m : MS} {u : CS} {G : (CS → Nat → Int32 → Int32 → Option (CS × Int32)) × (CS → Nat → Int32 → Int32 → Int64 → Int32 → Option (CS × Int32)) × (CS → Nat → Int32 → Int32 → Int64 → Int32 → Int64 → Int32 → Option (CS × Int32))} {G' : (MS → Nat → Int32 → Int32 → Option (MS × Int32)) × (MS → Nat → Int32 → Int32 → Int64 → Int32 → Option (MS × Int32)) × (MS → Nat → Int32 → Int32 → Int64 → Int32 → Int64 → Int32 → Option (MS × Int32))} (hG1 : ∀ (c : Nat → Nat) (m : MS) (u : CS) (v1 : Int32) (v2 : Int32), RP (some p) c m u → RF 0 (some p) VE c u (G.1 u 55 v1 v2) (G'.1 m p v1 v2)) (hG2 : ∀ (c : Nat → Nat) (m : MS) (u : CS) (v1 : Int32) (v2 : Int32) (v3 : Int64) (v5 : Int32), RP (some p) c m u → RF 0 (some p) VE c u (G.2.1 u 55 v1 v2 v3 v5) (G'.2.1 m p v1 v2 v3 v5)) (hG3 : ∀ (c : Nat → Nat) (m : MS) (u : CS) (v1 : Int32) (v2 : Int32) (v3 : Int64) (v5 : Int32) (v6 : Int64) (v8 : Int32), RP (some p) c m u → RF 0 (some p) VE c u (G.2.2 u 55 v1 v2 v3 v5 v6 v8) (G'.2.2 m p v1 v2 v3 v5 v6 v8)) (R : RP (some p) c m u) {v1 : Int32} {v2 : Int32} {v3 : Int64} {v5 : Int32} : RF 0 (some p) VE c u (fb_Ma_markGone_169 N G u 55 v1 v2 v3 v5) (hb_Ma_markGone_169 N G' m p v1 v2 v3 v5) := by
  unfold fb_Ma_markGone_169 hb_Ma_markGone_169
  refine rf_bo (gR_M3 R) ?_
  refine rf_soP R.md (fun j2 h_j2 => ?_)
  refine rf_bo (gR_P2 R h_j2) ?_
  refine rf_so ?_
  refine rf_ai (aq_2 R h_j2.1) ?_
  exact (hG2 _ _ _ _ _ _ _ R)
theorem yb_Ma_markGone_148 {N : Nat} {p : Nat} {c : Nat → Nat} {m : MS} {u : CS} {G : (CS → Nat → Int32 → Int32 → Option (CS × Int32)) × (CS → Nat → Int32 → Int32 → Int64 → Int32 → Option (CS × Int32)) × (CS → Nat → Int32 → Int32 → Int64 → Int32 → Int64 → Int32 → Option (CS × Int32))} {G' : (MS → Nat → Int32 → Int32 → Option (MS × Int32)) × (MS → Nat → Int32 → Int32 → Int64 → Int32 → Option (MS × Int32)) × (MS → Nat → Int32 → Int32 → Int64 → Int32 → Int64 → Int32 → Option (MS × Int32))} (hG1 : ∀ (c : Nat → Nat) (m : MS) (u : CS) (v1 : Int32) (v2 : Int32), RP (some p) c m u → RF 0 (some p) VE c u (G.1 u 55 v1 v2) (G'.1 m p v1 v2)) (hG2 : ∀ (c : Nat → Nat) (m : MS) (u : CS) (v1 : Int32) (v2 : Int32) (v3 : Int64) (v5 : Int32), RP (some p) c m u → RF 0 (some p) VE c u (G.2.1 u 55 v1 v2 v3 v5) (G'.2.1 m p v1 v2 v3 v5)) (hG3 : ∀ (c : Nat → Nat) (m : MS) (u : CS) (v1 : Int32) (v2 : Int32) (v3 : Int64) (v5 : Int32) (v6 : Int64) (v8 : Int32), RP (some p) c m u → RF 0 (some p) VE c u (G.2.2 u 55 v1 v2 v3 v5 v6 v8) (G'.2.2 m p v1 v2 v3 v5 v6 v8)) (R : RP (some p) c m u) {v1 : Int32} {v2 : Int32} {v3 : Int64} {v5 : Int32} {v6 : Int64} {v8 : Int32} : RF 0 (some p) VE c u (fb_Ma_markGone_148 N G u 55 v1 v2 v3 v5 v6 v8) (hb_Ma_markGone_148 N G' m p v1 v2 v3 v5 v6 v8) := by
  unfold fb_Ma_markGone_148 hb_Ma_markGone_148
  refine rf_bo (gR_M3 R) ?_
  refine rf_soP R.md (fun j7 h_j7 => ?_)
  refine rf_bo (gR_P2 R h_j7) ?_
  refine rf_so ?_
  refine rf_ai (aq_2 R h_j7.1) ?_
  exact (hG3 _ _ _ _ _ _ _ _ _ R)
theorem yb_Ma_markGone_66 {N : Nat} {p : Nat} {c : Nat → Nat} {m : MS} {u : CS} {G : (CS → Nat → Int32 → Int32 → Option (CS × Int32)) × (CS → Nat → Int32 → Int32 → Int64 → Int32 → Option (CS × Int32)) × (CS → Nat → Int32 → Int32 → Int64 → Int32 → Int64 → Int32 → Option (CS × Int32))} {G' : (MS → Nat → Int32 → Int32 → Option (MS × Int32)) × (MS → Nat → Int32 → Int32 → Int64 → Int32 → Option (MS × Int32)) × (MS → Nat → Int32 → Int32 → Int64 → Int32 → Int64 → Int32 → Option (MS × Int32))} (hG1 : ∀ (c : Nat → Nat) (m : MS) (u : CS) (v1 : Int32) (v2 : Int32), RP (some p) c m u → RF 0 (some p) VE c u (G.1 u 55 v1 v2) (G'.1 m p v1 v2)) (hG2 : ∀ (c : Nat → Nat) (m : MS) (u : CS) (v1 : Int32) (v2 : Int32) (v3 : Int64) (v5 : Int32), RP (some p) c m u → RF 0 (some p) VE c u (G.2.1 u 55 v1 v2 v3 v5) (G'.2.1 m p v1 v2 v3 v5)) (hG3 : ∀ (c : Nat → Nat) (m : MS) (u : CS) (v1 : Int32) (v2 : Int32) (v3 : Int64) (v5 : Int32) (v6 : Int64) (v8 : Int32), RP (some p) c m u → RF 0 (some p) VE c u (G.2.2 u 55 v1 v2 v3 v5 v6 v8) (G'.2.2 m p v1 v2 v3 v5 v6 v8)) (R : RP (some p) c m u) {v1 : Int32} {v2 : Int32} {v3 : Int64} {v5 : Int32} {v6 : Int64} {v8 : Int32} : RF 0 (some p) VE c u (fb_Ma_markGone_66 N G u 55 v1 v2 v3 v5 v6 v8) (hb_Ma_markGone_66 N G' m p v1 v2 v3 v5 v6 v8) := by
  unfold fb_Ma_markGone_66 hb_Ma_markGone_66
  refine rf_br ?_ ?_
  · exact (yb_Ma_markGone_169 hG1 hG2 hG3 R)
  · refine rf_bo (rx_55_2 R) ?_
    refine rf_so ?_
    refine rf_bo (rx_43_0 R) ?_
    refine rf_so ?_
    refine rf_ai (ax_44 R) ?_
    refine rf_br ?_ ?_
    · refine rf_bo (rx_55_2 R) ?_
      refine rf_bo (gR_M3 R) ?_
      refine rf_soP R.md (fun j18 h_j18 => ?_)
      refine rf_bo (gR_P2 R h_j18) ?_
      refine rf_bo (gR_M3 R) ?_
      refine rf_soP R.md (fun j21 h_j21 => ?_)
      refine rf_bo (gR_P2 R h_j21) ?_
      refine rf_so ?_
      refine rf_ai (aq_2 R h_j21.1) ?_
      refine rf_bo (gR_M3 R) ?_
      refine rf_soP R.md (fun j26 h_j26 => ?_)
      refine rf_bo (gR_P2 R h_j26) ?_
      refine rf_so ?_
      refine rf_ai (aq_2 R h_j26.1) ?_
      refine rf_so ?_
      refine rf_ck (ox_43 R) ?_
      refine rf_bx0 (ym_Te_order R ⟨_, h_j18.1, rfl, rfl⟩) (fun u30' u30 r30 R_u30 => ?_)
      refine rf_br ?_ ?_
      · refine rf_bo (rx_55_2 R_u30) ?_
        refine rf_so ?_
        refine rf_bo (rx_43_0 R_u30) ?_
        refine rf_so ?_
        refine rf_wk (sx_44 R_u30) (fun w36' w36 R_w36 => ?_)
        refine rf_lt ?_
        exact (yb_Ma_markGone_169 hG1 hG2 hG3 R_w36)
      · exact (yb_Ma_markGone_148 hG1 hG2 hG3 R_u30)
    · exact (yb_Ma_markGone_148 hG1 hG2 hG3 R)
theorem yb_Ma_markGone_37 {N : Nat} {p : Nat} {c : Nat → Nat} {m : MS} {u : CS} {G : (CS → Nat → Int32 → Int32 → Option (CS × Int32)) × (CS → Nat → Int32 → Int32 → Int64 → Int32 → Option (CS × Int32)) × (CS → Nat → Int32 → Int32 → Int64 → Int32 → Int64 → Int32 → Option (CS × Int32))} {G' : (MS → Nat → Int32 → Int32 → Option (MS × Int32)) × (MS → Nat → Int32 → Int32 → Int64 → Int32 → Option (MS × Int32)) × (MS → Nat → Int32 → Int32 → Int64 → Int32 → Int64 → Int32 → Option (MS × Int32))} (hG1 : ∀ (c : Nat → Nat) (m : MS) (u : CS) (v1 : Int32) (v2 : Int32), RP (some p) c m u → RF 0 (some p) VE c u (G.1 u 55 v1 v2) (G'.1 m p v1 v2)) (hG2 : ∀ (c : Nat → Nat) (m : MS) (u : CS) (v1 : Int32) (v2 : Int32) (v3 : Int64) (v5 : Int32), RP (some p) c m u → RF 0 (some p) VE c u (G.2.1 u 55 v1 v2 v3 v5) (G'.2.1 m p v1 v2 v3 v5)) (hG3 : ∀ (c : Nat → Nat) (m : MS) (u : CS) (v1 : Int32) (v2 : Int32) (v3 : Int64) (v5 : Int32) (v6 : Int64) (v8 : Int32), RP (some p) c m u → RF 0 (some p) VE c u (G.2.2 u 55 v1 v2 v3 v5 v6 v8) (G'.2.2 m p v1 v2 v3 v5 v6 v8)) (R : RP (some p) c m u) {v1 : Int32} {v2 : Int32} {v3 : Int64} {v5 : Int32} : RF 0 (some p) VE c u (fb_Ma_markGone_37 N G u 55 v1 v2 v3 v5) (hb_Ma_markGone_37 N G' m p v1 v2 v3 v5) := by
  unfold fb_Ma_markGone_37 hb_Ma_markGone_37
  refine rf_br ?_ ?_
  · exact (yb_Ma_markGone_188 hG1 hG2 hG3 R)
  · refine rf_bx0 (ym_Te_tag R) (fun u38' u38 r38 R_u38 => ?_)
    refine rf_br ?_ ?_
    · refine rf_bo (gR_M4 R_u38) ?_
      refine rf_soF R_u38.md (fun j41 h_j41 => ?_)
      refine rf_ck (io_F R_u38 h_j41) ?_
      refine rf_bx0 (ym_Fr_below R_u38 h_j41) (fun u40' u40 r40 R_u40 => ?_)
      exact (hG3 _ _ _ _ _ _ _ _ _ R_u40)
    · exact (yb_Ma_markGone_188 hG1 hG2 hG3 R_u38)
theorem yb_Ma_markGone_2 {N : Nat} {p : Nat} {c : Nat → Nat} {m : MS} {u : CS} {G : (CS → Nat → Int32 → Int32 → Option (CS × Int32)) × (CS → Nat → Int32 → Int32 → Int64 → Int32 → Option (CS × Int32)) × (CS → Nat → Int32 → Int32 → Int64 → Int32 → Int64 → Int32 → Option (CS × Int32))} {G' : (MS → Nat → Int32 → Int32 → Option (MS × Int32)) × (MS → Nat → Int32 → Int32 → Int64 → Int32 → Option (MS × Int32)) × (MS → Nat → Int32 → Int32 → Int64 → Int32 → Int64 → Int32 → Option (MS × Int32))} (hG1 : ∀ (c : Nat → Nat) (m : MS) (u : CS) (v1 : Int32) (v2 : Int32), RP (some p) c m u → RF 0 (some p) VE c u (G.1 u 55 v1 v2) (G'.1 m p v1 v2)) (hG2 : ∀ (c : Nat → Nat) (m : MS) (u : CS) (v1 : Int32) (v2 : Int32) (v3 : Int64) (v5 : Int32), RP (some p) c m u → RF 0 (some p) VE c u (G.2.1 u 55 v1 v2 v3 v5) (G'.2.1 m p v1 v2 v3 v5)) (hG3 : ∀ (c : Nat → Nat) (m : MS) (u : CS) (v1 : Int32) (v2 : Int32) (v3 : Int64) (v5 : Int32) (v6 : Int64) (v8 : Int32), RP (some p) c m u → RF 0 (some p) VE c u (G.2.2 u 55 v1 v2 v3 v5 v6 v8) (G'.2.2 m p v1 v2 v3 v5 v6 v8)) (R : RP (some p) c m u) {v1 : Int32} {v2 : Int32} : RF 0 (some p) VE c u (fb_Ma_markGone_2 N G u 55 v1 v2) (hb_Ma_markGone_2 N G' m p v1 v2) := by
  unfold fb_Ma_markGone_2 hb_Ma_markGone_2
  refine rf_br ?_ ?_
  · refine rf_bo (gR_M4 R) ?_
    refine rf_soF R.md (fun j44 h_j44 => ?_)
    refine rf_ck (io_F R h_j44) ?_
    refine rf_bx0 (ym_Fr_below R h_j44) (fun u43' u43 r43 R_u43 => ?_)
    exact (hG2 _ _ _ _ _ _ _ R_u43)
  · refine rf_bo (rx_55_2 R) ?_
    refine rf_so ?_
    refine rf_bo (rx_43_0 R) ?_
    refine rf_so ?_
    refine rf_wk (sx_44 R) (fun w49' w49 R_w49 => ?_)
    exact (hG1 _ _ _ _ _ R_w49)
theorem yb_Ma_markGone_0 {N : Nat} {p : Nat} {c : Nat → Nat} {m : MS} {u : CS} {G : (CS → Nat → Int32 → Int32 → Option (CS × Int32)) × (CS → Nat → Int32 → Int32 → Int64 → Int32 → Option (CS × Int32)) × (CS → Nat → Int32 → Int32 → Int64 → Int32 → Int64 → Int32 → Option (CS × Int32))} {G' : (MS → Nat → Int32 → Int32 → Option (MS × Int32)) × (MS → Nat → Int32 → Int32 → Int64 → Int32 → Option (MS × Int32)) × (MS → Nat → Int32 → Int32 → Int64 → Int32 → Int64 → Int32 → Option (MS × Int32))} (hG1 : ∀ (c : Nat → Nat) (m : MS) (u : CS) (v1 : Int32) (v2 : Int32), RP (some p) c m u → RF 0 (some p) VE c u (G.1 u 55 v1 v2) (G'.1 m p v1 v2)) (hG2 : ∀ (c : Nat → Nat) (m : MS) (u : CS) (v1 : Int32) (v2 : Int32) (v3 : Int64) (v5 : Int32), RP (some p) c m u → RF 0 (some p) VE c u (G.2.1 u 55 v1 v2 v3 v5) (G'.2.1 m p v1 v2 v3 v5)) (hG3 : ∀ (c : Nat → Nat) (m : MS) (u : CS) (v1 : Int32) (v2 : Int32) (v3 : Int64) (v5 : Int32) (v6 : Int64) (v8 : Int32), RP (some p) c m u → RF 0 (some p) VE c u (G.2.2 u 55 v1 v2 v3 v5 v6 v8) (G'.2.2 m p v1 v2 v3 v5 v6 v8)) (R : RP (some p) c m u) {v1 : Int32} : RF 0 (some p) VE c u (fb_Ma_markGone_0 N G u 55 v1) (hb_Ma_markGone_0 N G' m p v1) := by
  unfold fb_Ma_markGone_0 hb_Ma_markGone_0
  exact (hG1 _ _ _ _ _ R)
theorem yg_Ma_markGone {N : Nat} {p : Nat} : ∀ n, (∀ (c : Nat → Nat) (m : MS) (u : CS) (v1 : Int32) (v2 : Int32), RP (some p) c m u → RF 0 (some p) VE c u ((gg_Ma_markGone N n).1 u 55 v1 v2) ((hg_Ma_markGone N n).1 m p v1 v2)) ∧ (∀ (c : Nat → Nat) (m : MS) (u : CS) (v1 : Int32) (v2 : Int32) (v3 : Int64) (v5 : Int32), RP (some p) c m u → RF 0 (some p) VE c u ((gg_Ma_markGone N n).2.1 u 55 v1 v2 v3 v5) ((hg_Ma_markGone N n).2.1 m p v1 v2 v3 v5)) ∧ (∀ (c : Nat → Nat) (m : MS) (u : CS) (v1 : Int32) (v2 : Int32) (v3 : Int64) (v5 : Int32) (v6 : Int64) (v8 : Int32), RP (some p) c m u → RF 0 (some p) VE c u ((gg_Ma_markGone N n).2.2 u 55 v1 v2 v3 v5 v6 v8) ((hg_Ma_markGone N n).2.2 m p v1 v2 v3 v5 v6 v8)) := by
  intro n
  induction n with
  | zero => exact ⟨fun c m u v1 v2 R => rf_none, fun c m u v1 v2 v3 v5 R => rf_none, fun c m u v1 v2 v3 v5 v6 v8 R => rf_none⟩
  | succ n ih => exact ⟨fun c m u v1 v2 R => yb_Ma_markGone_2 (N := N) ih.1 ih.2.1 ih.2.2 R, fun c m u v1 v2 v3 v5 R => yb_Ma_markGone_37 (N := N) ih.1 ih.2.1 ih.2.2 R, fun c m u v1 v2 v3 v5 v6 v8 R => yb_Ma_markGone_66 (N := N) ih.1 ih.2.1 ih.2.2 R⟩
theorem ym_Ma_markGone {N : Nat} {p : Nat} {c : Nat → Nat} {m : MS} {u : CS} (R : RP (some p) c m u) {v1 : Int32} : RF 0 (some p) VE c u (fm_Ma_markGone N u 55 v1) (hm_Ma_markGone N m p v1) := yb_Ma_markGone_0 (N := N) (yg_Ma_markGone (N := N) N).1 (yg_Ma_markGone (N := N) N).2.1 (yg_Ma_markGone (N := N) N).2.2 R
theorem yb_Ma_without_281 {N : Nat} {p : Nat} {c : Nat → Nat} {m : MS} {u : CS} {G : (CS → Nat → Int32 → Int32 → Int32 → Option (CS × Unit)) × (CS → Nat → Int32 → Int32 → Int32 → Int64 → Int32 → Option (CS × Unit))} {G' : (MS → Nat → Int32 → Int32 → Int32 → Option (MS × Unit)) × (MS → Nat → Int32 → Int32 → Int32 → Int64 → Int32 → Option (MS × Unit))} (hG1 : ∀ (c : Nat → Nat) (m : MS) (u : CS) (v2 : Int32) (v3 : Int32) (v4 : Int32), RP (some p) c m u → RF 2 (some p) VE c u (G.1 u 55 v2 v3 v4) (G'.1 m p v2 v3 v4)) (hG2 : ∀ (c : Nat → Nat) (m : MS) (u : CS) (v2 : Int32) (v4 : Int32) (v5 : Int32) (v6 : Int64) (v8 : Int32), RP (some p) c m u → RF 2 (some p) VE c u (G.2 u 55 v2 v4 v5 v6 v8) (G'.2 m p v2 v4 v5 v6 v8)) (R : RP (some p) c m u) {t1 : Int32} {t2 : Int64} : RF 2 (some p) VE c u (fb_Ma_without_281 N G u 55 55 t1 t2) (hb_Ma_without_281 N G' m p t1 t2) := by
  unfold fb_Ma_without_281 hb_Ma_without_281
  refine rf_ck (ox_55 R) ?_
  refine rf_ck (all1 (okR_s R (by decide))) ?_
  refine rf_bx (rf_gw (ym_Ma_answer R)) (by unfold zle; omega) (fun c_u1 u1' u1 r1 r1' R_u1 E_u1 v_u1 => ?_)
  cases v_u1
  refine rf_gw ?_
  refine rf_bo (gx_55_5 R_u1) ?_
  refine rf_w (px_55_5 R_u1) (fun w3' w3 R_w3 => ?_)
  exact rf_ret R_w3 rfl
theorem yb_Ma_without_231 {N : Nat} {p : Nat} {c : Nat → Nat} {m : MS} {u : CS} {G : (CS → Nat → Int32 → Int32 → Int32 → Option (CS × Unit)) × (CS → Nat → Int32 → Int32 → Int32 → Int64 → Int32 → Option (CS × Unit))} {G' : (MS → Nat → Int32 → Int32 → Int32 → Option (MS × Unit)) × (MS → Nat → Int32 → Int32 → Int32 → Int64 → Int32 → Option (MS × Unit))} (hG1 : ∀ (c : Nat → Nat) (m : MS) (u : CS) (v2 : Int32) (v3 : Int32) (v4 : Int32), RP (some p) c m u → RF 2 (some p) VE c u (G.1 u 55 v2 v3 v4) (G'.1 m p v2 v3 v4)) (hG2 : ∀ (c : Nat → Nat) (m : MS) (u : CS) (v2 : Int32) (v4 : Int32) (v5 : Int32) (v6 : Int64) (v8 : Int32), RP (some p) c m u → RF 2 (some p) VE c u (G.2 u 55 v2 v4 v5 v6 v8) (G'.2 m p v2 v4 v5 v6 v8)) (R : RP (some p) c m u) {v2 : Int32} {v4 : Int32} {v5 : Int32} {v6 : Int64} {v8 : Int32} : RF 2 (some p) VE c u (fb_Ma_without_231 N G u 55 v2 v4 v5 v6 v8) (hb_Ma_without_231 N G' m p v2 v4 v5 v6 v8) := by
  unfold fb_Ma_without_231 hb_Ma_without_231
  refine rf_bo (gR_M3 R) ?_
  refine rf_soP R.md (fun j5 h_j5 => ?_)
  refine rf_bo (gR_P2 R h_j5) ?_
  refine rf_so ?_
  refine rf_ai (aq_2 R h_j5.1) ?_
  exact (hG2 _ _ _ _ _ _ _ _ R)
theorem yb_Ma_without_150 {N : Nat} {p : Nat} {c : Nat → Nat} {m : MS} {u : CS} {G : (CS → Nat → Int32 → Int32 → Int32 → Option (CS × Unit)) × (CS → Nat → Int32 → Int32 → Int32 → Int64 → Int32 → Option (CS × Unit))} {G' : (MS → Nat → Int32 → Int32 → Int32 → Option (MS × Unit)) × (MS → Nat → Int32 → Int32 → Int32 → Int64 → Int32 → Option (MS × Unit))} (hG1 : ∀ (c : Nat → Nat) (m : MS) (u : CS) (v2 : Int32) (v3 : Int32) (v4 : Int32), RP (some p) c m u → RF 2 (some p) VE c u (G.1 u 55 v2 v3 v4) (G'.1 m p v2 v3 v4)) (hG2 : ∀ (c : Nat → Nat) (m : MS) (u : CS) (v2 : Int32) (v4 : Int32) (v5 : Int32) (v6 : Int64) (v8 : Int32), RP (some p) c m u → RF 2 (some p) VE c u (G.2 u 55 v2 v4 v5 v6 v8) (G'.2 m p v2 v4 v5 v6 v8)) (R : RP (some p) c m u) {v2 : Int32} {v4 : Int32} {v5 : Int32} {v6 : Int64} {v8 : Int32} : RF 2 (some p) VE c u (fb_Ma_without_150 N G u 55 v2 v4 v5 v6 v8) (hb_Ma_without_150 N G' m p v2 v4 v5 v6 v8) := by
  unfold fb_Ma_without_150 hb_Ma_without_150
  refine rf_br ?_ ?_
  · refine rf_ck (ox_55 R) ?_
    refine rf_bx0 (rf_gz (ym_Ma_endList R) (by omega)) (fun u9' u9 r9 R_u9 => ?_)
    refine rf_gw ?_
    refine rf_br ?_ ?_
    · exact (yb_Ma_without_281 hG1 hG2 R_u9)
    · refine rf_bx0 (rf_gz (ym_Te_make R_u9) (by omega)) (fun u10' u10 r10 R_u10 => ?_)
      refine rf_gw ?_
      exact (yb_Ma_without_281 hG1 hG2 R_u10)
  · refine rf_bo (rx_55_2 R) ?_
    refine rf_so ?_
    refine rf_bo (rx_43_0 R) ?_
    refine rf_so ?_
    refine rf_ai (ax_44 R) ?_
    refine rf_br ?_ ?_
    · refine rf_bo (gR_M3 R) ?_
      refine rf_soP R.md (fun j17 h_j17 => ?_)
      refine rf_bo (gR_P2 R h_j17) ?_
      refine rf_bo (gR_M3 R) ?_
      refine rf_soP R.md (fun j20 h_j20 => ?_)
      refine rf_bo (gR_P2 R h_j20) ?_
      refine rf_so ?_
      refine rf_ai (aq_2 R h_j20.1) ?_
      refine rf_so ?_
      refine rf_wk (sq_2 R h_j17.1) (fun w25' w25 R_w25 => ?_)
      refine rf_bo (gR_M3 R_w25) ?_
      refine rf_soP R_w25.md (fun j27 h_j27 => ?_)
      refine rf_bo (gR_P2 R_w25 h_j27) ?_
      refine rf_bx0 (rf_gz (ym_Te_make R_w25) (by omega)) (fun u29' u29 r29 R_u29 => ?_)
      refine rf_gw ?_
      refine rf_so ?_
      refine rf_wk (sq_2 R_u29 h_j27.1) (fun w31' w31 R_w31 => ?_)
      exact (yb_Ma_without_231 hG1 hG2 R_w31)
    · exact (yb_Ma_without_231 hG1 hG2 R)
theorem yb_Ma_without_106 {N : Nat} {p : Nat} {c : Nat → Nat} {m : MS} {u : CS} {G : (CS → Nat → Int32 → Int32 → Int32 → Option (CS × Unit)) × (CS → Nat → Int32 → Int32 → Int32 → Int64 → Int32 → Option (CS × Unit))} {G' : (MS → Nat → Int32 → Int32 → Int32 → Option (MS × Unit)) × (MS → Nat → Int32 → Int32 → Int32 → Int64 → Int32 → Option (MS × Unit))} (hG1 : ∀ (c : Nat → Nat) (m : MS) (u : CS) (v2 : Int32) (v3 : Int32) (v4 : Int32), RP (some p) c m u → RF 2 (some p) VE c u (G.1 u 55 v2 v3 v4) (G'.1 m p v2 v3 v4)) (hG2 : ∀ (c : Nat → Nat) (m : MS) (u : CS) (v2 : Int32) (v4 : Int32) (v5 : Int32) (v6 : Int64) (v8 : Int32), RP (some p) c m u → RF 2 (some p) VE c u (G.2 u 55 v2 v4 v5 v6 v8) (G'.2 m p v2 v4 v5 v6 v8)) (R : RP (some p) c m u) {v2 : Int32} {v4 : Int32} {t0 : Int32} {t1 : Int32} : RF 2 (some p) VE c u (fb_Ma_without_106 N G u 55 v2 v4 t0 t1) (hb_Ma_without_106 N G' m p v2 v4 t0 t1) := by
  unfold fb_Ma_without_106 hb_Ma_without_106
  exact (hG1 _ _ _ _ _ _ R)
theorem yb_Ma_without_79 {N : Nat} {p : Nat} {c : Nat → Nat} {m : MS} {u : CS} {G : (CS → Nat → Int32 → Int32 → Int32 → Option (CS × Unit)) × (CS → Nat → Int32 → Int32 → Int32 → Int64 → Int32 → Option (CS × Unit))} {G' : (MS → Nat → Int32 → Int32 → Int32 → Option (MS × Unit)) × (MS → Nat → Int32 → Int32 → Int32 → Int64 → Int32 → Option (MS × Unit))} (hG1 : ∀ (c : Nat → Nat) (m : MS) (u : CS) (v2 : Int32) (v3 : Int32) (v4 : Int32), RP (some p) c m u → RF 2 (some p) VE c u (G.1 u 55 v2 v3 v4) (G'.1 m p v2 v3 v4)) (hG2 : ∀ (c : Nat → Nat) (m : MS) (u : CS) (v2 : Int32) (v4 : Int32) (v5 : Int32) (v6 : Int64) (v8 : Int32), RP (some p) c m u → RF 2 (some p) VE c u (G.2 u 55 v2 v4 v5 v6 v8) (G'.2 m p v2 v4 v5 v6 v8)) (R : RP (some p) c m u) {v2 : Int32} {v3 : Int32} {v4 : Int32} : RF 2 (some p) VE c u (fb_Ma_without_79 N G u 55 v2 v3 v4) (hb_Ma_without_79 N G' m p v2 v3 v4) := by
  unfold fb_Ma_without_79 hb_Ma_without_79
  refine rf_br ?_ ?_
  · refine rf_ck (ox_55 R) ?_
    refine rf_bx (rf_gz (ym_Ma_room R) (by omega)) (by unfold zle; omega) (fun c_u32 u32' u32 r32 r32' R_u32 E_u32 v_u32 => ?_)
    cases v_u32
    refine rf_gw ?_
    refine rf_br ?_ ?_
    · exact rf_ret R_u32 rfl
    · refine rf_bo (gR_M3 R_u32) ?_
      refine rf_soP R_u32.md (fun j34 h_j34 => ?_)
      refine rf_bo (gq_4 R_u32 h_j34) ?_
      refine rf_bo (gR_M4 R_u32) ?_
      refine rf_soF R_u32.md (fun j38 h_j38 => ?_)
      refine rf_ck (io_F R_u32 h_j38) ?_
      refine rf_bx0 (rf_gz (ym_Fr_below R_u32 h_j38) (by omega)) (fun u37' u37 r37 R_u37 => ?_)
      refine rf_gw ?_
      exact (hG2 _ _ _ _ _ _ _ _ R_u37)
  · refine rf_bo (rx_55_2 R) ?_
    refine rf_so ?_
    refine rf_bo (rx_43_0 R) ?_
    refine rf_so ?_
    refine rf_ai (ax_44 R) ?_
    refine rf_br ?_ ?_
    · exact (yb_Ma_without_106 hG1 hG2 R)
    · exact (yb_Ma_without_106 hG1 hG2 R)
theorem yb_Ma_without_61 {N : Nat} {p : Nat} {c : Nat → Nat} {m : MS} {u : CS} {G : (CS → Nat → Int32 → Int32 → Int32 → Option (CS × Unit)) × (CS → Nat → Int32 → Int32 → Int32 → Int64 → Int32 → Option (CS × Unit))} {G' : (MS → Nat → Int32 → Int32 → Int32 → Option (MS × Unit)) × (MS → Nat → Int32 → Int32 → Int32 → Int64 → Int32 → Option (MS × Unit))} (hG1 : ∀ (c : Nat → Nat) (m : MS) (u : CS) (v2 : Int32) (v3 : Int32) (v4 : Int32), RP (some p) c m u → RF 2 (some p) VE c u (G.1 u 55 v2 v3 v4) (G'.1 m p v2 v3 v4)) (hG2 : ∀ (c : Nat → Nat) (m : MS) (u : CS) (v2 : Int32) (v4 : Int32) (v5 : Int32) (v6 : Int64) (v8 : Int32), RP (some p) c m u → RF 2 (some p) VE c u (G.2 u 55 v2 v4 v5 v6 v8) (G'.2 m p v2 v4 v5 v6 v8)) (R : RP (some p) c m u) : RF 2 (some p) VE c u (fb_Ma_without_61 N G u 55) (hb_Ma_without_61 N G' m p) := by
  unfold fb_Ma_without_61 hb_Ma_without_61
  refine rf_ck (ox_55 R) ?_
  refine rf_bx0 (rf_gz (ym_Ma_wrong R) (by omega)) (fun u44' u44 r44 R_u44 => ?_)
  refine rf_gw ?_
  exact rf_ret R_u44 rfl
theorem yb_Ma_without_0 {N : Nat} {p : Nat} {c : Nat → Nat} {m : MS} {u : CS} {G : (CS → Nat → Int32 → Int32 → Int32 → Option (CS × Unit)) × (CS → Nat → Int32 → Int32 → Int32 → Int64 → Int32 → Option (CS × Unit))} {G' : (MS → Nat → Int32 → Int32 → Int32 → Option (MS × Unit)) × (MS → Nat → Int32 → Int32 → Int32 → Int64 → Int32 → Option (MS × Unit))} (hG1 : ∀ (c : Nat → Nat) (m : MS) (u : CS) (v2 : Int32) (v3 : Int32) (v4 : Int32), RP (some p) c m u → RF 2 (some p) VE c u (G.1 u 55 v2 v3 v4) (G'.1 m p v2 v3 v4)) (hG2 : ∀ (c : Nat → Nat) (m : MS) (u : CS) (v2 : Int32) (v4 : Int32) (v5 : Int32) (v6 : Int64) (v8 : Int32), RP (some p) c m u → RF 2 (some p) VE c u (G.2 u 55 v2 v4 v5 v6 v8) (G'.2 m p v2 v4 v5 v6 v8)) (R : RP (some p) c m u) : RF 2 (some p) VE c u (fb_Ma_without_0 N G u 55) (hb_Ma_without_0 N G' m p) := by
  unfold fb_Ma_without_0 hb_Ma_without_0
  refine rf_bo (rx_55_2 R) ?_
  refine rf_bo (gR_M3 R) ?_
  refine rf_soP R.md (fun j47 h_j47 => ?_)
  refine rf_bo (gR_P2 R h_j47) ?_
  refine rf_bo (gR_M4 R) ?_
  refine rf_soF R.md (fun j51 h_j51 => ?_)
  refine rf_ck (io_F R h_j51) ?_
  refine rf_bx0 (rf_gz (ym_Fr_below R h_j51) (by omega)) (fun u50' u50 r50 R_u50 => ?_)
  refine rf_gw ?_
  refine rf_so ?_
  refine rf_ck (ox_43 R_u50) ?_
  refine rf_bx0 (rf_gz (ym_Te_listLength R_u50 ⟨_, h_j47.1, rfl, rfl⟩) (by omega)) (fun u52' u52 r52 R_u52 => ?_)
  refine rf_gw ?_
  refine rf_br ?_ ?_
  · exact (yb_Ma_without_61 hG1 hG2 R_u52)
  · refine rf_br ?_ ?_
    · exact (yb_Ma_without_61 hG1 hG2 R_u52)
    · refine rf_bo (rx_55_2 R_u52) ?_
      refine rf_bo (gR_M3 R_u52) ?_
      refine rf_soP R_u52.md (fun j56 h_j56 => ?_)
      refine rf_bo (gR_P2 R_u52 h_j56) ?_
      refine rf_bo (gR_M4 R_u52) ?_
      refine rf_soF R_u52.md (fun j60 h_j60 => ?_)
      refine rf_ck (io_F R_u52 h_j60) ?_
      refine rf_bx0 (rf_gz (ym_Fr_below R_u52 h_j60) (by omega)) (fun u59' u59 r59 R_u59 => ?_)
      refine rf_gw ?_
      refine rf_so ?_
      refine rf_ck (ox_43 R_u59) ?_
      refine rf_bx0 (rf_gz (ym_Te_listLength R_u59 ⟨_, h_j56.1, rfl, rfl⟩) (by omega)) (fun u61' u61 r61 R_u61 => ?_)
      refine rf_gw ?_
      refine rf_br ?_ ?_
      · exact (yb_Ma_without_61 hG1 hG2 R_u61)
      · refine rf_ck (ox_55 R_u61) ?_
        refine rf_bx0 (rf_gz (ym_Ma_markGone R_u61) (by omega)) (fun u63' u63 r63 R_u63 => ?_)
        refine rf_gw ?_
        exact (hG1 _ _ _ _ _ _ R_u63)
theorem yg_Ma_without {N : Nat} {p : Nat} : ∀ n, (∀ (c : Nat → Nat) (m : MS) (u : CS) (v2 : Int32) (v3 : Int32) (v4 : Int32), RP (some p) c m u → RF 2 (some p) VE c u ((gg_Ma_without N n).1 u 55 v2 v3 v4) ((hg_Ma_without N n).1 m p v2 v3 v4)) ∧ (∀ (c : Nat → Nat) (m : MS) (u : CS) (v2 : Int32) (v4 : Int32) (v5 : Int32) (v6 : Int64) (v8 : Int32), RP (some p) c m u → RF 2 (some p) VE c u ((gg_Ma_without N n).2 u 55 v2 v4 v5 v6 v8) ((hg_Ma_without N n).2 m p v2 v4 v5 v6 v8)) := by
  intro n
  induction n with
  | zero => exact ⟨fun c m u v2 v3 v4 R => rf_none, fun c m u v2 v4 v5 v6 v8 R => rf_none⟩
  | succ n ih => exact ⟨fun c m u v2 v3 v4 R => yb_Ma_without_79 (N := N) ih.1 ih.2 R, fun c m u v2 v4 v5 v6 v8 R => yb_Ma_without_150 (N := N) ih.1 ih.2 R⟩
theorem ym_Ma_without {N : Nat} {p : Nat} {c : Nat → Nat} {m : MS} {u : CS} (R : RP (some p) c m u) : RF 2 (some p) VE c u (fm_Ma_without N u 55) (hm_Ma_without N m p) := yb_Ma_without_0 (N := N) (yg_Ma_without (N := N) N).1 (yg_Ma_without (N := N) N).2 R
theorem yb_Ma_value_240 {N : Nat} {p : Nat} {c : Nat → Nat} {m : MS} {u : CS} (R : RP (some p) c m u) : RF 2 (some p) VE c u (fb_Ma_value_240 N () u) (hb_Ma_value_240 N () m p) := by
  unfold fb_Ma_value_240 hb_Ma_value_240
  exact rf_ret R rfl
theorem yb_Ma_value_159 {N : Nat} {p : Nat} {c : Nat → Nat} {m : MS} {u : CS} (R : RP (some p) c m u) {v2 : Int32} {t1 : Int32} : RF 2 (some p) VE c u (fb_Ma_value_159 N () u v2 55 t1) (hb_Ma_value_159 N () m p v2 t1) := by
  unfold fb_Ma_value_159 hb_Ma_value_159
  refine rf_ck (ox_55 R) ?_
  refine rf_bx0 (rf_gz (ym_Ma_hinge R) (by omega)) (fun u1' u1 r1 R_u1 => ?_)
  refine rf_gw ?_
  exact (yb_Ma_value_240 R_u1)
theorem yb_Ma_value_0 {N : Nat} {p : Nat} {c : Nat → Nat} {m : MS} {u : CS} (R : RP (some p) c m u) {v1 : Int32} : RF 2 (some p) VE c u (fb_Ma_value_0 N () u 55 v1) (hb_Ma_value_0 N () m p v1) := by
  unfold fb_Ma_value_0 hb_Ma_value_0
  refine rf_bo (rx_55_0 R) ?_
  refine rf_bo (gx_55_5 R) ?_
  refine rf_so ?_
  refine rf_ck (ox_22 R) ?_
  refine rf_bx0 (rf_gz (ym_Co_at R) (by omega)) (fun u4' u4 r4 R_u4 => ?_)
  refine rf_gw ?_
  refine rf_br ?_ ?_
  · refine rf_bo (rx_55_2 R_u4) ?_
    refine rf_bo (gR_M3 R_u4) ?_
    refine rf_soP R_u4.md (fun j8 h_j8 => ?_)
    refine rf_bo (gR_P2 R_u4 h_j8) ?_
    refine rf_bo (gR_M4 R_u4) ?_
    refine rf_soF R_u4.md (fun j12 h_j12 => ?_)
    refine rf_ck (io_F R_u4 h_j12) ?_
    refine rf_bx0 (rf_gz (ym_Fr_below R_u4 h_j12) (by omega)) (fun u11' u11 r11 R_u11 => ?_)
    refine rf_gw ?_
    refine rf_bo (gR_M4 R_u11) ?_
    refine rf_soF R_u11.md (fun j15 h_j15 => ?_)
    refine rf_ck (io_F R_u11 h_j15) ?_
    refine rf_bx0 (rf_gz (ym_Fr_below R_u11 h_j15) (by omega)) (fun u14' u14 r14 R_u14 => ?_)
    refine rf_gw ?_
    refine rf_so ?_
    refine rf_ck (ox_43 R_u14) ?_
    refine rf_bx0 (rf_gz (ym_Te_order R_u14 ⟨_, h_j8.1, rfl, rfl⟩) (by omega)) (fun u16' u16 r16 R_u16 => ?_)
    refine rf_gw ?_
    refine rf_bx0 (rf_gz (ym_Ma_holds R_u16) (by omega)) (fun u18' u18 r18 R_u18 => ?_)
    refine rf_gw ?_
    refine rf_bx0 (rf_gz (ym_Ma_truth R_u18) (by omega)) (fun u19' u19 r19 R_u19 => ?_)
    refine rf_gw ?_
    refine rf_ck (ox_55 R_u19) ?_
    refine rf_ck (all1 (okR_s R_u19 (by decide))) ?_
    refine rf_bx (rf_gw (ym_Ma_answer R_u19)) (by unfold zle; omega) (fun c_u20 u20' u20 r20 r20' R_u20 E_u20 v_u20 => ?_)
    cases v_u20
    refine rf_gw ?_
    refine rf_bo (gx_55_5 R_u20) ?_
    refine rf_w (px_55_5 R_u20) (fun w22' w22 R_w22 => ?_)
    exact (yb_Ma_value_240 R_w22)
  · refine rf_br ?_ ?_
    · refine rf_ck (ox_55 R_u4) ?_
      refine rf_ck (all1 (okR_s R_u4 (by decide))) ?_
      refine rf_bx (rf_gw (ym_Ma_arithmetic R_u4)) (by unfold zle; omega) (fun c_u23 u23' u23 r23 r23' R_u23 E_u23 v_u23 => ?_)
      cases v_u23
      refine rf_gw ?_
      exact (yb_Ma_value_240 R_u23)
    · refine rf_br ?_ ?_
      · refine rf_br ?_ ?_
        · refine rf_ck (ox_55 R_u4) ?_
          refine rf_ck (all1 (okR_s R_u4 (by decide))) ?_
          refine rf_bx (rf_gw (ym_Ma_join R_u4)) (by unfold zle; omega) (fun c_u25 u25' u25 r25 r25' R_u25 E_u25 v_u25 => ?_)
          cases v_u25
          refine rf_gw ?_
          exact (yb_Ma_value_240 R_u25)
        · refine rf_ck (ox_55 R_u4) ?_
          refine rf_ck (all1 (okR_s R_u4 (by decide))) ?_
          refine rf_bx (rf_gw (ym_Ma_without R_u4)) (by unfold zle; omega) (fun c_u24 u24' u24 r24 r24' R_u24 E_u24 v_u24 => ?_)
          cases v_u24
          refine rf_gw ?_
          exact (yb_Ma_value_240 R_u24)
      · refine rf_br ?_ ?_
        · refine rf_ck (ox_55 R_u4) ?_
          refine rf_ck (all1 (okR_s R_u4 (by decide))) ?_
          refine rf_bx (rf_gw (ym_Ma_negate R_u4)) (by unfold zle; omega) (fun c_u26 u26' u26 r26 r26' R_u26 E_u26 v_u26 => ?_)
          cases v_u26
          refine rf_gw ?_
          exact (yb_Ma_value_240 R_u26)
        · refine rf_br ?_ ?_
          · refine rf_ck (ox_55 R_u4) ?_
            refine rf_ck (all1 (okR_s R_u4 (by decide))) ?_
            refine rf_bx (rf_gw (ym_Ma_not R_u4)) (by unfold zle; omega) (fun c_u27 u27' u27 r27 r27' R_u27 E_u27 v_u27 => ?_)
            cases v_u27
            refine rf_gw ?_
            exact (yb_Ma_value_240 R_u27)
          · refine rf_br ?_ ?_
            · refine rf_br ?_ ?_
              · exact (yb_Ma_value_159 R_u4)
              · exact (yb_Ma_value_159 R_u4)
            · refine rf_br ?_ ?_
              · refine rf_br ?_ ?_
                · exact (yb_Ma_value_159 R_u4)
                · exact (yb_Ma_value_159 R_u4)
              · refine rf_br ?_ ?_
                · refine rf_bo (gR_M4 R_u4) ?_
                  refine rf_soF R_u4.md (fun j30 h_j30 => ?_)
                  refine rf_ck (io_F R_u4 h_j30) ?_
                  refine rf_bx0 (rf_gz (ym_Fr_drop R_u4 h_j30) (by omega)) (fun u29' u29 r29 R_u29 => ?_)
                  refine rf_gw ?_
                  refine rf_bo (gx_55_5 R_u29) ?_
                  refine rf_w (px_55_5 R_u29) (fun w32' w32 R_w32 => ?_)
                  exact (yb_Ma_value_240 R_w32)
                · refine rf_br ?_ ?_
                  · refine rf_bo (gR_M4 R_u4) ?_
                    refine rf_soF R_u4.md (fun j35 h_j35 => ?_)
                    refine rf_ck (io_F R_u4 h_j35) ?_
                    refine rf_bx0 (rf_gz (ym_Fr_forget R_u4 h_j35) (by omega)) (fun u34' u34 r34 R_u34 => ?_)
                    refine rf_gw ?_
                    refine rf_bo (gx_55_5 R_u34) ?_
                    refine rf_w (px_55_5 R_u34) (fun w37' w37 R_w37 => ?_)
                    exact (yb_Ma_value_240 R_w37)
                  · refine rf_br ?_ ?_
                    · refine rf_ck (ox_55 R_u4) ?_
                      refine rf_ck (all1 (okR_s R_u4 (by decide))) ?_
                      refine rf_bx (rf_gw (ym_Ma_sendTo R_u4)) (by unfold zle; omega) (fun c_u38 u38' u38 r38 r38' R_u38 E_u38 v_u38 => ?_)
                      cases v_u38
                      refine rf_gw ?_
                      exact (yb_Ma_value_240 R_u38)
                    · refine rf_w (px_55_8 R_u4) (fun w39' w39 R_w39 => ?_)
                      exact (yb_Ma_value_240 R_w39)
theorem ym_Ma_value {N : Nat} {p : Nat} {c : Nat → Nat} {m : MS} {u : CS} (R : RP (some p) c m u) {v1 : Int32} : RF 2 (some p) VE c u (fm_Ma_value N u 55 v1) (hm_Ma_value N m p v1) := yb_Ma_value_0 (N := N) R
theorem yb_Ma_fit_370 {N : Nat} {p : Nat} {c : Nat → Nat} {m : MS} {u : CS} {G : (CS → Nat → Option Nat → Int32 → Int32 → Int32 → Option (CS × Int32)) × (CS → Nat → Option Nat → Int32 → Int32 → Int32 → Int64 → Int32 → Option (CS × Int32))} {G' : (MS → Nat → Int32 → Int32 → Int32 → Option (MS × Int32)) × (MS → Nat → Int32 → Int32 → Int32 → Int64 → Int32 → Option (MS × Int32))} (hG1 : ∀ (c : Nat → Nat) (m : MS) (u : CS) (v4 : Int32) (v5 : Int32) (v6 : Int32), RP (some p) c m u → RF 1 (some p) VE c u (G.1 u 55 (some 44) v4 v5 v6) (G'.1 m p v4 v5 v6)) (hG2 : ∀ (c : Nat → Nat) (m : MS) (u : CS) (v4 : Int32) (v5 : Int32) (v6 : Int32) (v7 : Int64) (v10 : Int32), RP (some p) c m u → RF 1 (some p) VE c u (G.2 u 55 (some 44) v4 v5 v6 v7 v10) (G'.2 m p v4 v5 v6 v7 v10)) (R : RP (some p) c m u) {v4 : Int32} : RF 1 (some p) VE c u (fb_Ma_fit_370 N G u v4) (hb_Ma_fit_370 N G' m p v4) := by
  unfold fb_Ma_fit_370 hb_Ma_fit_370
  exact rf_ret R rfl
theorem yb_Ma_fit_364 {N : Nat} {p : Nat} {c : Nat → Nat} {m : MS} {u : CS} {G : (CS → Nat → Option Nat → Int32 → Int32 → Int32 → Option (CS × Int32)) × (CS → Nat → Option Nat → Int32 → Int32 → Int32 → Int64 → Int32 → Option (CS × Int32))} {G' : (MS → Nat → Int32 → Int32 → Int32 → Option (MS × Int32)) × (MS → Nat → Int32 → Int32 → Int32 → Int64 → Int32 → Option (MS × Int32))} (hG1 : ∀ (c : Nat → Nat) (m : MS) (u : CS) (v4 : Int32) (v5 : Int32) (v6 : Int32), RP (some p) c m u → RF 1 (some p) VE c u (G.1 u 55 (some 44) v4 v5 v6) (G'.1 m p v4 v5 v6)) (hG2 : ∀ (c : Nat → Nat) (m : MS) (u : CS) (v4 : Int32) (v5 : Int32) (v6 : Int32) (v7 : Int64) (v10 : Int32), RP (some p) c m u → RF 1 (some p) VE c u (G.2 u 55 (some 44) v4 v5 v6 v7 v10) (G'.2 m p v4 v5 v6 v7 v10)) (R : RP (some p) c m u) {v4 : Int32} {v5 : Int32} {v6 : Int32} : RF 1 (some p) VE c u (fb_Ma_fit_364 N G u 55 (some 44) v4 v5 v6) (hb_Ma_fit_364 N G' m p v4 v5 v6) := by
  unfold fb_Ma_fit_364 hb_Ma_fit_364
  exact (hG1 _ _ _ _ _ _ R)
theorem yb_Ma_fit_268 {N : Nat} {p : Nat} {c : Nat → Nat} {m : MS} {u : CS} {G : (CS → Nat → Option Nat → Int32 → Int32 → Int32 → Option (CS × Int32)) × (CS → Nat → Option Nat → Int32 → Int32 → Int32 → Int64 → Int32 → Option (CS × Int32))} {G' : (MS → Nat → Int32 → Int32 → Int32 → Option (MS × Int32)) × (MS → Nat → Int32 → Int32 → Int32 → Int64 → Int32 → Option (MS × Int32))} (hG1 : ∀ (c : Nat → Nat) (m : MS) (u : CS) (v4 : Int32) (v5 : Int32) (v6 : Int32), RP (some p) c m u → RF 1 (some p) VE c u (G.1 u 55 (some 44) v4 v5 v6) (G'.1 m p v4 v5 v6)) (hG2 : ∀ (c : Nat → Nat) (m : MS) (u : CS) (v4 : Int32) (v5 : Int32) (v6 : Int32) (v7 : Int64) (v10 : Int32), RP (some p) c m u → RF 1 (some p) VE c u (G.2 u 55 (some 44) v4 v5 v6 v7 v10) (G'.2 m p v4 v5 v6 v7 v10)) (R : RP (some p) c m u) {v4 : Int32} {v5 : Int32} {v6 : Int32} {v7 : Int64} {v10 : Int32} : RF 1 (some p) VE c u (fb_Ma_fit_268 N G u 55 (some 44) v4 v5 v6 v7 v10) (hb_Ma_fit_268 N G' m p v4 v5 v6 v7 v10) := by
  unfold fb_Ma_fit_268 hb_Ma_fit_268
  refine rf_br ?_ ?_
  · exact (yb_Ma_fit_364 hG1 hG2 R)
  · refine rf_bo (gR_M3 R) ?_
    refine rf_soP R.md (fun j2 h_j2 => ?_)
    refine rf_bo (gR_P2 R h_j2) ?_
    refine rf_so ?_
    refine rf_ai (aq_2 R h_j2.1) ?_
    refine rf_so ?_
    refine rf_wk (sx_44 R) (fun w7' w7 R_w7 => ?_)
    exact (hG2 _ _ _ _ _ _ _ _ R_w7)
theorem yb_Ma_fit_262 {N : Nat} {p : Nat} {c : Nat → Nat} {m : MS} {u : CS} {G : (CS → Nat → Option Nat → Int32 → Int32 → Int32 → Option (CS × Int32)) × (CS → Nat → Option Nat → Int32 → Int32 → Int32 → Int64 → Int32 → Option (CS × Int32))} {G' : (MS → Nat → Int32 → Int32 → Int32 → Option (MS × Int32)) × (MS → Nat → Int32 → Int32 → Int32 → Int64 → Int32 → Option (MS × Int32))} (hG1 : ∀ (c : Nat → Nat) (m : MS) (u : CS) (v4 : Int32) (v5 : Int32) (v6 : Int32), RP (some p) c m u → RF 1 (some p) VE c u (G.1 u 55 (some 44) v4 v5 v6) (G'.1 m p v4 v5 v6)) (hG2 : ∀ (c : Nat → Nat) (m : MS) (u : CS) (v4 : Int32) (v5 : Int32) (v6 : Int32) (v7 : Int64) (v10 : Int32), RP (some p) c m u → RF 1 (some p) VE c u (G.2 u 55 (some 44) v4 v5 v6 v7 v10) (G'.2 m p v4 v5 v6 v7 v10)) (R : RP (some p) c m u) : RF 1 (some p) VE c u (fb_Ma_fit_262 N G u) (hb_Ma_fit_262 N G' m p) := by
  unfold fb_Ma_fit_262 hb_Ma_fit_262
  exact rf_ret R rfl
theorem yb_Ma_fit_57 {N : Nat} {p : Nat} {c : Nat → Nat} {m : MS} {u : CS} {G : (CS → Nat → Option Nat → Int32 → Int32 → Int32 → Option (CS × Int32)) × (CS → Nat → Option Nat → Int32 → Int32 → Int32 → Int64 → Int32 → Option (CS × Int32))} {G' : (MS → Nat → Int32 → Int32 → Int32 → Option (MS × Int32)) × (MS → Nat → Int32 → Int32 → Int32 → Int64 → Int32 → Option (MS × Int32))} (hG1 : ∀ (c : Nat → Nat) (m : MS) (u : CS) (v4 : Int32) (v5 : Int32) (v6 : Int32), RP (some p) c m u → RF 1 (some p) VE c u (G.1 u 55 (some 44) v4 v5 v6) (G'.1 m p v4 v5 v6)) (hG2 : ∀ (c : Nat → Nat) (m : MS) (u : CS) (v4 : Int32) (v5 : Int32) (v6 : Int32) (v7 : Int64) (v10 : Int32), RP (some p) c m u → RF 1 (some p) VE c u (G.2 u 55 (some 44) v4 v5 v6 v7 v10) (G'.2 m p v4 v5 v6 v7 v10)) (R : RP (some p) c m u) : RF 1 (some p) VE c u (fb_Ma_fit_57 N G u) (hb_Ma_fit_57 N G' m p) := by
  unfold fb_Ma_fit_57 hb_Ma_fit_57
  exact rf_ret R rfl
theorem yb_Ma_fit_17 {N : Nat} {p : Nat} {c : Nat → Nat} {m : MS} {u : CS} {G : (CS → Nat → Option Nat → Int32 → Int32 → Int32 → Option (CS × Int32)) × (CS → Nat → Option Nat → Int32 → Int32 → Int32 → Int64 → Int32 → Option (CS × Int32))} {G' : (MS → Nat → Int32 → Int32 → Int32 → Option (MS × Int32)) × (MS → Nat → Int32 → Int32 → Int32 → Int64 → Int32 → Option (MS × Int32))} (hG1 : ∀ (c : Nat → Nat) (m : MS) (u : CS) (v4 : Int32) (v5 : Int32) (v6 : Int32), RP (some p) c m u → RF 1 (some p) VE c u (G.1 u 55 (some 44) v4 v5 v6) (G'.1 m p v4 v5 v6)) (hG2 : ∀ (c : Nat → Nat) (m : MS) (u : CS) (v4 : Int32) (v5 : Int32) (v6 : Int32) (v7 : Int64) (v10 : Int32), RP (some p) c m u → RF 1 (some p) VE c u (G.2 u 55 (some 44) v4 v5 v6 v7 v10) (G'.2 m p v4 v5 v6 v7 v10)) (R : RP (some p) c m u) {v4 : Int32} {v5 : Int32} {v6 : Int32} : RF 1 (some p) VE c u (fb_Ma_fit_17 N G u 55 (some 44) v4 v5 v6) (hb_Ma_fit_17 N G' m p v4 v5 v6) := by
  unfold fb_Ma_fit_17 hb_Ma_fit_17
  refine rf_br ?_ ?_
  · exact (yb_Ma_fit_370 hG1 hG2 R)
  · refine rf_bo (rx_55_0 R) ?_
    refine rf_so ?_
    refine rf_ck (ox_22 R) ?_
    refine rf_bx0 (rf_gz (ym_Co_at R) (by omega)) (fun u9' u9 r9 R_u9 => ?_)
    refine rf_gw ?_
    refine rf_br ?_ ?_
    · exact (yb_Ma_fit_370 hG1 hG2 R_u9)
    · refine rf_br ?_ ?_
      · exact (yb_Ma_fit_57 hG1 hG2 R_u9)
      · refine rf_br ?_ ?_
        · refine rf_so ?_
          refine rf_ai (ax_44 R_u9) ?_
          refine rf_bo (rx_55_0 R_u9) ?_
          refine rf_so ?_
          refine rf_ck (ox_22 R_u9) ?_
          refine rf_bx0 (rf_gz (ym_Co_at R_u9) (by omega)) (fun u14' u14 r14 R_u14 => ?_)
          refine rf_gw ?_
          refine rf_bo (rx_55_0 R_u14) ?_
          refine rf_so ?_
          refine rf_ck (ox_22 R_u14) ?_
          refine rf_bx0 (rf_gz (ym_Co_at R_u14) (by omega)) (fun u17' u17 r17 R_u17 => ?_)
          refine rf_gw ?_
          refine rf_br ?_ ?_
          · refine rf_bo (rx_55_0 R_u17) ?_
            refine rf_so ?_
            refine rf_ck (ox_22 R_u17) ?_
            refine rf_bx0 (rf_gz (ym_Co_at R_u17) (by omega)) (fun u20' u20 r20 R_u20 => ?_)
            refine rf_gw ?_
            refine rf_bx0 (rf_gz (ym_Te_make R_u20) (by omega)) (fun u22' u22 r22 R_u22 => ?_)
            refine rf_gw ?_
            refine rf_br ?_ ?_
            · exact (yb_Ma_fit_364 hG1 hG2 R_u22)
            · exact rf_ret R_u22 rfl
          · refine rf_br ?_ ?_
            · refine rf_ck (ox_55 R_u17) ?_
              refine rf_bx0 (rf_gz (ym_Ma_fitsString R_u17) (by omega)) (fun u23' u23 r23 R_u23 => ?_)
              refine rf_gw ?_
              refine rf_br ?_ ?_
              · exact rf_ret R_u23 rfl
              · exact (yb_Ma_fit_364 hG1 hG2 R_u23)
            · refine rf_br ?_ ?_
              · refine rf_bo (rx_55_2 R_u17) ?_
                refine rf_bo (gR_M3 R_u17) ?_
                refine rf_soP R_u17.md (fun j26 h_j26 => ?_)
                refine rf_bo (gR_P2 R_u17 h_j26) ?_
                refine rf_bo (gR_M4 R_u17) ?_
                refine rf_soF R_u17.md (fun j30 h_j30 => ?_)
                refine rf_ck (io_F R_u17 h_j30) ?_
                refine rf_bx0 (rf_gz (ym_Fr_termOf R_u17 h_j30) (by omega)) (fun u29' u29 r29 R_u29 => ?_)
                refine rf_gw ?_
                refine rf_so ?_
                refine rf_ck (ox_43 R_u29) ?_
                refine rf_bx0 (rf_gz (ym_Te_order R_u29 ⟨_, h_j26.1, rfl, rfl⟩) (by omega)) (fun u31' u31 r31 R_u31 => ?_)
                refine rf_gw ?_
                refine rf_br ?_ ?_
                · exact (yb_Ma_fit_364 hG1 hG2 R_u31)
                · exact rf_ret R_u31 rfl
              · refine rf_br ?_ ?_
                · refine rf_bo (gR_M4 R_u17) ?_
                  refine rf_soF R_u17.md (fun j35 h_j35 => ?_)
                  refine rf_ck (io_F R_u17 h_j35) ?_
                  refine rf_ck (all2 (okR_s R_u17 (by decide)) (okR_s R_u17 (by decide))) ?_
                  refine rf_bx (rf_gw (ym_Fr_bind R_u17 h_j35)) (by unfold zle; omega) (fun c_u34 u34' u34 r34 r34' R_u34 E_u34 v_u34 => ?_)
                  cases v_u34
                  refine rf_gw ?_
                  exact (yb_Ma_fit_364 hG1 hG2 R_u34)
                · refine rf_br ?_ ?_
                  · exact (yb_Ma_fit_364 hG1 hG2 R_u17)
                  · refine rf_br ?_ ?_
                    · refine rf_bx0 (rf_gz (ym_Te_tag R_u17) (by omega)) (fun u36' u36 r36 R_u36 => ?_)
                      refine rf_gw ?_
                      refine rf_br ?_ ?_
                      · refine rf_bo (gR_M3 R_u36) ?_
                        refine rf_soP R_u36.md (fun j38 h_j38 => ?_)
                        refine rf_bo (gR_P2 R_u36 h_j38) ?_
                        refine rf_so ?_
                        refine rf_ai (aq_2 R_u36 h_j38.1) ?_
                        refine rf_br ?_ ?_
                        · exact (hG2 _ _ _ _ _ _ _ _ R_u36)
                        · exact (yb_Ma_fit_262 hG1 hG2 R_u36)
                      · exact (yb_Ma_fit_262 hG1 hG2 R_u36)
                    · refine rf_br ?_ ?_
                      · refine rf_bx0 (rf_gz (ym_Te_tag R_u17) (by omega)) (fun u42' u42 r42 R_u42 => ?_)
                        refine rf_gw ?_
                        refine rf_br ?_ ?_
                        · refine rf_bo (gR_M3 R_u42) ?_
                          refine rf_soP R_u42.md (fun j44 h_j44 => ?_)
                          refine rf_bo (gR_P2 R_u42 h_j44) ?_
                          refine rf_so ?_
                          refine rf_ai (aq_2 R_u42 h_j44.1) ?_
                          refine rf_so ?_
                          refine rf_wk (sx_44 R_u42) (fun w49' w49 R_w49 => ?_)
                          refine rf_bo (gR_M3 R_w49) ?_
                          refine rf_soP R_w49.md (fun j51 h_j51 => ?_)
                          refine rf_bo (gR_P2 R_w49 h_j51) ?_
                          refine rf_so ?_
                          refine rf_ai (aq_2 R_w49 h_j51.1) ?_
                          refine rf_so ?_
                          refine rf_wk (sx_44 R_w49) (fun w56' w56 R_w56 => ?_)
                          exact (yb_Ma_fit_364 hG1 hG2 R_w56)
                        · exact rf_ret R_u42 rfl
                      · exact (yb_Ma_fit_364 hG1 hG2 R_u17)
        · exact (yb_Ma_fit_57 hG1 hG2 R_u9)
theorem yb_Ma_fit_0 {N : Nat} {p : Nat} {c : Nat → Nat} {m : MS} {u : CS} {G : (CS → Nat → Option Nat → Int32 → Int32 → Int32 → Option (CS × Int32)) × (CS → Nat → Option Nat → Int32 → Int32 → Int32 → Int64 → Int32 → Option (CS × Int32))} {G' : (MS → Nat → Int32 → Int32 → Int32 → Option (MS × Int32)) × (MS → Nat → Int32 → Int32 → Int32 → Int64 → Int32 → Option (MS × Int32))} (hG1 : ∀ (c : Nat → Nat) (m : MS) (u : CS) (v4 : Int32) (v5 : Int32) (v6 : Int32), RP (some p) c m u → RF 1 (some p) VE c u (G.1 u 55 (some 44) v4 v5 v6) (G'.1 m p v4 v5 v6)) (hG2 : ∀ (c : Nat → Nat) (m : MS) (u : CS) (v4 : Int32) (v5 : Int32) (v6 : Int32) (v7 : Int64) (v10 : Int32), RP (some p) c m u → RF 1 (some p) VE c u (G.2 u 55 (some 44) v4 v5 v6 v7 v10) (G'.2 m p v4 v5 v6 v7 v10)) (R : RP (some p) c m u) {v1 : Int32} {v2 : Int32} : RF 1 (some p) VE c u (fb_Ma_fit_0 N G u 55 v1 v2) (hb_Ma_fit_0 N G' m p v1 v2) := by
  unfold fb_Ma_fit_0 hb_Ma_fit_0
  refine rf_bo (rx_55_2 R) ?_
  refine rf_so ?_
  refine rf_bo (rx_43_0 R) ?_
  exact (hG1 _ _ _ _ _ _ R)
theorem yg_Ma_fit {N : Nat} {p : Nat} : ∀ n, (∀ (c : Nat → Nat) (m : MS) (u : CS) (v4 : Int32) (v5 : Int32) (v6 : Int32), RP (some p) c m u → RF 1 (some p) VE c u ((gg_Ma_fit N n).1 u 55 (some 44) v4 v5 v6) ((hg_Ma_fit N n).1 m p v4 v5 v6)) ∧ (∀ (c : Nat → Nat) (m : MS) (u : CS) (v4 : Int32) (v5 : Int32) (v6 : Int32) (v7 : Int64) (v10 : Int32), RP (some p) c m u → RF 1 (some p) VE c u ((gg_Ma_fit N n).2 u 55 (some 44) v4 v5 v6 v7 v10) ((hg_Ma_fit N n).2 m p v4 v5 v6 v7 v10)) := by
  intro n
  induction n with
  | zero => exact ⟨fun c m u v4 v5 v6 R => rf_none, fun c m u v4 v5 v6 v7 v10 R => rf_none⟩
  | succ n ih => exact ⟨fun c m u v4 v5 v6 R => yb_Ma_fit_17 (N := N) ih.1 ih.2 R, fun c m u v4 v5 v6 v7 v10 R => yb_Ma_fit_268 (N := N) ih.1 ih.2 R⟩
theorem ym_Ma_fit {N : Nat} {p : Nat} {c : Nat → Nat} {m : MS} {u : CS} (R : RP (some p) c m u) {v1 : Int32} {v2 : Int32} : RF 1 (some p) VE c u (fm_Ma_fit N u 55 v1 v2) (hm_Ma_fit N m p v1 v2) := yb_Ma_fit_0 (N := N) (yg_Ma_fit (N := N) N).1 (yg_Ma_fit (N := N) N).2 R
end
section
set_option maxRecDepth 100000
theorem yb_Ma_tries_153 {N : Nat} {p : Nat} {c : Nat → Nat} {m : MS} {u : CS} {G : (CS → Nat → Int32 → Int32 → Int32 → Int32 → Option (CS × Unit))} {G' : (MS → Nat → Int32 → Int32 → Int32 → Int32 → Option (MS × Unit))} (hG : ∀ (c : Nat → Nat) (m : MS) (u : CS) (v1 : Int32) (v2 : Int32) (v3 : Int32) (v4 : Int32), RP (some p) c m u → RF 1 (some p) VE c u (G u 55 v1 v2 v3 v4) (G' m p v1 v2 v3 v4)) (R : RP (some p) c m u) : RF 1 (some p) VE c u (fb_Ma_tries_153 N G u) (hb_Ma_tries_153 N G' m p) := by
  unfold fb_Ma_tries_153 hb_Ma_tries_153
  exact rf_ret R rfl
theorem yb_Ma_tries_93 {N : Nat} {p : Nat} {c : Nat → Nat} {m : MS} {u : CS} {G : (CS → Nat → Int32 → Int32 → Int32 → Int32 → Option (CS × Unit))} {G' : (MS → Nat → Int32 → Int32 → Int32 → Int32 → Option (MS × Unit))} (hG : ∀ (c : Nat → Nat) (m : MS) (u : CS) (v1 : Int32) (v2 : Int32) (v3 : Int32) (v4 : Int32), RP (some p) c m u → RF 1 (some p) VE c u (G u 55 v1 v2 v3 v4) (G' m p v1 v2 v3 v4)) (R : RP (some p) c m u) {v1 : Int32} {v2 : Int32} {v3 : Int32} {v4 : Int32} {t1 : Int32} {t2 : Int64} : RF 1 (some p) VE c u (fb_Ma_tries_93 N G u 55 v1 v2 v3 v4 (some 44) t1 t2) (hb_Ma_tries_93 N G' m p v1 v2 v3 v4 t1 t2) := by
  unfold fb_Ma_tries_93 hb_Ma_tries_93
  refine rf_so ?_
  refine rf_wk (sx_44 R) (fun w2' w2 R_w2 => ?_)
  exact (hG _ _ _ _ _ _ _ R_w2)
theorem yb_Ma_tries_50 {N : Nat} {p : Nat} {c : Nat → Nat} {m : MS} {u : CS} {G : (CS → Nat → Int32 → Int32 → Int32 → Int32 → Option (CS × Unit))} {G' : (MS → Nat → Int32 → Int32 → Int32 → Int32 → Option (MS × Unit))} (hG : ∀ (c : Nat → Nat) (m : MS) (u : CS) (v1 : Int32) (v2 : Int32) (v3 : Int32) (v4 : Int32), RP (some p) c m u → RF 1 (some p) VE c u (G u 55 v1 v2 v3 v4) (G' m p v1 v2 v3 v4)) (R : RP (some p) c m u) {v1 : Int32} {v2 : Int32} {v3 : Int32} {v4 : Int32} {t0 : Int32} : RF 1 (some p) VE c u (fb_Ma_tries_50 N G u 55 v1 v2 v3 v4 t0) (hb_Ma_tries_50 N G' m p v1 v2 v3 v4 t0) := by
  unfold fb_Ma_tries_50 hb_Ma_tries_50
  refine rf_bo (rx_55_2 R) ?_
  refine rf_so ?_
  refine rf_bo (rx_43_0 R) ?_
  refine rf_br ?_ ?_
  · refine rf_bo (gR_M4 R) ?_
    refine rf_soF R.md (fun j8 h_j8 => ?_)
    refine rf_ck (io_F R h_j8) ?_
    refine rf_bx0 (rf_gz (ym_Fr_below R h_j8) (by omega)) (fun u7' u7 r7 R_u7 => ?_)
    refine rf_gw ?_
    exact (yb_Ma_tries_93 hG R_u7)
  · refine rf_bo (gR_M3 R) ?_
    refine rf_soP R.md (fun j10 h_j10 => ?_)
    refine rf_bo (gR_P6 R h_j10) ?_
    refine rf_bo (gR_M3 R) ?_
    refine rf_soP R.md (fun j13 h_j13 => ?_)
    refine rf_bo (gq_8 R h_j13) ?_
    refine rf_so ?_
    refine rf_ai (aq_6 R h_j10.1) ?_
    exact (yb_Ma_tries_93 hG R)
theorem yb_Ma_tries_49 {N : Nat} {p : Nat} {c : Nat → Nat} {m : MS} {u : CS} {G : (CS → Nat → Int32 → Int32 → Int32 → Int32 → Option (CS × Unit))} {G' : (MS → Nat → Int32 → Int32 → Int32 → Int32 → Option (MS × Unit))} (hG : ∀ (c : Nat → Nat) (m : MS) (u : CS) (v1 : Int32) (v2 : Int32) (v3 : Int32) (v4 : Int32), RP (some p) c m u → RF 1 (some p) VE c u (G u 55 v1 v2 v3 v4) (G' m p v1 v2 v3 v4)) (R : RP (some p) c m u) {v1 : Int32} {v2 : Int32} {v3 : Int32} {v4 : Int32} : RF 1 (some p) VE c u (fb_Ma_tries_49 N G u 55 v1 v2 v3 v4) (hb_Ma_tries_49 N G' m p v1 v2 v3 v4) := by
  unfold fb_Ma_tries_49 hb_Ma_tries_49
  exact (yb_Ma_tries_50 hG R)
theorem yb_Ma_tries_21 {N : Nat} {p : Nat} {c : Nat → Nat} {m : MS} {u : CS} {G : (CS → Nat → Int32 → Int32 → Int32 → Int32 → Option (CS × Unit))} {G' : (MS → Nat → Int32 → Int32 → Int32 → Int32 → Option (MS × Unit))} (hG : ∀ (c : Nat → Nat) (m : MS) (u : CS) (v1 : Int32) (v2 : Int32) (v3 : Int32) (v4 : Int32), RP (some p) c m u → RF 1 (some p) VE c u (G u 55 v1 v2 v3 v4) (G' m p v1 v2 v3 v4)) (R : RP (some p) c m u) {v1 : Int32} {v2 : Int32} {v3 : Int32} {v4 : Int32} : RF 1 (some p) VE c u (fb_Ma_tries_21 N G u 55 v1 v2 v3 v4) (hb_Ma_tries_21 N G' m p v1 v2 v3 v4) := by
  unfold fb_Ma_tries_21 hb_Ma_tries_21
  refine rf_br ?_ ?_
  · refine rf_bo (gx_55_5 R) ?_
    refine rf_ck (ox_55 R) ?_
    refine rf_ck (all1 (okR_s R (by decide))) ?_
    refine rf_bx (rf_gw (ym_Ma_fit R)) (by unfold zle; omega) (fun c_u18 u18' u18 r18 r18' R_u18 E_u18 v_u18 => ?_)
    cases v_u18
    refine rf_gw ?_
    refine rf_br ?_ ?_
    · refine rf_bo (gR_M4 R_u18) ?_
      refine rf_soF R_u18.md (fun j21 h_j21 => ?_)
      refine rf_w (wf_4 R_u18 h_j21) (fun w22' w22 R_w22 => ?_)
      refine rf_bo (rx_55_0 R_w22) ?_
      refine rf_bo (gx_55_5 R_w22) ?_
      refine rf_so ?_
      refine rf_ck (ox_22 R_w22) ?_
      refine rf_bx0 (rf_gz (ym_Co_at R_w22) (by omega)) (fun u25' u25 r25 R_u25 => ?_)
      refine rf_gw ?_
      refine rf_w (px_55_5 R_u25) (fun w27' w27 R_w27 => ?_)
      exact (yb_Ma_tries_153 hG R_w27)
    · refine rf_w (px_55_5 R_u18) (fun w19' w19 R_w19 => ?_)
      exact (yb_Ma_tries_153 hG R_w19)
  · refine rf_br ?_ ?_
    · refine rf_bo (gR_M3 R) ?_
      refine rf_soP R.md (fun j29 h_j29 => ?_)
      refine rf_bo (gq_8 R h_j29) ?_
      refine rf_br ?_ ?_
      · exact (yb_Ma_tries_49 hG R)
      · exact (yb_Ma_tries_50 hG R)
    · exact (yb_Ma_tries_49 hG R)
theorem yb_Ma_tries_17 {N : Nat} {p : Nat} {c : Nat → Nat} {m : MS} {u : CS} {G : (CS → Nat → Int32 → Int32 → Int32 → Int32 → Option (CS × Unit))} {G' : (MS → Nat → Int32 → Int32 → Int32 → Int32 → Option (MS × Unit))} (hG : ∀ (c : Nat → Nat) (m : MS) (u : CS) (v1 : Int32) (v2 : Int32) (v3 : Int32) (v4 : Int32), RP (some p) c m u → RF 1 (some p) VE c u (G u 55 v1 v2 v3 v4) (G' m p v1 v2 v3 v4)) (R : RP (some p) c m u) {v1 : Int32} {v2 : Int32} {t0 : Int32} : RF 1 (some p) VE c u (fb_Ma_tries_17 N G u 55 v1 v2 t0) (hb_Ma_tries_17 N G' m p v1 v2 t0) := by
  unfold fb_Ma_tries_17 hb_Ma_tries_17
  exact (hG _ _ _ _ _ _ _ R)
theorem yb_Ma_tries_0 {N : Nat} {p : Nat} {c : Nat → Nat} {m : MS} {u : CS} {G : (CS → Nat → Int32 → Int32 → Int32 → Int32 → Option (CS × Unit))} {G' : (MS → Nat → Int32 → Int32 → Int32 → Int32 → Option (MS × Unit))} (hG : ∀ (c : Nat → Nat) (m : MS) (u : CS) (v1 : Int32) (v2 : Int32) (v3 : Int32) (v4 : Int32), RP (some p) c m u → RF 1 (some p) VE c u (G u 55 v1 v2 v3 v4) (G' m p v1 v2 v3 v4)) (R : RP (some p) c m u) {v1 : Int32} : RF 1 (some p) VE c u (fb_Ma_tries_0 N G u 55 v1) (hb_Ma_tries_0 N G' m p v1) := by
  unfold fb_Ma_tries_0 hb_Ma_tries_0
  refine rf_bo (gR_M4 R) ?_
  refine rf_soF R.md (fun j32 h_j32 => ?_)
  refine rf_bo (gf_4 R h_j32) ?_
  refine rf_br ?_ ?_
  · exact (yb_Ma_tries_17 hG R)
  · exact (yb_Ma_tries_17 hG R)
theorem yg_Ma_tries {N : Nat} {p : Nat} : ∀ n, (∀ (c : Nat → Nat) (m : MS) (u : CS) (v1 : Int32) (v2 : Int32) (v3 : Int32) (v4 : Int32), RP (some p) c m u → RF 1 (some p) VE c u ((gg_Ma_tries N n) u 55 v1 v2 v3 v4) ((hg_Ma_tries N n) m p v1 v2 v3 v4)) := by
  intro n
  induction n with
  | zero => exact fun c m u v1 v2 v3 v4 R => rf_none
  | succ n ih => exact fun c m u v1 v2 v3 v4 R => yb_Ma_tries_21 (N := N) ih R
theorem ym_Ma_tries {N : Nat} {p : Nat} {c : Nat → Nat} {m : MS} {u : CS} (R : RP (some p) c m u) {v1 : Int32} : RF 1 (some p) VE c u (fm_Ma_tries N u 55 v1) (hm_Ma_tries N m p v1) := yb_Ma_tries_0 (N := N) (yg_Ma_tries (N := N) N) R
theorem yb_Ma_match_73 {N : Nat} {p : Nat} {c : Nat → Nat} {m : MS} {u : CS} (R : RP (some p) c m u) : RF 1 (some p) VE c u (fb_Ma_match_73 N () u) (hb_Ma_match_73 N () m p) := by
  unfold fb_Ma_match_73 hb_Ma_match_73
  exact rf_ret R rfl
theorem yb_Ma_match_0 {N : Nat} {p : Nat} {c : Nat → Nat} {m : MS} {u : CS} (R : RP (some p) c m u) : RF 1 (some p) VE c u (fb_Ma_match_0 N () u 55) (hb_Ma_match_0 N () m p) := by
  unfold fb_Ma_match_0 hb_Ma_match_0
  refine rf_bo (gR_M4 R) ?_
  refine rf_soF R.md (fun j2 h_j2 => ?_)
  refine rf_bo (gf_4 R h_j2) ?_
  refine rf_bo (rx_55_2 R) ?_
  refine rf_so ?_
  refine rf_bo (rx_43_0 R) ?_
  refine rf_bo (gR_M4 R) ?_
  refine rf_soF R.md (fun j9 h_j9 => ?_)
  refine rf_ck (io_F R h_j9) ?_
  refine rf_bx0 (rf_gz (ym_Fr_below R h_j9) (by omega)) (fun u8' u8 r8 R_u8 => ?_)
  refine rf_gw ?_
  refine rf_so ?_
  refine rf_wk (sx_44 R_u8) (fun w11' w11 R_w11 => ?_)
  refine rf_bo (gx_55_5 R_w11) ?_
  refine rf_ck (ox_55 R_w11) ?_
  refine rf_ck (all1 (okR_s R_w11 (by decide))) ?_
  refine rf_bx (rf_gw (ym_Ma_fit R_w11)) (by unfold zle; omega) (fun c_u13 u13' u13 r13 r13' R_u13 E_u13 v_u13 => ?_)
  cases v_u13
  refine rf_gw ?_
  refine rf_br ?_ ?_
  · refine rf_bo (gR_M4 R_u13) ?_
    refine rf_soF R_u13.md (fun j16 h_j16 => ?_)
    refine rf_w (wf_4 R_u13 h_j16) (fun w17' w17 R_w17 => ?_)
    refine rf_bo (gR_M4 R_w17) ?_
    refine rf_soF R_w17.md (fun j20 h_j20 => ?_)
    refine rf_ck (io_F R_w17 h_j20) ?_
    refine rf_bx0 (rf_gz (ym_Fr_below R_w17 h_j20) (by omega)) (fun u19' u19 r19 R_u19 => ?_)
    refine rf_gw ?_
    refine rf_ck (ox_55 R_u19) ?_
    refine rf_bx0 (rf_gz (ym_Ma_tell R_u19) (by omega)) (fun u21' u21 r21 R_u21 => ?_)
    refine rf_gw ?_
    exact (yb_Ma_match_73 R_u21)
  · refine rf_w (px_55_5 R_u13) (fun w14' w14 R_w14 => ?_)
    exact (yb_Ma_match_73 R_w14)
theorem ym_Ma_match {N : Nat} {p : Nat} {c : Nat → Nat} {m : MS} {u : CS} (R : RP (some p) c m u) : RF 1 (some p) VE c u (fm_Ma_match N u 55) (hm_Ma_match N m p) := yb_Ma_match_0 (N := N) R
theorem yb_Ma_guardFails_0 {N : Nat} {p : Nat} {c : Nat → Nat} {m : MS} {u : CS} (R : RP (some p) c m u) : RF 0 (some p) VE c u (fb_Ma_guardFails_0 N () u 55) (hb_Ma_guardFails_0 N () m p) := by
  unfold fb_Ma_guardFails_0 hb_Ma_guardFails_0
  refine rf_bo (gR_M4 R) ?_
  refine rf_bo (gx_55_14 R) ?_
  refine rf_soF R.md (fun j3 h_j3 => ?_)
  refine rf_w (wf_6 R h_j3) (fun w4' w4 R_w4 => ?_)
  refine rf_bo (gR_M4 R_w4) ?_
  refine rf_bo (gx_55_13 R_w4) ?_
  refine rf_soF R_w4.md (fun j8 h_j8 => ?_)
  refine rf_ck (io_F R_w4 h_j8) ?_
  refine rf_bx0 (ym_Fr_forget R_w4 h_j8) (fun u7' u7 r7 R_u7 => ?_)
  refine rf_bo (gx_55_12 R_u7) ?_
  refine rf_w (px_55_5 R_u7) (fun w10' w10 R_w10 => ?_)
  refine rf_w (px_55_12 R_w10) (fun w11' w11 R_w11 => ?_)
  exact rf_ret R_w11 rfl
theorem ym_Ma_guardFails {N : Nat} {p : Nat} {c : Nat → Nat} {m : MS} {u : CS} (R : RP (some p) c m u) : RF 0 (some p) VE c u (fm_Ma_guardFails N u 55) (hm_Ma_guardFails N m p) := yb_Ma_guardFails_0 (N := N) R
theorem yb_Fr_replace_0 {N : Nat} {o : Option Nat} {c : Nat → Nat} {m : MS} {u : CS} (R : RP o c m u) {v0 : Nat} {v0' : Nat} {v1 : Int32} {v2 : Int32} {v3 : Int32} (h_v0 : FVn c v0 v0') : RF 0 o VE c u (fb_Fr_replace_0 N () u v0 v1 v2 v3) (hb_Fr_replace_0 N () m v0' v1 v2 v3) := by
  unfold fb_Fr_replace_0 hb_Fr_replace_0
  refine rf_bo (gf_1 R h_v0) ?_
  refine rf_ck (io_F R h_v0) ?_
  refine rf_bx0 (ym_Fr_of R h_v0) (fun u2' u2 r2 R_u2 => ?_)
  refine rf_bo (gR_F5 R_u2 h_v0) ?_
  refine rf_bo (gf_6 R_u2 h_v0) ?_
  refine rf_bo (gR_F5 R_u2 h_v0) ?_
  refine rf_so ?_
  refine rf_so ?_
  refine rf_wk (cq_35 R_u2 h_v0.1) (fun w8' w8 R_w8 => ?_)
  refine rf_w (wf_6 R_w8 h_v0) (fun w9' w9 R_w9 => ?_)
  refine rf_bo (gf_1 R_w9 h_v0) ?_
  refine rf_ck (io_F R_w9 h_v0) ?_
  refine rf_bx0 (ym_Fr_of R_w9 h_v0) (fun u11' u11 r11 R_u11 => ?_)
  refine rf_w (wf_4 R_u11 h_v0) (fun w12' w12 R_w12 => ?_)
  refine rf_ck (io_F R_w12 h_v0) ?_
  refine rf_bx0 (ym_Fr_set R_w12 h_v0) (fun u13' u13 r13 R_u13 => ?_)
  refine rf_ck (io_F R_u13 h_v0) ?_
  refine rf_bx0 (ym_Fr_set R_u13 h_v0) (fun u14' u14 r14 R_u14 => ?_)
  refine rf_ck (io_F R_u14 h_v0) ?_
  refine rf_bx0 (ym_Fr_set R_u14 h_v0) (fun u15' u15 r15 R_u15 => ?_)
  exact rf_ret R_u15 rfl
theorem ym_Fr_replace {N : Nat} {o : Option Nat} {c : Nat → Nat} {m : MS} {u : CS} (R : RP o c m u) {v0 : Nat} {v0' : Nat} {v1 : Int32} {v2 : Int32} {v3 : Int32} (h_v0 : FVn c v0 v0') : RF 0 o VE c u (fm_Fr_replace N u v0 v1 v2 v3) (hm_Fr_replace N m v0' v1 v2 v3) := yb_Fr_replace_0 (N := N) R h_v0
theorem yb_Ma_enter_37 {N : Nat} {p : Nat} {c : Nat → Nat} {m : MS} {u : CS} (R : RP (some p) c m u) {v2 : Int32} : RF 0 (some p) VE c u (fb_Ma_enter_37 N () u 55 v2) (hb_Ma_enter_37 N () m p v2) := by
  unfold fb_Ma_enter_37 hb_Ma_enter_37
  refine rf_w (px_55_5 R) (fun w1' w1 R_w1 => ?_)
  exact rf_ret R_w1 rfl
theorem yb_Ma_enter_0 {N : Nat} {p : Nat} {c : Nat → Nat} {m : MS} {u : CS} (R : RP (some p) c m u) {v1 : Int32} {v2 : Int32} {v3 : Int32} {v4 : Int32} {v5 : Int32} : RF 0 (some p) VE c u (fb_Ma_enter_0 N () u 55 v1 v2 v3 v4 v5) (hb_Ma_enter_0 N () m p v1 v2 v3 v4 v5) := by
  unfold fb_Ma_enter_0 hb_Ma_enter_0
  refine rf_br ?_ ?_
  · refine rf_bo (gR_M4 R) ?_
    refine rf_soF R.md (fun j4 h_j4 => ?_)
    refine rf_ck (io_F R h_j4) ?_
    refine rf_bx0 (ym_Fr_setPlace R h_j4) (fun u3' u3 r3 R_u3 => ?_)
    refine rf_bo (gR_M4 R_u3) ?_
    refine rf_soF R_u3.md (fun j7 h_j7 => ?_)
    refine rf_ck (io_F R_u3 h_j7) ?_
    refine rf_bx0 (ym_Fr_open R_u3 h_j7) (fun u6' u6 r6 R_u6 => ?_)
    exact (yb_Ma_enter_37 R_u6)
  · refine rf_bo (gR_M4 R) ?_
    refine rf_soF R.md (fun j10 h_j10 => ?_)
    refine rf_ck (io_F R h_j10) ?_
    refine rf_bx0 (ym_Fr_replace R h_j10) (fun u9' u9 r9 R_u9 => ?_)
    exact (yb_Ma_enter_37 R_u9)
theorem ym_Ma_enter {N : Nat} {p : Nat} {c : Nat → Nat} {m : MS} {u : CS} (R : RP (some p) c m u) {v1 : Int32} {v2 : Int32} {v3 : Int32} {v4 : Int32} {v5 : Int32} : RF 0 (some p) VE c u (fm_Ma_enter N u 55 v1 v2 v3 v4 v5) (hm_Ma_enter N m p v1 v2 v3 v4 v5) := yb_Ma_enter_0 (N := N) R
theorem yb_Ma_call_70 {N : Nat} {p : Nat} {c : Nat → Nat} {m : MS} {u : CS} (R : RP (some p) c m u) : RF 0 (some p) VE c u (fb_Ma_call_70 N () u) (hb_Ma_call_70 N () m p) := by
  unfold fb_Ma_call_70 hb_Ma_call_70
  exact rf_ret R rfl
theorem yb_Ma_call_0 {N : Nat} {p : Nat} {c : Nat → Nat} {m : MS} {u : CS} (R : RP (some p) c m u) {v1 : Int32} {v2 : Int32} : RF 0 (some p) VE c u (fb_Ma_call_0 N () u 55 v1 v2) (hb_Ma_call_0 N () m p v1 v2) := by
  unfold fb_Ma_call_0 hb_Ma_call_0
  refine rf_bo (rx_55_0 R) ?_
  refine rf_bo (gx_55_5 R) ?_
  refine rf_so ?_
  refine rf_ck (ox_22 R) ?_
  refine rf_bx0 (ym_Co_at R) (fun u3' u3 r3 R_u3 => ?_)
  refine rf_ck (ox_55 R_u3) ?_
  refine rf_bx0 (ym_Ma_begins R_u3) (fun u5' u5 r5 R_u5 => ?_)
  refine rf_br ?_ ?_
  · exact (yb_Ma_call_70 R_u5)
  · refine rf_br ?_ ?_
    · exact (yb_Ma_call_70 R_u5)
    · refine rf_bo (rx_55_0 R_u5) ?_
      refine rf_so ?_
      refine rf_bo (gx_22_2 R_u5) ?_
      refine rf_br ?_ ?_
      · exact (yb_Ma_call_70 R_u5)
      · refine rf_bo (rx_55_0 R_u5) ?_
        refine rf_so ?_
        refine rf_bo (rx_22_8 R_u5) ?_
        refine rf_so ?_
        refine rf_ai (ax_29 R_u5) ?_
        refine rf_bo (rx_55_0 R_u5) ?_
        refine rf_bo (gx_55_5 R_u5) ?_
        refine rf_so ?_
        refine rf_ck (ox_22 R_u5) ?_
        refine rf_bx0 (ym_Co_at R_u5) (fun u16' u16 r16 R_u16 => ?_)
        refine rf_bo (gx_55_5 R_u16) ?_
        refine rf_ck (ox_55 R_u16) ?_
        refine rf_bx0 (ym_Ma_enter R_u16) (fun u19' u19 r19 R_u19 => ?_)
        exact (yb_Ma_call_70 R_u19)
theorem ym_Ma_call {N : Nat} {p : Nat} {c : Nat → Nat} {m : MS} {u : CS} (R : RP (some p) c m u) {v1 : Int32} {v2 : Int32} : RF 0 (some p) VE c u (fm_Ma_call N u 55 v1 v2) (hm_Ma_call N m p v1 v2) := yb_Ma_call_0 (N := N) R
theorem yb_Fr_takeOut_39 {N : Nat} {o : Option Nat} {c : Nat → Nat} {m : MS} {u : CS} (R : RP o c m u) : RF 0 o VE c u (fb_Fr_takeOut_39 N () u) (hb_Fr_takeOut_39 N () m) := by
  unfold fb_Fr_takeOut_39 hb_Fr_takeOut_39
  exact rf_ret R rfl
theorem yb_Fr_takeOut_0 {N : Nat} {o : Option Nat} {c : Nat → Nat} {m : MS} {u : CS} (R : RP o c m u) {v0 : Nat} {v0' : Nat} {v1 : Int32} (h_v0 : FVn c v0 v0') : RF 0 o VE c u (fb_Fr_takeOut_0 N () u v0 v1) (hb_Fr_takeOut_0 N () m v0' v1) := by
  unfold fb_Fr_takeOut_0 hb_Fr_takeOut_0
  refine rf_bo (gf_6 R h_v0) ?_
  refine rf_br ?_ ?_
  · exact (yb_Fr_takeOut_39 R)
  · refine rf_bo (gR_F5 R h_v0) ?_
    refine rf_bo (gR_F5 R h_v0) ?_
    refine rf_so ?_
    refine rf_so ?_
    refine rf_wk (cq_35 R h_v0.1) (fun w6' w6 R_w6 => ?_)
    refine rf_bo (gf_6 R_w6 h_v0) ?_
    refine rf_w (wf_6 R_w6 h_v0) (fun w8' w8 R_w8 => ?_)
    exact (yb_Fr_takeOut_39 R_w8)
theorem ym_Fr_takeOut {N : Nat} {o : Option Nat} {c : Nat → Nat} {m : MS} {u : CS} (R : RP o c m u) {v0 : Nat} {v0' : Nat} {v1 : Int32} (h_v0 : FVn c v0 v0') : RF 0 o VE c u (fm_Fr_takeOut N u v0 v1) (hm_Fr_takeOut N m v0' v1) := yb_Fr_takeOut_0 (N := N) R h_v0
theorem yb_Ma_apply_0 {N : Nat} {p : Nat} {c : Nat → Nat} {m : MS} {u : CS} (R : RP (some p) c m u) {v1 : Int32} {v2 : Int32} : RF 1 (some p) VE c u (fb_Ma_apply_0 N () u 55 v1 v2) (hb_Ma_apply_0 N () m p v1 v2) := by
  unfold fb_Ma_apply_0 hb_Ma_apply_0
  refine rf_bo (gR_M4 R) ?_
  refine rf_soF R.md (fun j3 h_j3 => ?_)
  refine rf_ck (io_F R h_j3) ?_
  refine rf_bx0 (rf_gz (ym_Fr_below R h_j3) (by omega)) (fun u2' u2 r2 R_u2 => ?_)
  refine rf_gw ?_
  refine rf_bx0 (rf_gz (ym_Te_tag R_u2) (by omega)) (fun u4' u4 r4 R_u4 => ?_)
  refine rf_gw ?_
  refine rf_br ?_ ?_
  · refine rf_bo (gR_M3 R_u4) ?_
    refine rf_soP R_u4.md (fun j6 h_j6 => ?_)
    refine rf_bo (gR_P2 R_u4 h_j6) ?_
    refine rf_so ?_
    refine rf_ai (aq_2 R_u4 h_j6.1) ?_
    refine rf_bo (rx_55_0 R_u4) ?_
    refine rf_so ?_
    refine rf_ck (ox_22 R_u4) ?_
    refine rf_bx0 (rf_gz (ym_Co_takes R_u4) (by omega)) (fun u11' u11 r11 R_u11 => ?_)
    refine rf_gw ?_
    refine rf_br ?_ ?_
    · refine rf_bo (rx_55_0 R_u11) ?_
      refine rf_bo (gx_55_5 R_u11) ?_
      refine rf_so ?_
      refine rf_ck (ox_22 R_u11) ?_
      refine rf_bx0 (rf_gz (ym_Co_at R_u11) (by omega)) (fun u15' u15 r15 R_u15 => ?_)
      refine rf_gw ?_
      refine rf_ck (ox_55 R_u15) ?_
      refine rf_bx0 (rf_gz (ym_Ma_begins R_u15) (by omega)) (fun u17' u17 r17 R_u17 => ?_)
      refine rf_gw ?_
      refine rf_br ?_ ?_
      · exact rf_ret R_u17 rfl
      · refine rf_bo (gR_M4 R_u17) ?_
        refine rf_soF R_u17.md (fun j20 h_j20 => ?_)
        refine rf_ck (io_F R_u17 h_j20) ?_
        refine rf_bx0 (rf_gz (ym_Fr_takeOut R_u17 h_j20) (by omega)) (fun u19' u19 r19 R_u19 => ?_)
        refine rf_gw ?_
        refine rf_bx0 (rf_gz (ym_Ma_functionOf R_u19) (by omega)) (fun u21' u21 r21 R_u21 => ?_)
        refine rf_gw ?_
        refine rf_ck (ox_55 R_u21) ?_
        refine rf_bx0 (rf_gz (ym_Ma_entryOf R_u21) (by omega)) (fun u22' u22 r22 R_u22 => ?_)
        refine rf_gw ?_
        refine rf_bo (gx_55_5 R_u22) ?_
        refine rf_ck (ox_55 R_u22) ?_
        refine rf_bx0 (rf_gz (ym_Ma_enter R_u22) (by omega)) (fun u24' u24 r24 R_u24 => ?_)
        refine rf_gw ?_
        refine rf_bo (gR_M4 R_u24) ?_
        refine rf_bo (gR_M3 R_u24) ?_
        refine rf_soP R_u24.md (fun j27 h_j27 => ?_)
        refine rf_bo (gR_P2 R_u24 h_j27) ?_
        refine rf_ck (ox_55 R_u24) ?_
        refine rf_ck (all1 (okR_s R_u24 (by decide))) ?_
        refine rf_bx (rf_gw (ym_Ma_hold R_u24 ⟨R_u24.md, rfl⟩ ⟨_, h_j27.1, rfl, rfl⟩)) (by unfold zle; omega) (fun c_u29 u29' u29 r29 r29' R_u29 E_u29 v_u29 => ?_)
        cases v_u29
        refine rf_gw ?_
        exact rf_ret R_u29 rfl
    · refine rf_bx0 (rf_gz (ym_Te_make R_u11) (by omega)) (fun u30' u30 r30 R_u30 => ?_)
      refine rf_gw ?_
      refine rf_ck (ox_55 R_u30) ?_
      refine rf_bx0 (rf_gz (ym_Ma_tell R_u30) (by omega)) (fun u31' u31 r31 R_u31 => ?_)
      refine rf_gw ?_
      exact rf_ret R_u31 rfl
  · refine rf_ck (ox_55 R_u4) ?_
    refine rf_bx0 (rf_gz (ym_Ma_tell R_u4) (by omega)) (fun u32' u32 r32 R_u32 => ?_)
    refine rf_gw ?_
    exact rf_ret R_u32 rfl
theorem ym_Ma_apply {N : Nat} {p : Nat} {c : Nat → Nat} {m : MS} {u : CS} (R : RP (some p) c m u) {v1 : Int32} {v2 : Int32} : RF 1 (some p) VE c u (fm_Ma_apply N u 55 v1 v2) (hm_Ma_apply N m p v1 v2) := yb_Ma_apply_0 (N := N) R
theorem yb_Fr_catchTo_34 {N : Nat} {o : Option Nat} {c : Nat → Nat} {m : MS} {u : CS} (R : RP o c m u) {v0 : Nat} {v0' : Nat} {v1 : Int32} {v2 : Int32} (h_v0 : FVn c v0 v0') : RF 1 o VE c u (fb_Fr_catchTo_34 N () u v0 v1 v2) (hb_Fr_catchTo_34 N () m v0' v1 v2) := by
  unfold fb_Fr_catchTo_34 hb_Fr_catchTo_34
  refine rf_bo (gR_F7 R h_v0) ?_
  refine rf_bo (gf_1 R h_v0) ?_
  refine rf_so ?_
  refine rf_wk (sq_37 R h_v0.1) (fun w4' w4 R_w4 => ?_)
  refine rf_bo (gR_F7 R_w4 h_v0) ?_
  refine rf_bo (gf_4 R_w4 h_v0) ?_
  refine rf_so ?_
  refine rf_wk (sq_37 R_w4 h_v0.1) (fun w8' w8 R_w8 => ?_)
  refine rf_bo (gR_F7 R_w8 h_v0) ?_
  refine rf_bo (gf_6 R_w8 h_v0) ?_
  refine rf_so ?_
  refine rf_wk (sq_37 R_w8 h_v0.1) (fun w12' w12 R_w12 => ?_)
  refine rf_bo (gR_F7 R_w12 h_v0) ?_
  refine rf_so ?_
  refine rf_wk (sq_37 R_w12 h_v0.1) (fun w15' w15 R_w15 => ?_)
  refine rf_bo (gf_8 R_w15 h_v0) ?_
  refine rf_w (wf_8 R_w15 h_v0) (fun w17' w17 R_w17 => ?_)
  exact rf_ret R_w17 rfl
theorem yb_Fr_catchTo_0 {N : Nat} {o : Option Nat} {c : Nat → Nat} {m : MS} {u : CS} (R : RP o c m u) {v0 : Nat} {v0' : Nat} {v1 : Int32} (h_v0 : FVn c v0 v0') : RF 1 o VE c u (fb_Fr_catchTo_0 N () u v0 v1) (hb_Fr_catchTo_0 N () m v0' v1) := by
  unfold fb_Fr_catchTo_0 hb_Fr_catchTo_0
  refine rf_bo (gf_8 R h_v0) ?_
  refine rf_bo (gR_F7 R h_v0) ?_
  refine rf_so ?_
  refine rf_bo (nq_37 R h_v0.1) ?_
  refine rf_br ?_ ?_
  · exact (yb_Fr_catchTo_34 R h_v0)
  · refine rf_bo (gR_F7 R h_v0) ?_
    refine rf_bo (gR_F7 R h_v0) ?_
    refine rf_so ?_
    refine rf_bo (nq_37 R h_v0.1) ?_
    refine rf_ck (all1 (okR_F R h_v0)) ?_
    refine rf_growI R h_v0 (k := 37) (l := 47) (by unfold GRK; omega) (by omega) (by unfold zle; omega) (fun c_w27 w27' w27 R_w27 E_w27 => ?_)
    replace h_v0 := E_w27.F h_v0
    exact (yb_Fr_catchTo_34 R_w27 h_v0)
theorem ym_Fr_catchTo {N : Nat} {o : Option Nat} {c : Nat → Nat} {m : MS} {u : CS} (R : RP o c m u) {v0 : Nat} {v0' : Nat} {v1 : Int32} (h_v0 : FVn c v0 v0') : RF 1 o VE c u (fm_Fr_catchTo N u v0 v1) (hm_Fr_catchTo N m v0' v1) := yb_Fr_catchTo_0 (N := N) R h_v0
theorem yb_Ma_await_104 {N : Nat} {p : Nat} {c : Nat → Nat} {m : MS} {u : CS} (R : RP (some p) c m u) : RF 0 (some p) VE c u (fb_Ma_await_104 N () u 55) (hb_Ma_await_104 N () m p) := by
  unfold fb_Ma_await_104 hb_Ma_await_104
  refine rf_bo (gx_55_5 R) ?_
  refine rf_w (px_55_5 R) (fun w2' w2 R_w2 => ?_)
  exact rf_ret R_w2 rfl
theorem yb_Ma_await_96 {N : Nat} {p : Nat} {c : Nat → Nat} {m : MS} {u : CS} (R : RP (some p) c m u) : RF 0 (some p) VE c u (fb_Ma_await_96 N () u 55) (hb_Ma_await_96 N () m p) := by
  unfold fb_Ma_await_96 hb_Ma_await_96
  refine rf_bo (gR_M4 R) ?_
  refine rf_soF R.md (fun j5 h_j5 => ?_)
  refine rf_ck (io_F R h_j5) ?_
  refine rf_bx0 (ym_Fr_drop R h_j5) (fun u4' u4 r4 R_u4 => ?_)
  exact (yb_Ma_await_104 R_u4)
theorem yb_Ma_await_72 {N : Nat} {p : Nat} {c : Nat → Nat} {m : MS} {u : CS} (R : RP (some p) c m u) {v2 : Int64} {v4 : Int32} : RF 0 (some p) VE c u (fb_Ma_await_72 N () u 55 v2 v4) (hb_Ma_await_72 N () m p v2 v4) := by
  unfold fb_Ma_await_72 hb_Ma_await_72
  refine rf_br ?_ ?_
  · exact (yb_Ma_await_96 R)
  · refine rf_bo (gR_M3 R) ?_
    refine rf_bo (rx_55_1 R) ?_
    refine rf_so ?_
    refine rf_bo (gx_47_4 R) ?_
    refine rf_soP R.md (fun j10 h_j10 => ?_)
    refine rf_w (lq_10 R h_j10) (fun w11' w11 R_w11 => ?_)
    exact (yb_Ma_await_96 R_w11)
theorem yb_Ma_await_48 {N : Nat} {p : Nat} {c : Nat → Nat} {m : MS} {u : CS} (R : RP (some p) c m u) {v2 : Int64} {t0 : Int32} : RF 0 (some p) VE c u (fb_Ma_await_48 N () u 55 v2 t0) (hb_Ma_await_48 N () m p v2 t0) := by
  unfold fb_Ma_await_48 hb_Ma_await_48
  refine rf_br ?_ ?_
  · refine rf_bx0 (ym_Ma_atom R) (fun u12' u12 r12 R_u12 => ?_)
    refine rf_br ?_ ?_
    · exact (yb_Ma_await_72 R_u12)
    · refine rf_ck (ox_55 R_u12) ?_
      refine rf_bx0 (ym_Ma_wrong R_u12) (fun u13' u13 r13 R_u13 => ?_)
      exact rf_ret R_u13 rfl
  · exact (yb_Ma_await_72 R)
theorem yb_Ma_await_47 {N : Nat} {p : Nat} {c : Nat → Nat} {m : MS} {u : CS} (R : RP (some p) c m u) {v2 : Int64} : RF 0 (some p) VE c u (fb_Ma_await_47 N () u 55 v2) (hb_Ma_await_47 N () m p v2) := by
  unfold fb_Ma_await_47 hb_Ma_await_47
  exact (yb_Ma_await_48 R)
theorem yb_Ma_await_0 {N : Nat} {p : Nat} {c : Nat → Nat} {m : MS} {u : CS} (R : RP (some p) c m u) {v1 : Int32} : RF 0 (some p) VE c u (fb_Ma_await_0 N () u 55 v1) (hb_Ma_await_0 N () m p v1) := by
  unfold fb_Ma_await_0 hb_Ma_await_0
  refine rf_bo (gR_M3 R) ?_
  refine rf_soP R.md (fun j15 h_j15 => ?_)
  refine rf_w (wq_8 R h_j15) (fun w16' w16 R_w16 => ?_)
  refine rf_bo (gR_M3 R_w16) ?_
  refine rf_soP R_w16.md (fun j18 h_j18 => ?_)
  refine rf_w (lq_10 R_w16 h_j18) (fun w19' w19 R_w19 => ?_)
  refine rf_br ?_ ?_
  · exact (yb_Ma_await_104 R_w19)
  · refine rf_bo (gR_M4 R_w19) ?_
    refine rf_soF R_w19.md (fun j22 h_j22 => ?_)
    refine rf_ck (io_F R_w19 h_j22) ?_
    refine rf_bx0 (ym_Fr_below R_w19 h_j22) (fun u21' u21 r21 R_u21 => ?_)
    refine rf_bx0 (ym_Te_tag R_u21) (fun u23' u23 r23 R_u23 => ?_)
    refine rf_br ?_ ?_
    · refine rf_br ?_ ?_
      · exact (yb_Ma_await_47 R_u23)
      · exact (yb_Ma_await_48 R_u23)
    · exact (yb_Ma_await_47 R_u23)
theorem ym_Ma_await {N : Nat} {p : Nat} {c : Nat → Nat} {m : MS} {u : CS} (R : RP (some p) c m u) {v1 : Int32} : RF 0 (some p) VE c u (fm_Ma_await N u 55 v1) (hm_Ma_await N m p v1) := yb_Ma_await_0 (N := N) R
theorem yb_Pr_takeMessage_53 {N : Nat} {o : Option Nat} {c : Nat → Nat} {m : MS} {u : CS} (R : RP o c m u) {v0 : Nat} {v0' : Nat} (h_v0 : PVn c v0 v0') : RF 0 o VE c u (fb_Pr_takeMessage_53 N () u v0) (hb_Pr_takeMessage_53 N () m v0') := by
  unfold fb_Pr_takeMessage_53 hb_Pr_takeMessage_53
  refine rf_w (wq_8 R h_v0) (fun w1' w1 R_w1 => ?_)
  refine rf_w (lq_10 R_w1 h_v0) (fun w2' w2 R_w2 => ?_)
  exact rf_ret R_w2 rfl
theorem yb_Pr_takeMessage_0 {N : Nat} {o : Option Nat} {c : Nat → Nat} {m : MS} {u : CS} (R : RP o c m u) {v0 : Nat} {v0' : Nat} (h_v0 : PVn c v0 v0') : RF 0 o VE c u (fb_Pr_takeMessage_0 N () u v0) (hb_Pr_takeMessage_0 N () m v0') := by
  unfold fb_Pr_takeMessage_0 hb_Pr_takeMessage_0
  refine rf_bo (gq_8 R h_v0) ?_
  refine rf_bo (gq_7 R h_v0) ?_
  refine rf_br ?_ ?_
  · exact (yb_Pr_takeMessage_53 R h_v0)
  · refine rf_bo (gR_P6 R h_v0) ?_
    refine rf_bo (gq_8 R h_v0) ?_
    refine rf_bo (gR_P6 R h_v0) ?_
    refine rf_bo (gq_8 R h_v0) ?_
    refine rf_bo (gq_7 R h_v0) ?_
    refine rf_bo (gq_8 R h_v0) ?_
    refine rf_so ?_
    refine rf_so ?_
    refine rf_wk (cq_6 R h_v0.1) (fun w13' w13 R_w13 => ?_)
    refine rf_bo (gq_7 R_w13 h_v0) ?_
    refine rf_w (wq_7 R_w13 h_v0) (fun w15' w15 R_w15 => ?_)
    exact (yb_Pr_takeMessage_53 R_w15 h_v0)
theorem ym_Pr_takeMessage {N : Nat} {o : Option Nat} {c : Nat → Nat} {m : MS} {u : CS} (R : RP o c m u) {v0 : Nat} {v0' : Nat} (h_v0 : PVn c v0 v0') : RF 0 o VE c u (fm_Pr_takeMessage N u v0) (hm_Pr_takeMessage N m v0') := yb_Pr_takeMessage_0 (N := N) R h_v0
theorem yb_Ma_returns_0 {N : Nat} {p : Nat} {c : Nat → Nat} {m : MS} {u : CS} (R : RP (some p) c m u) : RF 1 (some p) VE c u (fb_Ma_returns_0 N () u 55) (hb_Ma_returns_0 N () m p) := by
  unfold fb_Ma_returns_0 hb_Ma_returns_0
  refine rf_bo (gR_M4 R) ?_
  refine rf_soF R.md (fun j2 h_j2 => ?_)
  refine rf_bo (gf_1 R h_j2) ?_
  refine rf_br ?_ ?_
  · refine rf_bo (gR_M4 R) ?_
    refine rf_soF R.md (fun j6 h_j6 => ?_)
    refine rf_ck (io_F R h_j6) ?_
    refine rf_bx0 (rf_gz (ym_Fr_below R h_j6) (by omega)) (fun u5' u5 r5 R_u5 => ?_)
    refine rf_gw ?_
    refine rf_bo (gR_M4 R_u5) ?_
    refine rf_soF R_u5.md (fun j9 h_j9 => ?_)
    refine rf_ck (io_F R_u5 h_j9) ?_
    refine rf_bx0 (rf_gz (ym_Fr_leave R_u5 h_j9) (by omega)) (fun u8' u8 r8 R_u8 => ?_)
    refine rf_gw ?_
    refine rf_bo (gR_M4 R_u8) ?_
    refine rf_soF R_u8.md (fun j12 h_j12 => ?_)
    refine rf_ck (io_F R_u8 h_j12) ?_
    refine rf_ck (all1 (okR_s R_u8 (by decide))) ?_
    refine rf_bx (rf_gw (ym_Fr_push R_u8 h_j12)) (by unfold zle; omega) (fun c_u11 u11' u11 r11 r11' R_u11 E_u11 v_u11 => ?_)
    cases v_u11
    refine rf_gw ?_
    refine rf_bo (gR_M4 R_u11) ?_
    refine rf_soF R_u11.md (fun j15 h_j15 => ?_)
    refine rf_ck (io_F R_u11 h_j15) ?_
    refine rf_bx0 (rf_gz (ym_Fr_place R_u11 h_j15) (by omega)) (fun u14' u14 r14 R_u14 => ?_)
    refine rf_gw ?_
    refine rf_w (px_55_5 R_u14) (fun w16' w16 R_w16 => ?_)
    exact rf_ret R_w16 rfl
  · refine rf_bo (rx_55_1 R) ?_
    refine rf_bo (gR_M3 R) ?_
    refine rf_so ?_
    refine rf_ck (ox_47 R) ?_
    refine rf_bx0 (rf_gz (ym_Wl_endsBy R ⟨R.md, rfl⟩) (by omega)) (fun u19' u19 r19 R_u19 => ?_)
    refine rf_gw ?_
    exact rf_ret R_u19 rfl
theorem ym_Ma_returns {N : Nat} {p : Nat} {c : Nat → Nat} {m : MS} {u : CS} (R : RP (some p) c m u) : RF 1 (some p) VE c u (fm_Ma_returns N u 55) (hm_Ma_returns N m p) := yb_Ma_returns_0 (N := N) R
theorem yb_Ma_waitOrLeave_162 {N : Nat} {p : Nat} {c : Nat → Nat} {m : MS} {u : CS} (R : RP (some p) c m u) : RF 1 (some p) VE c u (fb_Ma_waitOrLeave_162 N () u) (hb_Ma_waitOrLeave_162 N () m p) := by
  unfold fb_Ma_waitOrLeave_162 hb_Ma_waitOrLeave_162
  exact rf_ret R rfl
theorem yb_Ma_waitOrLeave_59 {N : Nat} {p : Nat} {c : Nat → Nat} {m : MS} {u : CS} (R : RP (some p) c m u) {t1 : Int32} : RF 1 (some p) VE c u (fb_Ma_waitOrLeave_59 N () u 55 t1) (hb_Ma_waitOrLeave_59 N () m p t1) := by
  unfold fb_Ma_waitOrLeave_59 hb_Ma_waitOrLeave_59
  refine rf_ck (ox_55 R) ?_
  refine rf_bx0 (rf_gz (ym_Ma_await R) (by omega)) (fun u1' u1 r1 R_u1 => ?_)
  refine rf_gw ?_
  exact (yb_Ma_waitOrLeave_162 R_u1)
theorem yb_Ma_waitOrLeave_0 {N : Nat} {p : Nat} {c : Nat → Nat} {m : MS} {u : CS} (R : RP (some p) c m u) {v1 : Int32} {v2 : Int32} : RF 1 (some p) VE c u (fb_Ma_waitOrLeave_0 N () u 55 v1 v2) (hb_Ma_waitOrLeave_0 N () m p v1 v2) := by
  unfold fb_Ma_waitOrLeave_0 hb_Ma_waitOrLeave_0
  refine rf_br ?_ ?_
  · refine rf_br ?_ ?_
    · exact (yb_Ma_waitOrLeave_59 R)
    · exact (yb_Ma_waitOrLeave_59 R)
  · refine rf_br ?_ ?_
    · refine rf_ck (ox_55 R) ?_
      refine rf_bx0 (rf_gz (ym_Ma_nextMessage R) (by omega)) (fun u2' u2 r2 R_u2 => ?_)
      refine rf_gw ?_
      exact (yb_Ma_waitOrLeave_162 R_u2)
    · refine rf_br ?_ ?_
      · refine rf_bo (gR_M3 R) ?_
        refine rf_soP R.md (fun j5 h_j5 => ?_)
        refine rf_ck (io_P R h_j5) ?_
        refine rf_bx0 (rf_gz (ym_Pr_takeMessage R h_j5) (by omega)) (fun u4' u4 r4 R_u4 => ?_)
        refine rf_gw ?_
        refine rf_bo (gx_55_5 R_u4) ?_
        refine rf_w (px_55_5 R_u4) (fun w7' w7 R_w7 => ?_)
        exact (yb_Ma_waitOrLeave_162 R_w7)
      · refine rf_br ?_ ?_
        · refine rf_bo (gR_M3 R) ?_
          refine rf_soP R.md (fun j9 h_j9 => ?_)
          refine rf_bo (gq_8 R h_j9) ?_
          refine rf_w (wq_8 R h_j9) (fun w11' w11 R_w11 => ?_)
          refine rf_w (px_55_5 R_w11) (fun w12' w12 R_w12 => ?_)
          exact (yb_Ma_waitOrLeave_162 R_w12)
        · refine rf_br ?_ ?_
          · refine rf_ck (ox_55 R) ?_
            refine rf_ck (all1 (okR_s R (by decide))) ?_
            refine rf_bx (rf_gw (ym_Ma_returns R)) (by unfold zle; omega) (fun c_u13 u13' u13 r13 r13' R_u13 E_u13 v_u13 => ?_)
            cases v_u13
            refine rf_gw ?_
            exact (yb_Ma_waitOrLeave_162 R_u13)
          · refine rf_br ?_ ?_
            · refine rf_ck (ox_55 R) ?_
              refine rf_bx0 (rf_gz (ym_Ma_wrong R) (by omega)) (fun u14' u14 r14 R_u14 => ?_)
              refine rf_gw ?_
              exact (yb_Ma_waitOrLeave_162 R_u14)
            · refine rf_br ?_ ?_
              · refine rf_bo (gR_M4 R) ?_
                refine rf_soF R.md (fun j17 h_j17 => ?_)
                refine rf_ck (io_F R h_j17) ?_
                refine rf_bx0 (rf_gz (ym_Fr_below R h_j17) (by omega)) (fun u16' u16 r16 R_u16 => ?_)
                refine rf_gw ?_
                refine rf_ck (ox_55 R_u16) ?_
                refine rf_bx0 (rf_gz (ym_Ma_tell R_u16) (by omega)) (fun u18' u18 r18 R_u18 => ?_)
                refine rf_gw ?_
                exact (yb_Ma_waitOrLeave_162 R_u18)
              · refine rf_br ?_ ?_
                · refine rf_ck (ox_55 R) ?_
                  refine rf_bx0 (rf_gz (ym_Ma_wrong R) (by omega)) (fun u19' u19 r19 R_u19 => ?_)
                  refine rf_gw ?_
                  exact (yb_Ma_waitOrLeave_162 R_u19)
                · refine rf_w (px_55_8 R) (fun w20' w20 R_w20 => ?_)
                  exact (yb_Ma_waitOrLeave_162 R_w20)
theorem ym_Ma_waitOrLeave {N : Nat} {p : Nat} {c : Nat → Nat} {m : MS} {u : CS} (R : RP (some p) c m u) {v1 : Int32} {v2 : Int32} : RF 1 (some p) VE c u (fm_Ma_waitOrLeave N u 55 v1 v2) (hm_Ma_waitOrLeave N m p v1 v2) := yb_Ma_waitOrLeave_0 (N := N) R
theorem yb_Ma_flow_343 {N : Nat} {p : Nat} {c : Nat → Nat} {m : MS} {u : CS} (R : RP (some p) c m u) : RF 1 (some p) VE c u (fb_Ma_flow_343 N () u) (hb_Ma_flow_343 N () m p) := by
  unfold fb_Ma_flow_343 hb_Ma_flow_343
  exact rf_ret R rfl
theorem yb_Ma_flow_284 {N : Nat} {p : Nat} {c : Nat → Nat} {m : MS} {u : CS} (R : RP (some p) c m u) {t1 : Int32} {t2 : Int32} : RF 1 (some p) VE c u (fb_Ma_flow_284 N () u 55 t1 t2) (hb_Ma_flow_284 N () m p t1 t2) := by
  unfold fb_Ma_flow_284 hb_Ma_flow_284
  refine rf_ck (ox_55 R) ?_
  refine rf_bx (rf_gw (ym_Ma_apply R)) (by unfold zle; omega) (fun c_u1 u1' u1 r1 r1' R_u1 E_u1 v_u1 => ?_)
  cases v_u1
  refine rf_gw ?_
  exact (yb_Ma_flow_343 R_u1)
theorem yb_Ma_flow_265 {N : Nat} {p : Nat} {c : Nat → Nat} {m : MS} {u : CS} (R : RP (some p) c m u) {t1 : Int32} {t2 : Int32} : RF 1 (some p) VE c u (fb_Ma_flow_265 N () u 55 t1 t2) (hb_Ma_flow_265 N () m p t1 t2) := by
  unfold fb_Ma_flow_265 hb_Ma_flow_265
  refine rf_ck (ox_55 R) ?_
  refine rf_bx0 (rf_gz (ym_Ma_call R) (by omega)) (fun u2' u2 r2 R_u2 => ?_)
  refine rf_gw ?_
  exact (yb_Ma_flow_343 R_u2)
theorem yb_Ma_flow_0 {N : Nat} {p : Nat} {c : Nat → Nat} {m : MS} {u : CS} (R : RP (some p) c m u) {v1 : Int32} : RF 1 (some p) VE c u (fb_Ma_flow_0 N () u 55 v1) (hb_Ma_flow_0 N () m p v1) := by
  unfold fb_Ma_flow_0 hb_Ma_flow_0
  refine rf_bo (rx_55_0 R) ?_
  refine rf_bo (gx_55_5 R) ?_
  refine rf_so ?_
  refine rf_ck (ox_22 R) ?_
  refine rf_bx0 (rf_gz (ym_Co_at R) (by omega)) (fun u5' u5 r5 R_u5 => ?_)
  refine rf_gw ?_
  refine rf_br ?_ ?_
  · refine rf_w (px_55_5 R_u5) (fun w7' w7 R_w7 => ?_)
    exact (yb_Ma_flow_343 R_w7)
  · refine rf_br ?_ ?_
    · refine rf_ck (ox_55 R_u5) ?_
      refine rf_ck (all1 (okR_s R_u5 (by decide))) ?_
      refine rf_bx (rf_gw (ym_Ma_tries R_u5)) (by unfold zle; omega) (fun c_u8 u8' u8 r8 r8' R_u8 E_u8 v_u8 => ?_)
      cases v_u8
      refine rf_gw ?_
      exact (yb_Ma_flow_343 R_u8)
    · refine rf_br ?_ ?_
      · refine rf_ck (ox_55 R_u5) ?_
        refine rf_ck (all1 (okR_s R_u5 (by decide))) ?_
        refine rf_bx (rf_gw (ym_Ma_match R_u5)) (by unfold zle; omega) (fun c_u9 u9' u9 r9 r9' R_u9 E_u9 v_u9 => ?_)
        cases v_u9
        refine rf_gw ?_
        exact (yb_Ma_flow_343 R_u9)
      · refine rf_br ?_ ?_
        · refine rf_w (px_55_13 R_u5) (fun w10' w10 R_w10 => ?_)
          refine rf_bo (rx_55_0 R_w10) ?_
          refine rf_bo (gx_55_5 R_w10) ?_
          refine rf_so ?_
          refine rf_ck (ox_22 R_w10) ?_
          refine rf_bx0 (rf_gz (ym_Co_at R_w10) (by omega)) (fun u13' u13 r13 R_u13 => ?_)
          refine rf_gw ?_
          refine rf_w (px_55_12 R_u13) (fun w15' w15 R_w15 => ?_)
          refine rf_bo (gR_M4 R_w15) ?_
          refine rf_soF R_w15.md (fun j17 h_j17 => ?_)
          refine rf_bo (gf_6 R_w15 h_j17) ?_
          refine rf_w (px_55_14 R_w15) (fun w19' w19 R_w19 => ?_)
          refine rf_bo (gx_55_5 R_w19) ?_
          refine rf_w (px_55_5 R_w19) (fun w21' w21 R_w21 => ?_)
          exact (yb_Ma_flow_343 R_w21)
        · refine rf_br ?_ ?_
          · refine rf_bo (gR_M4 R_u5) ?_
            refine rf_soF R_u5.md (fun j24 h_j24 => ?_)
            refine rf_ck (io_F R_u5 h_j24) ?_
            refine rf_bx0 (rf_gz (ym_Fr_below R_u5 h_j24) (by omega)) (fun u23' u23 r23 R_u23 => ?_)
            refine rf_gw ?_
            refine rf_bx0 (rf_gz (ym_Ma_atom R_u23) (by omega)) (fun u25' u25 r25 R_u25 => ?_)
            refine rf_gw ?_
            refine rf_br ?_ ?_
            · refine rf_bo (gR_M4 R_u25) ?_
              refine rf_soF R_u25.md (fun j28 h_j28 => ?_)
              refine rf_ck (io_F R_u25 h_j28) ?_
              refine rf_bx0 (rf_gz (ym_Fr_drop R_u25 h_j28) (by omega)) (fun u27' u27 r27 R_u27 => ?_)
              refine rf_gw ?_
              refine rf_bo (gx_55_5 R_u27) ?_
              refine rf_w (px_55_5 R_u27) (fun w30' w30 R_w30 => ?_)
              exact (yb_Ma_flow_343 R_w30)
            · refine rf_ck (ox_55 R_u25) ?_
              refine rf_bx0 (rf_gz (ym_Ma_guardFails R_u25) (by omega)) (fun u31' u31 r31 R_u31 => ?_)
              refine rf_gw ?_
              exact (yb_Ma_flow_343 R_u31)
          · refine rf_br ?_ ?_
            · refine rf_w (px_55_12 R_u5) (fun w32' w32 R_w32 => ?_)
              refine rf_bo (gx_55_5 R_w32) ?_
              refine rf_w (px_55_5 R_w32) (fun w34' w34 R_w34 => ?_)
              exact (yb_Ma_flow_343 R_w34)
            · refine rf_br ?_ ?_
              · refine rf_bo (gR_M4 R_u5) ?_
                refine rf_soF R_u5.md (fun j37 h_j37 => ?_)
                refine rf_ck (io_F R_u5 h_j37) ?_
                refine rf_bx0 (rf_gz (ym_Fr_drop R_u5 h_j37) (by omega)) (fun u36' u36 r36 R_u36 => ?_)
                refine rf_gw ?_
                refine rf_bo (gR_M4 R_u36) ?_
                refine rf_bo (rx_55_0 R_u36) ?_
                refine rf_bo (gx_55_5 R_u36) ?_
                refine rf_so ?_
                refine rf_ck (ox_22 R_u36) ?_
                refine rf_bx0 (rf_gz (ym_Co_at R_u36) (by omega)) (fun u41' u41 r41 R_u41 => ?_)
                refine rf_gw ?_
                refine rf_soF R_u41.md (fun j44 h_j44 => ?_)
                refine rf_ck (io_F R_u41 h_j44) ?_
                refine rf_bx0 (rf_gz (ym_Fr_setLine R_u41 h_j44) (by omega)) (fun u43' u43 r43 R_u43 => ?_)
                refine rf_gw ?_
                refine rf_bo (gx_55_5 R_u43) ?_
                refine rf_w (px_55_5 R_u43) (fun w46' w46 R_w46 => ?_)
                exact (yb_Ma_flow_343 R_w46)
              · refine rf_br ?_ ?_
                · refine rf_br ?_ ?_
                  · exact (yb_Ma_flow_265 R_u5)
                  · exact (yb_Ma_flow_265 R_u5)
                · refine rf_br ?_ ?_
                  · refine rf_br ?_ ?_
                    · exact (yb_Ma_flow_265 R_u5)
                    · exact (yb_Ma_flow_265 R_u5)
                  · refine rf_br ?_ ?_
                    · refine rf_br ?_ ?_
                      · exact (yb_Ma_flow_284 R_u5)
                      · exact (yb_Ma_flow_284 R_u5)
                    · refine rf_br ?_ ?_
                      · refine rf_br ?_ ?_
                        · exact (yb_Ma_flow_284 R_u5)
                        · exact (yb_Ma_flow_284 R_u5)
                      · refine rf_br ?_ ?_
                        · refine rf_bo (gR_M4 R_u5) ?_
                          refine rf_soF R_u5.md (fun j49 h_j49 => ?_)
                          refine rf_ck (io_F R_u5 h_j49) ?_
                          refine rf_ck (all1 (okR_s R_u5 (by decide))) ?_
                          refine rf_bx (rf_gw (ym_Fr_catchTo R_u5 h_j49)) (by unfold zle; omega) (fun c_u48 u48' u48 r48 r48' R_u48 E_u48 v_u48 => ?_)
                          cases v_u48
                          refine rf_gw ?_
                          refine rf_bo (gx_55_5 R_u48) ?_
                          refine rf_w (px_55_5 R_u48) (fun w51' w51 R_w51 => ?_)
                          exact (yb_Ma_flow_343 R_w51)
                        · refine rf_br ?_ ?_
                          · refine rf_bo (gR_M4 R_u5) ?_
                            refine rf_soF R_u5.md (fun j53 h_j53 => ?_)
                            refine rf_bo (gf_8 R_u5 h_j53) ?_
                            refine rf_w (wf_8 R_u5 h_j53) (fun w55' w55 R_w55 => ?_)
                            refine rf_bo (gx_55_5 R_w55) ?_
                            refine rf_w (px_55_5 R_w55) (fun w57' w57 R_w57 => ?_)
                            exact (yb_Ma_flow_343 R_w57)
                          · refine rf_ck (ox_55 R_u5) ?_
                            refine rf_ck (all1 (okR_s R_u5 (by decide))) ?_
                            refine rf_bx (rf_gw (ym_Ma_waitOrLeave R_u5)) (by unfold zle; omega) (fun c_u58 u58' u58 r58 r58' R_u58 E_u58 v_u58 => ?_)
                            cases v_u58
                            refine rf_gw ?_
                            exact (yb_Ma_flow_343 R_u58)
theorem ym_Ma_flow {N : Nat} {p : Nat} {c : Nat → Nat} {m : MS} {u : CS} (R : RP (some p) c m u) {v1 : Int32} : RF 1 (some p) VE c u (fm_Ma_flow N u 55 v1) (hm_Ma_flow N m p v1) := yb_Ma_flow_0 (N := N) R
theorem yb_Ma_wrap_0 {N : Nat} {p : Nat} {c : Nat → Nat} {m : MS} {u : CS} (R : RP (some p) c m u) {v1 : Int32} : RF 2 (some p) VE c u (fb_Ma_wrap_0 N () u 55 v1) (hb_Ma_wrap_0 N () m p v1) := by
  unfold fb_Ma_wrap_0 hb_Ma_wrap_0
  refine rf_ck (ox_55 R) ?_
  refine rf_bx (rf_gz (ym_Ma_room R) (by omega)) (by unfold zle; omega) (fun c_u1 u1' u1 r1 r1' R_u1 E_u1 v_u1 => ?_)
  cases v_u1
  refine rf_gw ?_
  refine rf_br ?_ ?_
  · refine rf_ckk ?_
    exact rf_ret R_u1 rfl
  · refine rf_bo (gR_M3 R_u1) ?_
    refine rf_bo (gR_M4 R_u1) ?_
    refine rf_soF R_u1.md (fun j5 h_j5 => ?_)
    refine rf_ck (io_F R_u1 h_j5) ?_
    refine rf_bx0 (rf_gz (ym_Fr_below R_u1 h_j5) (by omega)) (fun u4' u4 r4 R_u4 => ?_)
    refine rf_gw ?_
    refine rf_soP R_u4.md (fun j7 h_j7 => ?_)
    refine rf_ck (io_P R_u4 h_j7) ?_
    refine rf_bx0 (rf_gz (ym_Pr_pair R_u4 h_j7) (by omega)) (fun u6' u6 r6 R_u6 => ?_)
    refine rf_gw ?_
    refine rf_ck (ox_55 R_u6) ?_
    refine rf_ck (all1 (okR_s R_u6 (by decide))) ?_
    refine rf_bx (rf_gw (ym_Ma_answer R_u6)) (by unfold zle; omega) (fun c_u8 u8' u8 r8 r8' R_u8 E_u8 v_u8 => ?_)
    cases v_u8
    refine rf_gw ?_
    refine rf_ckk ?_
    exact rf_ret R_u8 rfl
theorem ym_Ma_wrap {N : Nat} {p : Nat} {c : Nat → Nat} {m : MS} {u : CS} (R : RP (some p) c m u) {v1 : Int32} : RF 2 (some p) VE c u (fm_Ma_wrap N u 55 v1) (hm_Ma_wrap N m p v1) := yb_Ma_wrap_0 (N := N) R
theorem yb_Ma_raise_172 {N : Nat} {p : Nat} {c : Nat → Nat} {m : MS} {u : CS} (R : RP (some p) c m u) : RF 2 (some p) VE c u (fb_Ma_raise_172 N () u) (hb_Ma_raise_172 N () m p) := by
  unfold fb_Ma_raise_172 hb_Ma_raise_172
  exact rf_ret R rfl
theorem yb_Ma_raise_168 {N : Nat} {p : Nat} {c : Nat → Nat} {m : MS} {u : CS} (R : RP (some p) c m u) {t1 : Int32} : RF 2 (some p) VE c u (fb_Ma_raise_168 N () u 55 t1) (hb_Ma_raise_168 N () m p t1) := by
  unfold fb_Ma_raise_168 hb_Ma_raise_168
  refine rf_ck (ox_55 R) ?_
  refine rf_bx (rf_gw (ym_Ma_wrap R)) (by unfold zle; omega) (fun c_u1 u1' u1 r1 r1' R_u1 E_u1 v_u1 => ?_)
  cases v_u1
  refine rf_gw ?_
  exact (yb_Ma_raise_172 R_u1)
theorem yb_Ma_raise_110 {N : Nat} {p : Nat} {c : Nat → Nat} {m : MS} {u : CS} (R : RP (some p) c m u) {t0 : Int64} : RF 2 (some p) VE c u (fb_Ma_raise_110 N () u 55 t0) (hb_Ma_raise_110 N () m p t0) := by
  unfold fb_Ma_raise_110 hb_Ma_raise_110
  refine rf_bo (rx_55_1 R) ?_
  refine rf_bo (gR_M3 R) ?_
  refine rf_bo (gR_M3 R) ?_
  refine rf_so ?_
  refine rf_ck (ox_47 R) ?_
  refine rf_bx0 (rf_gz (ym_Wl_endsWith R ⟨R.md, rfl⟩ ⟨R.md, rfl⟩) (by omega)) (fun u5' u5 r5 R_u5 => ?_)
  refine rf_gw ?_
  exact rf_ret R_u5 rfl
theorem yb_Ma_raise_103 {N : Nat} {p : Nat} {c : Nat → Nat} {m : MS} {u : CS} (R : RP (some p) c m u) {t0 : Nat} {t0' : Nat} {t1 : Int32} (h_t0 : PVn c t0 t0') : RF 2 (some p) VE c u (fb_Ma_raise_103 N () u 55 (some t0) t1) (hb_Ma_raise_103 N () m p t0' t1) := by
  unfold fb_Ma_raise_103 hb_Ma_raise_103
  refine rf_bo (gJ_s10 R) ?_
  refine rf_so ?_
  refine rf_ck (io_P R h_t0) ?_
  refine rf_bx0 (rf_gz (ym_Pr_pair R h_t0) (by omega)) (fun u8' u8 r8 R_u8 => ?_)
  refine rf_gw ?_
  exact (yb_Ma_raise_110 R_u8)
theorem yb_Ma_raise_65 {N : Nat} {p : Nat} {c : Nat → Nat} {m : MS} {u : CS} (R : RP (some p) c m u) {v1 : Int32} : RF 2 (some p) VE c u (fb_Ma_raise_65 N () u 55 v1) (hb_Ma_raise_65 N () m p v1) := by
  unfold fb_Ma_raise_65 hb_Ma_raise_65
  refine rf_bo (gR_M4 R) ?_
  refine rf_soF R.md (fun j11 h_j11 => ?_)
  refine rf_bo (gf_8 R h_j11) ?_
  refine rf_br ?_ ?_
  · refine rf_br ?_ ?_
    · refine rf_bo (gJ_s10 R) ?_
      exact (yb_Ma_raise_110 R)
    · refine rf_bo (gR_M3 R) ?_
      refine rf_br ?_ ?_
      · exact (yb_Ma_raise_103 R ⟨R.md, rfl⟩)
      · exact (yb_Ma_raise_103 R ⟨R.md, rfl⟩)
  · refine rf_bo (gR_M4 R) ?_
    refine rf_soF R.md (fun j15 h_j15 => ?_)
    refine rf_ck (io_F R h_j15) ?_
    refine rf_bx0 (rf_gz (ym_Fr_unwind R h_j15) (by omega)) (fun u14' u14 r14 R_u14 => ?_)
    refine rf_gw ?_
    refine rf_w (px_55_5 R_u14) (fun w16' w16 R_w16 => ?_)
    refine rf_bo (gR_M4 R_w16) ?_
    refine rf_bo (gJ_s10 R_w16) ?_
    refine rf_soF R_w16.md (fun j20 h_j20 => ?_)
    refine rf_ck (io_F R_w16 h_j20) ?_
    refine rf_ck (all1 (okR_s R_w16 (by decide))) ?_
    refine rf_bx (rf_gw (ym_Fr_push R_w16 h_j20)) (by unfold zle; omega) (fun c_u19 u19' u19 r19 r19' R_u19 E_u19 v_u19 => ?_)
    cases v_u19
    refine rf_gw ?_
    refine rf_br ?_ ?_
    · exact (yb_Ma_raise_172 R_u19)
    · refine rf_br ?_ ?_
      · exact (yb_Ma_raise_168 R_u19)
      · exact (yb_Ma_raise_168 R_u19)
theorem yb_Ma_raise_0 {N : Nat} {p : Nat} {c : Nat → Nat} {m : MS} {u : CS} (R : RP (some p) c m u) : RF 2 (some p) VE c u (fb_Ma_raise_0 N () u 55) (hb_Ma_raise_0 N () m p) := by
  unfold fb_Ma_raise_0 hb_Ma_raise_0
  refine rf_bo (gx_55_9 R) ?_
  refine rf_w (px_55_9 R) (fun w24' w24 R_w24 => ?_)
  refine rf_bo (gx_55_12 R_w24) ?_
  refine rf_br ?_ ?_
  · refine rf_bo (gx_55_11 R_w24) ?_
    refine rf_br ?_ ?_
    · exact (yb_Ma_raise_65 R_w24)
    · refine rf_bo (gR_M4 R_w24) ?_
      refine rf_bo (gJ_s10 R_w24) ?_
      refine rf_soF R_w24.md (fun j30 h_j30 => ?_)
      refine rf_ck (io_F R_w24 h_j30) ?_
      refine rf_ck (all1 (okR_s R_w24 (by decide))) ?_
      refine rf_bx (rf_gw (ym_Fr_push R_w24 h_j30)) (by unfold zle; omega) (fun c_u29 u29' u29 r29 r29' R_u29 E_u29 v_u29 => ?_)
      cases v_u29
      refine rf_gw ?_
      refine rf_bo (gx_55_11 R_u29) ?_
      refine rf_ck (ox_55 R_u29) ?_
      refine rf_ck (all1 (okR_s R_u29 (by decide))) ?_
      refine rf_bx (rf_gw (ym_Ma_wrap R_u29)) (by unfold zle; omega) (fun c_u32 u32' u32 r32 r32' R_u32 E_u32 v_u32 => ?_)
      cases v_u32
      refine rf_gw ?_
      refine rf_br ?_ ?_
      · exact rf_ret R_u32 rfl
      · refine rf_bo (gR_M4 R_u32) ?_
        refine rf_soF R_u32.md (fun j35 h_j35 => ?_)
        refine rf_ck (io_F R_u32 h_j35) ?_
        refine rf_bx0 (rf_gz (ym_Fr_below R_u32 h_j35) (by omega)) (fun u34' u34 r34 R_u34 => ?_)
        refine rf_gw ?_
        refine rf_w (pL_s10 R_u34) (fun w36' w36 R_w36 => ?_)
        exact (yb_Ma_raise_65 R_w36)
  · refine rf_ck (ox_55 R_w24) ?_
    refine rf_bx0 (rf_gz (ym_Ma_guardFails R_w24) (by omega)) (fun u37' u37 r37 R_u37 => ?_)
    refine rf_gw ?_
    exact rf_ret R_u37 rfl
theorem ym_Ma_raise {N : Nat} {p : Nat} {c : Nat → Nat} {m : MS} {u : CS} (R : RP (some p) c m u) : RF 2 (some p) VE c u (fm_Ma_raise N u 55) (hm_Ma_raise N m p) := yb_Ma_raise_0 (N := N) R
theorem yb_Wl_tellWatchers_92 {N : Nat} {o : Option Nat} {c : Nat → Nat} {m : MS} {u : CS} {G : (CS → Nat → Option Nat → Int32 → Int32 → Option (CS × Unit))} {G' : (MS → Nat → Int32 → Int32 → Option (MS × Unit))} (hG : ∀ (c : Nat → Nat) (m : MS) (u : CS) (v1 : Nat) (v1' : Nat) (v2 : Int32) (v3 : Int32), RP o c m u → PVn c v1 v1' → RF 3 o VE c u (G u 47 (some v1) v2 v3) (G' m v1' v2 v3)) (R : RP o c m u) {v1 : Nat} {v1' : Nat} {v2 : Int32} {v3 : Int32} (h_v1 : PVn c v1 v1') : RF 3 o VE c u (fb_Wl_tellWatchers_92 N G u 47 (some v1) v2 v3) (hb_Wl_tellWatchers_92 N G' m v1' v2 v3) := by
  unfold fb_Wl_tellWatchers_92 hb_Wl_tellWatchers_92
  exact (hG _ _ _ _ _ _ _ R h_v1)
theorem yb_Wl_tellWatchers_70 {N : Nat} {o : Option Nat} {c : Nat → Nat} {m : MS} {u : CS} {G : (CS → Nat → Option Nat → Int32 → Int32 → Option (CS × Unit))} {G' : (MS → Nat → Int32 → Int32 → Option (MS × Unit))} (hG : ∀ (c : Nat → Nat) (m : MS) (u : CS) (v1 : Nat) (v1' : Nat) (v2 : Int32) (v3 : Int32), RP o c m u → PVn c v1 v1' → RF 3 o VE c u (G u 47 (some v1) v2 v3) (G' m v1' v2 v3)) (R : RP o c m u) {v1 : Nat} {v1' : Nat} {v2 : Int32} {v3 : Int32} (h_v1 : PVn c v1 v1') : RF 3 o VE c u (fb_Wl_tellWatchers_70 N G u 47 (some v1) v2 v3) (hb_Wl_tellWatchers_70 N G' m v1' v2 v3) := by
  unfold fb_Wl_tellWatchers_70 hb_Wl_tellWatchers_70
  refine rf_bo (rx_47_7 R) ?_
  refine rf_so ?_
  refine rf_ai (ax_49 R) ?_
  refine rf_so ?_
  refine rf_bo (gI_P0 R h_v1) ?_
  refine rf_br ?_ ?_
  · exact (yb_Wl_tellWatchers_92 hG R h_v1)
  · refine rf_ck (ox_47 R) ?_
    refine rf_bx0 (ym_Wl_keepWatch R) (fun u6' u6 r6 R_u6 => ?_)
    exact (yb_Wl_tellWatchers_92 hG R_u6 h_v1)
theorem yb_Wl_tellWatchers_4 {N : Nat} {o : Option Nat} {c : Nat → Nat} {m : MS} {u : CS} {G : (CS → Nat → Option Nat → Int32 → Int32 → Option (CS × Unit))} {G' : (MS → Nat → Int32 → Int32 → Option (MS × Unit))} (hG : ∀ (c : Nat → Nat) (m : MS) (u : CS) (v1 : Nat) (v1' : Nat) (v2 : Int32) (v3 : Int32), RP o c m u → PVn c v1 v1' → RF 3 o VE c u (G u 47 (some v1) v2 v3) (G' m v1' v2 v3)) (R : RP o c m u) {v1 : Nat} {v1' : Nat} {v2 : Int32} {v3 : Int32} (h_v1 : PVn c v1 v1') : RF 3 o VE c u (fb_Wl_tellWatchers_4 N G u 47 (some v1) v2 v3) (hb_Wl_tellWatchers_4 N G' m v1' v2 v3) := by
  unfold fb_Wl_tellWatchers_4 hb_Wl_tellWatchers_4
  refine rf_bo (gx_47_10 R) ?_
  refine rf_br ?_ ?_
  · refine rf_w (px_47_10 R) (fun w8' w8 R_w8 => ?_)
    exact rf_ret R_w8 rfl
  · refine rf_bo (rx_47_7 R) ?_
    refine rf_so ?_
    refine rf_ai (ax_49 R) ?_
    refine rf_ck (ox_47 R) ?_
    refine rf_bxP (ym_Wl_find R) (fun u12' u12 r12 r12' R_u12 h_r12 => ?_)
    refine rf_bo (rx_47_8 R_u12) ?_
    refine rf_so ?_
    refine rf_ai (ax_50 R_u12) ?_
    refine rf_so ?_
    refine rf_bo (gI_P0 R_u12 h_v1) ?_
    refine rf_br ?_ ?_
    · refine rf_br2 (PV_n h_r12) ?_ ?_
      · exact (yb_Wl_tellWatchers_70 hG R_u12 h_v1)
      · refine rf_so ?_
        refine rf_bo (gI_P0 R_u12 h_v1) ?_
        refine rf_bo (rx_47_9 R_u12) ?_
        refine rf_so ?_
        refine rf_ai (ax_51 R_u12) ?_
        refine rf_so ?_
        refine rf_bo (gJ_P16 R_u12 h_v1) ?_
        refine rf_so ?_
        refine rf_home R_u12 h_v1 (fun r26 h_r26 => ?_)
        refine rf_ck (ox_47 R_u12) ?_
        refine rf_opt h_r12 (fun r12_j r12_q e1_r12 e2_r12 h_r12j => ?_)
        subst e1_r12
        refine rf_bx (ym_Wl_post R_u12 h_r12j h_r26) (by unfold zle; omega) (fun c_u27 u27' u27 r27 r27' R_u27 E_u27 v_u27 => ?_)
        cases v_u27
        replace h_v1 := E_u27.P h_v1
        exact (yb_Wl_tellWatchers_92 hG R_u27 h_v1)
    · exact (yb_Wl_tellWatchers_70 hG R_u12 h_v1)
theorem yb_Wl_tellWatchers_0 {N : Nat} {o : Option Nat} {c : Nat → Nat} {m : MS} {u : CS} {G : (CS → Nat → Option Nat → Int32 → Int32 → Option (CS × Unit))} {G' : (MS → Nat → Int32 → Int32 → Option (MS × Unit))} (hG : ∀ (c : Nat → Nat) (m : MS) (u : CS) (v1 : Nat) (v1' : Nat) (v2 : Int32) (v3 : Int32), RP o c m u → PVn c v1 v1' → RF 3 o VE c u (G u 47 (some v1) v2 v3) (G' m v1' v2 v3)) (R : RP o c m u) {v1 : Nat} {v1' : Nat} (h_v1 : PVn c v1 v1') : RF 3 o VE c u (fb_Wl_tellWatchers_0 N G u 47 (some v1)) (hb_Wl_tellWatchers_0 N G' m v1') := by
  unfold fb_Wl_tellWatchers_0 hb_Wl_tellWatchers_0
  exact (hG _ _ _ _ _ _ _ R h_v1)
theorem yg_Wl_tellWatchers {N : Nat} {o : Option Nat} : ∀ n, (∀ (c : Nat → Nat) (m : MS) (u : CS) (v1 : Nat) (v1' : Nat) (v2 : Int32) (v3 : Int32), RP o c m u → PVn c v1 v1' → RF 3 o VE c u ((gg_Wl_tellWatchers N n) u 47 (some v1) v2 v3) ((hg_Wl_tellWatchers N n) m v1' v2 v3)) := by
  intro n
  induction n with
  | zero => exact fun c m u v1 v1' v2 v3 R h_v1 => rf_none
  | succ n ih => exact fun c m u v1 v1' v2 v3 R h_v1 => yb_Wl_tellWatchers_4 (N := N) ih R h_v1
theorem ym_Wl_tellWatchers {N : Nat} {o : Option Nat} {c : Nat → Nat} {m : MS} {u : CS} (R : RP o c m u) {v1 : Nat} {v1' : Nat} (h_v1 : PVn c v1 v1') : RF 3 o VE c u (fm_Wl_tellWatchers N u 47 (some v1)) (hm_Wl_tellWatchers N m v1') := yb_Wl_tellWatchers_0 (N := N) (yg_Wl_tellWatchers (N := N) N) R h_v1
theorem yb_Wl_settle_104 {N : Nat} {o : Option Nat} {c : Nat → Nat} {m : MS} {u : CS} {G : (CS → Nat → Option (CS × Unit)) × (CS → Nat → Option Nat → Int32 → Option (CS × Unit))} {G' : (MS → Option (MS × Unit)) × (MS → Nat → Int32 → Option (MS × Unit))} (hG1 : ∀ (c : Nat → Nat) (m : MS) (u : CS), RP o c m u → RF 3 o VE c u (G.1 u 47) (G'.1 m)) (hG2 : ∀ (c : Nat → Nat) (m : MS) (u : CS) (v1 : Nat) (v1' : Nat) (v2 : Int32), RP o c m u → PVn c v1 v1' → RF 3 o VE c u (G.2 u 47 (some v1) v2) (G'.2 m v1' v2)) (R : RP o c m u) : RF 3 o VE c u (fb_Wl_settle_104 N G u 47) (hb_Wl_settle_104 N G' m) := by
  unfold fb_Wl_settle_104 hb_Wl_settle_104
  refine rf_bo (gx_47_16 R) ?_
  refine rf_w (px_47_16 R) (fun w2' w2 R_w2 => ?_)
  exact (hG1 _ _ _ R_w2)
theorem yb_Wl_settle_88 {N : Nat} {o : Option Nat} {c : Nat → Nat} {m : MS} {u : CS} {G : (CS → Nat → Option (CS × Unit)) × (CS → Nat → Option Nat → Int32 → Option (CS × Unit))} {G' : (MS → Option (MS × Unit)) × (MS → Nat → Int32 → Option (MS × Unit))} (hG1 : ∀ (c : Nat → Nat) (m : MS) (u : CS), RP o c m u → RF 3 o VE c u (G.1 u 47) (G'.1 m)) (hG2 : ∀ (c : Nat → Nat) (m : MS) (u : CS) (v1 : Nat) (v1' : Nat) (v2 : Int32), RP o c m u → PVn c v1 v1' → RF 3 o VE c u (G.2 u 47 (some v1) v2) (G'.2 m v1' v2)) (R : RP o c m u) {v1 : Nat} {v1' : Nat} {v2 : Int32} (h_v1 : PVn c v1 v1') : RF 3 o VE c u (fb_Wl_settle_88 N G u 47 (some v1) v2) (hb_Wl_settle_88 N G' m v1' v2) := by
  unfold fb_Wl_settle_88 hb_Wl_settle_88
  exact (hG2 _ _ _ _ _ _ R h_v1)
theorem yb_Wl_settle_40 {N : Nat} {o : Option Nat} {c : Nat → Nat} {m : MS} {u : CS} {G : (CS → Nat → Option (CS × Unit)) × (CS → Nat → Option Nat → Int32 → Option (CS × Unit))} {G' : (MS → Option (MS × Unit)) × (MS → Nat → Int32 → Option (MS × Unit))} (hG1 : ∀ (c : Nat → Nat) (m : MS) (u : CS), RP o c m u → RF 3 o VE c u (G.1 u 47) (G'.1 m)) (hG2 : ∀ (c : Nat → Nat) (m : MS) (u : CS) (v1 : Nat) (v1' : Nat) (v2 : Int32), RP o c m u → PVn c v1 v1' → RF 3 o VE c u (G.2 u 47 (some v1) v2) (G'.2 m v1' v2)) (R : RP o c m u) {v1 : Nat} {v1' : Nat} {v2 : Int32} (h_v1 : PVn c v1 v1') : RF 3 o VE c u (fb_Wl_settle_40 N G u 47 (some v1) v2) (hb_Wl_settle_40 N G' m v1' v2) := by
  unfold fb_Wl_settle_40 hb_Wl_settle_40
  refine rf_so ?_
  refine rf_bo (gq_15 R h_v1) ?_
  refine rf_br ?_ ?_
  · refine rf_so ?_
    refine rf_w (wq_15 R h_v1) (fun w6' w6 R_w6 => ?_)
    refine rf_ck (ox_47 R_w6) ?_
    refine rf_bx (ym_Wl_tellWatchers R_w6 h_v1) (by unfold zle; omega) (fun c_u7 u7' u7 r7 r7' R_u7 E_u7 v_u7 => ?_)
    cases v_u7
    exact (yb_Wl_settle_104 hG1 hG2 R_u7)
  · refine rf_so ?_
    refine rf_bo (gR_P14 R h_v1) ?_
    refine rf_so ?_
    refine rf_ai (aq_14 R h_v1.1) ?_
    refine rf_ck (ox_47 R) ?_
    refine rf_bxP (ym_Wl_find R) (fun u12' u12 r12 r12' R_u12 h_r12 => ?_)
    refine rf_br2 (PV_n h_r12) ?_ ?_
    · exact (yb_Wl_settle_88 hG1 hG2 R_u12 h_v1)
    · refine rf_so ?_
      refine rf_bo (gI_P0 R_u12 h_v1) ?_
      refine rf_boQ h_r12 (fun j16 j16' e1_j16 e2_j16 h_j16 => ?_)
      subst e1_j16
      refine rf_so ?_
      refine rf_ck (io_P R_u12 h_j16) ?_
      refine rf_bx0 (ym_Pr_removeLink R_u12 h_j16) (fun u15' u15 r15 R_u15 => ?_)
      refine rf_so ?_
      refine rf_bo (gI_P0 R_u15 h_v1) ?_
      refine rf_so ?_
      refine rf_bo (gJ_P16 R_u15 h_v1) ?_
      refine rf_so ?_
      refine rf_home R_u15 h_v1 (fun r22 h_r22 => ?_)
      refine rf_ck (ox_47 R_u15) ?_
      refine rf_bx (ym_Wl_signal R_u15 h_j16 h_r22) (by unfold zle; omega) (fun c_u23 u23' u23 r23 r23' R_u23 E_u23 v_u23 => ?_)
      cases v_u23
      replace h_v1 := E_u23.P h_v1
      exact (yb_Wl_settle_88 hG1 hG2 R_u23 h_v1)
theorem yb_Wl_settle_0 {N : Nat} {o : Option Nat} {c : Nat → Nat} {m : MS} {u : CS} {G : (CS → Nat → Option (CS × Unit)) × (CS → Nat → Option Nat → Int32 → Option (CS × Unit))} {G' : (MS → Option (MS × Unit)) × (MS → Nat → Int32 → Option (MS × Unit))} (hG1 : ∀ (c : Nat → Nat) (m : MS) (u : CS), RP o c m u → RF 3 o VE c u (G.1 u 47) (G'.1 m)) (hG2 : ∀ (c : Nat → Nat) (m : MS) (u : CS) (v1 : Nat) (v1' : Nat) (v2 : Int32), RP o c m u → PVn c v1 v1' → RF 3 o VE c u (G.2 u 47 (some v1) v2) (G'.2 m v1' v2)) (R : RP o c m u) : RF 3 o VE c u (fb_Wl_settle_0 N G u 47) (hb_Wl_settle_0 N G' m) := by
  unfold fb_Wl_settle_0 hb_Wl_settle_0
  refine rf_bo (gx_47_16 R) ?_
  refine rf_bo (gx_47_15 R) ?_
  refine rf_br ?_ ?_
  · exact rf_ret R rfl
  · refine rf_bo (rx_47_1 R) ?_
    refine rf_bo (rx_47_14 R) ?_
    refine rf_bo (gx_47_16 R) ?_
    refine rf_so ?_
    refine rf_ai (ax_54 R) ?_
    refine rf_so ?_
    refine rf_aP R (fun r32 h_r32 => ?_)
    refine rf_br2 (PV_n h_r32) ?_ ?_
    · exact (yb_Wl_settle_104 hG1 hG2 R)
    · refine rf_boQ h_r32 (fun j33 j33' e1_j33 e2_j33 h_j33 => ?_)
      subst e1_j33
      refine rf_so ?_
      refine rf_w (wq_12 R h_j33) (fun w34' w34 R_w34 => ?_)
      exact (hG2 _ _ _ _ _ _ R_w34 h_j33)
theorem yg_Wl_settle {N : Nat} {o : Option Nat} : ∀ n, (∀ (c : Nat → Nat) (m : MS) (u : CS), RP o c m u → RF 3 o VE c u ((gg_Wl_settle N n).1 u 47) ((hg_Wl_settle N n).1 m)) ∧ (∀ (c : Nat → Nat) (m : MS) (u : CS) (v1 : Nat) (v1' : Nat) (v2 : Int32), RP o c m u → PVn c v1 v1' → RF 3 o VE c u ((gg_Wl_settle N n).2 u 47 (some v1) v2) ((hg_Wl_settle N n).2 m v1' v2)) := by
  intro n
  induction n with
  | zero => exact ⟨fun c m u R => rf_none, fun c m u v1 v1' v2 R h_v1 => rf_none⟩
  | succ n ih => exact ⟨fun c m u R => yb_Wl_settle_0 (N := N) ih.1 ih.2 R, fun c m u v1 v1' v2 R h_v1 => yb_Wl_settle_40 (N := N) ih.1 ih.2 R h_v1⟩
theorem ym_Wl_settle {N : Nat} {o : Option Nat} {c : Nat → Nat} {m : MS} {u : CS} (R : RP o c m u) : RF 3 o VE c u (fm_Wl_settle N u 47) (hm_Wl_settle N m) := yb_Wl_settle_0 (N := N) (yg_Wl_settle (N := N) N).1 (yg_Wl_settle (N := N) N).2 R
theorem yb_Ma_goOn_219 {N : Nat} {p : Nat} {c : Nat → Nat} {m : MS} {u : CS} {G : (CS → Nat → Int32 → Option (CS × Int32))} {G' : (MS → Nat → Int32 → Option (MS × Int32))} (hG : ∀ (c : Nat → Nat) (m : MS) (u : CS) (v3 : Int32), RP (some p) c m u → RF 2 (some p) VE c u (G u 55 v3) (G' m p v3)) (R : RP (some p) c m u) : RF 2 (some p) VE c u (fb_Ma_goOn_219 N G u 55) (hb_Ma_goOn_219 N G' m p) := by
  unfold fb_Ma_goOn_219 hb_Ma_goOn_219
  refine rf_bo (gR_M4 R) ?_
  refine rf_bo (gx_55_5 R) ?_
  refine rf_soF R.md (fun j4 h_j4 => ?_)
  refine rf_ck (io_F R h_j4) ?_
  refine rf_bx0 (rf_gz (ym_Fr_setPlace R h_j4) (by omega)) (fun u3' u3 r3 R_u3 => ?_)
  refine rf_gw ?_
  refine rf_bo (gx_55_6 R_u3) ?_
  exact rf_ret R_u3 rfl
theorem yb_Ma_goOn_206 {N : Nat} {p : Nat} {c : Nat → Nat} {m : MS} {u : CS} {G : (CS → Nat → Int32 → Option (CS × Int32))} {G' : (MS → Nat → Int32 → Option (MS × Int32))} (hG : ∀ (c : Nat → Nat) (m : MS) (u : CS) (v3 : Int32), RP (some p) c m u → RF 2 (some p) VE c u (G u 55 v3) (G' m p v3)) (R : RP (some p) c m u) {v3 : Int32} : RF 2 (some p) VE c u (fb_Ma_goOn_206 N G u 55 v3) (hb_Ma_goOn_206 N G' m p v3) := by
  unfold fb_Ma_goOn_206 hb_Ma_goOn_206
  refine rf_bo (rx_55_1 R) ?_
  refine rf_so ?_
  refine rf_ck (ox_47 R) ?_
  refine rf_bx (rf_gz (ym_Wl_settle R) (by omega)) (by unfold zle; omega) (fun c_u7 u7' u7 r7 r7' R_u7 E_u7 v_u7 => ?_)
  cases v_u7
  refine rf_gw ?_
  exact (hG _ _ _ _ R_u7)
theorem yb_Ma_goOn_195 {N : Nat} {p : Nat} {c : Nat → Nat} {m : MS} {u : CS} {G : (CS → Nat → Int32 → Option (CS × Int32))} {G' : (MS → Nat → Int32 → Option (MS × Int32))} (hG : ∀ (c : Nat → Nat) (m : MS) (u : CS) (v3 : Int32), RP (some p) c m u → RF 2 (some p) VE c u (G u 55 v3) (G' m p v3)) (R : RP (some p) c m u) {v3 : Int32} : RF 2 (some p) VE c u (fb_Ma_goOn_195 N G u 55 v3) (hb_Ma_goOn_195 N G' m p v3) := by
  unfold fb_Ma_goOn_195 hb_Ma_goOn_195
  refine rf_bo (gx_55_9 R) ?_
  refine rf_br ?_ ?_
  · exact (yb_Ma_goOn_206 hG R)
  · refine rf_ck (ox_55 R) ?_
    refine rf_ck (all1 (okR_s R (by decide))) ?_
    refine rf_bx (rf_gw (ym_Ma_raise R)) (by unfold zle; omega) (fun c_u10 u10' u10 r10 r10' R_u10 E_u10 v_u10 => ?_)
    cases v_u10
    refine rf_gw ?_
    exact (yb_Ma_goOn_206 hG R_u10)
theorem yb_Ma_goOn_67 {N : Nat} {p : Nat} {c : Nat → Nat} {m : MS} {u : CS} {G : (CS → Nat → Int32 → Option (CS × Int32))} {G' : (MS → Nat → Int32 → Option (MS × Int32))} (hG : ∀ (c : Nat → Nat) (m : MS) (u : CS) (v3 : Int32), RP (some p) c m u → RF 2 (some p) VE c u (G u 55 v3) (G' m p v3)) (R : RP (some p) c m u) {v3 : Int32} : RF 2 (some p) VE c u (fb_Ma_goOn_67 N G u 55 v3) (hb_Ma_goOn_67 N G' m p v3) := by
  unfold fb_Ma_goOn_67 hb_Ma_goOn_67
  refine rf_br ?_ ?_
  · exact (yb_Ma_goOn_219 hG R)
  · refine rf_bo (gR_M3 R) ?_
    refine rf_soP R.md (fun j12 h_j12 => ?_)
    refine rf_bo (gq_9 R h_j12) ?_
    refine rf_br ?_ ?_
    · refine rf_bo (gx_55_8 R) ?_
      refine rf_br ?_ ?_
      · refine rf_bo (rx_55_0 R) ?_
        refine rf_bo (gx_55_5 R) ?_
        refine rf_so ?_
        refine rf_ck (ox_22 R) ?_
        refine rf_bx0 (rf_gz (ym_Co_at R) (by omega)) (fun u17' u17 r17 R_u17 => ?_)
        refine rf_gw ?_
        refine rf_br ?_ ?_
        · refine rf_bo (rx_55_0 R_u17) ?_
          refine rf_bo (gx_55_5 R_u17) ?_
          refine rf_so ?_
          refine rf_ck (ox_22 R_u17) ?_
          refine rf_bx0 (rf_gz (ym_Co_at R_u17) (by omega)) (fun u29' u29 r29 R_u29 => ?_)
          refine rf_gw ?_
          refine rf_ck (ox_55 R_u29) ?_
          refine rf_ck (all1 (okR_s R_u29 (by decide))) ?_
          refine rf_bx (rf_gw (ym_Ma_predefined R_u29)) (by unfold zle; omega) (fun c_u31 u31' u31 r31 r31' R_u31 E_u31 v_u31 => ?_)
          cases v_u31
          refine rf_gw ?_
          exact (yb_Ma_goOn_195 hG R_u31)
        · refine rf_br ?_ ?_
          · refine rf_bo (rx_55_0 R_u17) ?_
            refine rf_bo (gx_55_5 R_u17) ?_
            refine rf_so ?_
            refine rf_ck (ox_22 R_u17) ?_
            refine rf_bx0 (rf_gz (ym_Co_at R_u17) (by omega)) (fun u24' u24 r24 R_u24 => ?_)
            refine rf_gw ?_
            refine rf_ck (ox_55 R_u24) ?_
            refine rf_ck (all1 (okR_s R_u24 (by decide))) ?_
            refine rf_bx (rf_gw (ym_Ma_toward R_u24)) (by unfold zle; omega) (fun c_u26 u26' u26 r26 r26' R_u26 E_u26 v_u26 => ?_)
            cases v_u26
            refine rf_gw ?_
            exact (yb_Ma_goOn_195 hG R_u26)
          · refine rf_br ?_ ?_
            · refine rf_br ?_ ?_
              · refine rf_ck (ox_55 R_u17) ?_
                refine rf_ck (all1 (okR_s R_u17 (by decide))) ?_
                refine rf_bx (rf_gw (ym_Ma_flow R_u17)) (by unfold zle; omega) (fun c_u19 u19' u19 r19 r19' R_u19 E_u19 v_u19 => ?_)
                cases v_u19
                refine rf_gw ?_
                exact (yb_Ma_goOn_195 hG R_u19)
              · refine rf_ck (ox_55 R_u17) ?_
                refine rf_ck (all1 (okR_s R_u17 (by decide))) ?_
                refine rf_bx (rf_gw (ym_Ma_value R_u17)) (by unfold zle; omega) (fun c_u20 u20' u20 r20 r20' R_u20 E_u20 v_u20 => ?_)
                cases v_u20
                refine rf_gw ?_
                exact (yb_Ma_goOn_195 hG R_u20)
            · refine rf_ck (ox_55 R_u17) ?_
              refine rf_ck (all1 (okR_s R_u17 (by decide))) ?_
              refine rf_bx (rf_gw (ym_Ma_making R_u17)) (by unfold zle; omega) (fun c_u21 u21' u21 r21 r21' R_u21 E_u21 v_u21 => ?_)
              cases v_u21
              refine rf_gw ?_
              exact (yb_Ma_goOn_195 hG R_u21)
      · exact (yb_Ma_goOn_219 hG R)
    · exact (yb_Ma_goOn_219 hG R)
theorem yb_Ma_goOn_0 {N : Nat} {c : Nat → Nat} {m : MS} {u : CS} {G : (CS → Nat → Int32 → Option (CS × Int32))} {G' : (MS → Nat → Int32 → Option (MS × Int32))} (hG : ∀ (p : Nat), ∀ (c : Nat → Nat) (m : MS) (u : CS) (v3 : Int32), RP (some p) c m u → RF 2 (some p) VE c u (G u 55 v3) (G' m p v3)) (R : RP none c m u) {v1 : Nat} {v1' : Nat} {v2 : Int32} (h_v1 : PVn c v1 v1') : RF 2 none VE c u (fb_Ma_goOn_0 N G u 55 (some v1) v2) (hb_Ma_goOn_0 N G' m v1' v2) := by
  unfold fb_Ma_goOn_0 hb_Ma_goOn_0
  refine rf_take R h_v1 (fun w35 R_w35 => ?_)
  refine rf_bo (gR_M4 R_w35) ?_
  refine rf_soF R_w35.md (fun j38 h_j38 => ?_)
  refine rf_ck (io_F R_w35 h_j38) ?_
  refine rf_bx0 (rf_gz (ym_Fr_place R_w35 h_j38) (by omega)) (fun u37' u37 r37 R_u37 => ?_)
  refine rf_gw ?_
  refine rf_w (px_55_5 R_u37) (fun w39' w39 R_w39 => ?_)
  refine rf_w (px_55_6 R_w39) (fun w40' w40 R_w40 => ?_)
  refine rf_w (px_55_7 R_w40) (fun w41' w41 R_w41 => ?_)
  refine rf_w (px_55_8 R_w41) (fun w42' w42 R_w42 => ?_)
  refine rf_w (px_55_9 R_w42) (fun w43' w43 R_w43 => ?_)
  refine rf_w (px_55_12 R_w43) (fun w44' w44 R_w44 => ?_)
  refine rf_bo (gR_M3 R_w44) ?_
  refine rf_soP R_w44.md (fun j46 h_j46 => ?_)
  refine rf_w (wq_9 R_w44 h_j46) (fun w47' w47 R_w47 => ?_)
  refine rf_bo (gR_M4 R_w47) ?_
  refine rf_soF R_w47.md (fun j49 h_j49 => ?_)
  refine rf_w (wf_9 R_w47 h_j49) (fun w50' w50 R_w50 => ?_)
  exact (hG _ _ _ _ _ R_w50)
theorem yg_Ma_goOn {N : Nat} {p : Nat} : ∀ n, (∀ (c : Nat → Nat) (m : MS) (u : CS) (v3 : Int32), RP (some p) c m u → RF 2 (some p) VE c u ((gg_Ma_goOn N n) u 55 v3) ((hg_Ma_goOn N n) m p v3)) := by
  intro n
  induction n with
  | zero => exact fun c m u v3 R => rf_none
  | succ n ih => exact fun c m u v3 R => yb_Ma_goOn_67 (N := N) ih R
theorem ym_Ma_goOn {N : Nat} {c : Nat → Nat} {m : MS} {u : CS} (R : RP none c m u) {v1 : Nat} {v1' : Nat} {v2 : Int32} (h_v1 : PVn c v1 v1') : RF 2 none VE c u (fm_Ma_goOn N u 55 (some v1) v2) (hm_Ma_goOn N m v1' v2) := yb_Ma_goOn_0 (N := N) (fun p => yg_Ma_goOn (N := N) (p := p) N) R h_v1
end
section
set_option maxRecDepth 100000
theorem yb_H_go_81 {N : Nat} {c : Nat → Nat} {m : MS} {u : CS} (R : RP none c m u) {v2 : Int32} {v3 : Nat} {v3' : Nat} (h_v3 : PVn c v3 v3') : RF 2 none VE c u (fb_H_go_81 N () u 0 v2 (some v3)) (hb_H_go_81 N () m v2 v3') := by
  unfold fb_H_go_81 hb_H_go_81
  refine rf_bo (rx_0_7 R) ?_
  refine rf_so ?_
  refine rf_ck (ox_55 R) ?_
  refine rf_ck (all2 (okR_s R (by decide)) (okR_P R h_v3)) ?_
  refine rf_bx (rf_gw (ym_Ma_goOn R h_v3)) (by unfold zle; omega) (fun c_u2 u2' u2 r2 r2' R_u2 E_u2 v_u2 => ?_)
  cases v_u2
  refine rf_gw ?_
  exact rf_ret R_u2 rfl
theorem yb_H_go_71 {N : Nat} {c : Nat → Nat} {m : MS} {u : CS} (R : RP none c m u) : RF 2 none VE c u (fb_H_go_71 N () u) (hb_H_go_71 N () m) := by
  unfold fb_H_go_71 hb_H_go_71
  exact rf_ret R rfl
theorem yb_H_go_11 {N : Nat} {c : Nat → Nat} {m : MS} {u : CS} (R : RP none c m u) : RF 2 none VE c u (fb_H_go_11 N () u) (hb_H_go_11 N () m) := by
  unfold fb_H_go_11 hb_H_go_11
  exact rf_ret R rfl
theorem yb_H_go_0 {N : Nat} {c : Nat → Nat} {m : MS} {u : CS} (R : RP none c m u) {v1 : Int32} {v2 : Int32} : RF 2 none VE c u (fb_H_go_0 N () u 0 v1 v2) (hb_H_go_0 N () m v1 v2) := by
  unfold fb_H_go_0 hb_H_go_0
  refine rf_br ?_ ?_
  · exact (yb_H_go_11 R)
  · refine rf_br ?_ ?_
    · refine rf_bo (rx_0_6 R) ?_
      refine rf_so ?_
      refine rf_ck (ox_47 R) ?_
      refine rf_bxP (rf_gz (ym_Wl_find R) (by omega)) (fun u5' u5 r5 r5' R_u5 h_r5 => ?_)
      refine rf_gw ?_
      refine rf_br2 (PV_n h_r5) ?_ ?_
      · exact rf_ret R_u5 rfl
      · refine rf_boQ h_r5 (fun j7 j7' e1_j7 e2_j7 h_j7 => ?_)
        subst e1_j7
        refine rf_so ?_
        refine rf_bo (gq_9 R_u5 h_j7) ?_
        refine rf_br ?_ ?_
        · exact (yb_H_go_71 R_u5)
        · refine rf_so ?_
          refine rf_bo (gq_9 R_u5 h_j7) ?_
          refine rf_br ?_ ?_
          · refine rf_bo (rx_0_6 R_u5) ?_
            refine rf_so ?_
            refine rf_ck (ox_47 R_u5) ?_
            refine rf_bx0 (rf_gz (ym_Wl_isReady R_u5 h_j7) (by omega)) (fun u12' u12 r12 R_u12 => ?_)
            refine rf_gw ?_
            refine rf_br ?_ ?_
            · exact (yb_H_go_71 R_u12)
            · exact (yb_H_go_81 R_u12 h_j7)
          · exact (yb_H_go_81 R_u5 h_j7)
    · exact (yb_H_go_11 R)
theorem ym_H_go {N : Nat} {c : Nat → Nat} {m : MS} {u : CS} (R : RP none c m u) {v1 : Int32} {v2 : Int32} : RF 2 none VE c u (fm_H_go N u 0 v1 v2) (hm_H_go N m v1 v2) := yb_H_go_0 (N := N) R
theorem yb_H_clock_24 {N : Nat} {c : Nat → Nat} {m : MS} {u : CS} (R : RP none c m u) : RF 0 none VE c u (fb_H_clock_24 N () u) (hb_H_clock_24 N () m) := by
  unfold fb_H_clock_24 hb_H_clock_24
  exact rf_ret R rfl
theorem yb_H_clock_0 {N : Nat} {c : Nat → Nat} {m : MS} {u : CS} (R : RP none c m u) {v1 : Int32} : RF 0 none VE c u (fb_H_clock_0 N () u 0 v1) (hb_H_clock_0 N () m v1) := by
  unfold fb_H_clock_0 hb_H_clock_0
  refine rf_br ?_ ?_
  · exact (yb_H_clock_24 R)
  · refine rf_br ?_ ?_
    · exact (yb_H_clock_24 R)
    · refine rf_bo (rx_0_6 R) ?_
      refine rf_so ?_
      refine rf_bo (gx_47_4 R) ?_
      refine rf_br ?_ ?_
      · refine rf_bo (rx_0_6 R) ?_
        refine rf_so ?_
        refine rf_bo (gx_47_3 R) ?_
        refine rf_br ?_ ?_
        · exact rf_ret R rfl
        · refine rf_bo (rx_0_6 R) ?_
          refine rf_so ?_
          refine rf_bo (gx_47_4 R) ?_
          refine rf_w (px_47_4 R) (fun w10' w10 R_w10 => ?_)
          refine rf_bo (rx_0_6 R_w10) ?_
          refine rf_so ?_
          refine rf_bo (gx_47_4 R_w10) ?_
          exact rf_ret R_w10 rfl
      · exact (yb_H_clock_24 R)
theorem ym_H_clock {N : Nat} {c : Nat → Nat} {m : MS} {u : CS} (R : RP none c m u) {v1 : Int32} : RF 0 none VE c u (fm_H_clock N u 0 v1) (hm_H_clock N m v1) := yb_H_clock_0 (N := N) R
theorem yb_Wl_postPair_17 {N : Nat} {o : Option Nat} {c : Nat → Nat} {m : MS} {u : CS} (R : RP o c m u) : RF 3 o VE c u (fb_Wl_postPair_17 N () u) (hb_Wl_postPair_17 N () m) := by
  unfold fb_Wl_postPair_17 hb_Wl_postPair_17
  exact rf_ret R rfl
theorem yb_Wl_postPair_0 {N : Nat} {o : Option Nat} {c : Nat → Nat} {m : MS} {u : CS} (R : RP o c m u) {v1 : Nat} {v1' : Nat} {v2 : Int32} (h_v1 : PVn c v1 v1') : RF 3 o VE c u (fb_Wl_postPair_0 N () u 47 (some v1) v2) (hb_Wl_postPair_0 N () m v1' v2) := by
  unfold fb_Wl_postPair_0 hb_Wl_postPair_0
  refine rf_so ?_
  refine rf_bo (gq_9 R h_v1) ?_
  refine rf_br ?_ ?_
  · exact (yb_Wl_postPair_17 R)
  · refine rf_so ?_
    refine rf_bo (gq_7 R h_v1) ?_
    refine rf_br ?_ ?_
    · refine rf_so ?_
      refine rf_ck (io_P R h_v1) ?_
      refine rf_bx (ym_Pr_want R h_v1) (by unfold zle; omega) (fun c_u5 u5' u5 r5 r5' R_u5 E_u5 v_u5 => ?_)
      cases v_u5
      replace h_v1 := E_u5.P h_v1
      refine rf_br ?_ ?_
      · refine rf_ck (ox_47 R_u5) ?_
        refine rf_bx0 (ym_Wl_endsBy R_u5 h_v1) (fun u32' u32 r32 R_u32 => ?_)
        exact rf_ret R_u32 rfl
      · refine rf_so ?_
        refine rf_bo (gq_4 R_u5 h_v1) ?_
        refine rf_so ?_
        refine rf_bo (gR_P2 R_u5 h_v1) ?_
        refine rf_bx0 (ym_Te_make R_u5) (fun u11' u11 r11 R_u11 => ?_)
        refine rf_so ?_
        refine rf_wk (sq_2 R_u11 h_v1.1) (fun w13' w13 R_w13 => ?_)
        refine rf_so ?_
        refine rf_bo (gR_P2 R_w13 h_v1) ?_
        refine rf_bx0 (ym_Te_make R_w13) (fun u16' u16 r16 R_u16 => ?_)
        refine rf_so ?_
        refine rf_wk (sq_2 R_u16 h_v1.1) (fun w18' w18 R_w18 => ?_)
        refine rf_so ?_
        refine rf_bo (gR_P2 R_w18 h_v1) ?_
        refine rf_so ?_
        refine rf_bo (gI_P0 R_w18 h_v1) ?_
        refine rf_bx0 (ym_Te_make R_w18) (fun u23' u23 r23 R_u23 => ?_)
        refine rf_so ?_
        refine rf_wk (sq_2 R_u23 h_v1.1) (fun w25' w25 R_w25 => ?_)
        refine rf_so ?_
        refine rf_bo (gq_4 R_w25 h_v1) ?_
        refine rf_w (wq_4 R_w25 h_v1) (fun w28' w28 R_w28 => ?_)
        refine rf_bx0 (ym_Te_make R_w28) (fun u29' u29 r29 R_u29 => ?_)
        refine rf_so ?_
        refine rf_ck (io_P R_u29 h_v1) ?_
        refine rf_bx0 (ym_Pr_comes R_u29 h_v1) (fun u30' u30 r30 R_u30 => ?_)
        exact rf_ret R_u30 rfl
    · exact (yb_Wl_postPair_17 R)
theorem ym_Wl_postPair {N : Nat} {o : Option Nat} {c : Nat → Nat} {m : MS} {u : CS} (R : RP o c m u) {v1 : Nat} {v1' : Nat} {v2 : Int32} (h_v1 : PVn c v1 v1') : RF 3 o VE c u (fm_Wl_postPair N u 47 (some v1) v2) (hm_Wl_postPair N m v1' v2) := yb_Wl_postPair_0 (N := N) R h_v1
theorem yb_H_send_112 {N : Nat} {c : Nat → Nat} {m : MS} {u : CS} (R : RP none c m u) : RF 3 none VE c u (fb_H_send_112 N () u 0) (hb_H_send_112 N () m) := by
  unfold fb_H_send_112 hb_H_send_112
  refine rf_bo (rx_0_6 R) ?_
  refine rf_so ?_
  refine rf_ck (ox_47 R) ?_
  refine rf_bx (ym_Wl_settle R) (by unfold zle; omega) (fun c_u2 u2' u2 r2 r2' R_u2 E_u2 v_u2 => ?_)
  cases v_u2
  exact rf_ret R_u2 rfl
theorem yb_H_send_91 {N : Nat} {c : Nat → Nat} {m : MS} {u : CS} (R : RP none c m u) {v3 : Int32} {v4 : Option Nat} {v4' : Option Nat} {t0 : Int32} (h_v4 : PVo c v4 v4') : RF 3 none VE c u (fb_H_send_91 N () u 0 v3 v4 t0) (hb_H_send_91 N () m v3 v4' t0) := by
  unfold fb_H_send_91 hb_H_send_91
  refine rf_bo (rx_0_6 R) ?_
  refine rf_bx0 (ym_Te_make R) (fun u5' u5 r5 R_u5 => ?_)
  refine rf_so ?_
  refine rf_ck (ox_47 R_u5) ?_
  refine rf_opt h_v4 (fun v4_j v4_q e1_v4 e2_v4 h_v4j => ?_)
  subst e1_v4
  refine rf_bx (ym_Wl_post R_u5 h_v4j PV_0) (by unfold zle; omega) (fun c_u6 u6' u6 r6 r6' R_u6 E_u6 v_u6 => ?_)
  cases v_u6
  exact (yb_H_send_112 R_u6)
theorem yb_H_send_54 {N : Nat} {c : Nat → Nat} {m : MS} {u : CS} (R : RP none c m u) : RF 3 none VE c u (fb_H_send_54 N () u) (hb_H_send_54 N () m) := by
  unfold fb_H_send_54 hb_H_send_54
  exact rf_ret R rfl
theorem yb_H_send_45 {N : Nat} {c : Nat → Nat} {m : MS} {u : CS} (R : RP none c m u) {v2 : Int32} {v3 : Int32} {v4 : Option Nat} {v4' : Option Nat} (h_v4 : PVo c v4 v4') : RF 3 none VE c u (fb_H_send_45 N () u 0 v2 v3 v4) (hb_H_send_45 N () m v2 v3 v4') := by
  unfold fb_H_send_45 hb_H_send_45
  refine rf_br ?_ ?_
  · exact (yb_H_send_54 R)
  · refine rf_br ?_ ?_
    · refine rf_br ?_ ?_
      · refine rf_bo (rx_0_6 R) ?_
        refine rf_so ?_
        refine rf_ck (ox_47 R) ?_
        refine rf_opt h_v4 (fun v4_j v4_q e1_v4 e2_v4 h_v4j => ?_)
        subst e1_v4
        refine rf_bx (ym_Wl_postPair R h_v4j) (by unfold zle; omega) (fun c_u9 u9' u9 r9 r9' R_u9 E_u9 v_u9 => ?_)
        cases v_u9
        exact (yb_H_send_112 R_u9)
      · refine rf_br ?_ ?_
        · exact (yb_H_send_91 R h_v4)
        · exact (yb_H_send_91 R h_v4)
    · exact (yb_H_send_54 R)
theorem yb_H_send_35 {N : Nat} {c : Nat → Nat} {m : MS} {u : CS} (R : RP none c m u) : RF 3 none VE c u (fb_H_send_35 N () u) (hb_H_send_35 N () m) := by
  unfold fb_H_send_35 hb_H_send_35
  exact rf_ret R rfl
theorem yb_H_send_0 {N : Nat} {c : Nat → Nat} {m : MS} {u : CS} (R : RP none c m u) {v1 : Int32} {v2 : Int32} {v3 : Int32} : RF 3 none VE c u (fb_H_send_0 N () u 0 v1 v2 v3) (hb_H_send_0 N () m v1 v2 v3) := by
  unfold fb_H_send_0 hb_H_send_0
  refine rf_bo (rx_0_6 R) ?_
  refine rf_so ?_
  refine rf_ck (ox_47 R) ?_
  refine rf_bxP (ym_Wl_find R) (fun u12' u12 r12 r12' R_u12 h_r12 => ?_)
  refine rf_br2 (PV_n h_r12) ?_ ?_
  · exact (yb_H_send_35 R_u12)
  · refine rf_br ?_ ?_
    · refine rf_br ?_ ?_
      · exact (yb_H_send_35 R_u12)
      · refine rf_bo (rx_0_0 R_u12) ?_
        refine rf_so ?_
        refine rf_bo (gx_1_2 R_u12) ?_
        refine rf_br ?_ ?_
        · exact (yb_H_send_45 R_u12 h_r12)
        · exact (yb_H_send_35 R_u12)
    · exact (yb_H_send_45 R_u12 h_r12)
theorem ym_H_send {N : Nat} {c : Nat → Nat} {m : MS} {u : CS} (R : RP none c m u) {v1 : Int32} {v2 : Int32} {v3 : Int32} : RF 3 none VE c u (fm_H_send N u 0 v1 v2 v3) (hm_H_send N m v1 v2 v3) := yb_H_send_0 (N := N) R
theorem yb_Pr_wakes_26 {N : Nat} {o : Option Nat} {c : Nat → Nat} {m : MS} {u : CS} (R : RP o c m u) {t0 : Int32} : RF 0 o VE c u (fb_Pr_wakes_26 N () u t0) (hb_Pr_wakes_26 N () m t0) := by
  unfold fb_Pr_wakes_26 hb_Pr_wakes_26
  exact rf_ret R rfl
theorem yb_Pr_wakes_0 {N : Nat} {o : Option Nat} {c : Nat → Nat} {m : MS} {u : CS} (R : RP o c m u) {v0 : Nat} {v0' : Nat} (h_v0 : PVn c v0 v0') : RF 0 o VE c u (fb_Pr_wakes_0 N () u v0) (hb_Pr_wakes_0 N () m v0') := by
  unfold fb_Pr_wakes_0 hb_Pr_wakes_0
  refine rf_bo (gJ_P10 R h_v0) ?_
  refine rf_br ?_ ?_
  · exact (yb_Pr_wakes_26 R)
  · refine rf_bo (gJ_P10 R h_v0) ?_
    refine rf_lt ?_
    exact (yb_Pr_wakes_26 R)
theorem ym_Pr_wakes {N : Nat} {o : Option Nat} {c : Nat → Nat} {m : MS} {u : CS} (R : RP o c m u) {v0 : Nat} {v0' : Nat} (h_v0 : PVn c v0 v0') : RF 0 o VE c u (fm_Pr_wakes N u v0) (hm_Pr_wakes N m v0') := yb_Pr_wakes_0 (N := N) R h_v0
theorem yb_H_process_269 {N : Nat} {c : Nat → Nat} {m : MS} {u : CS} (R : RP none c m u) {t0 : Int32} : RF 0 none VE c u (fb_H_process_269 N () u t0) (hb_H_process_269 N () m t0) := by
  unfold fb_H_process_269 hb_H_process_269
  exact rf_ret R rfl
theorem yb_H_process_252 {N : Nat} {c : Nat → Nat} {m : MS} {u : CS} (R : RP none c m u) {t0 : Int32} : RF 0 none VE c u (fb_H_process_252 N () u t0) (hb_H_process_252 N () m t0) := by
  unfold fb_H_process_252 hb_H_process_252
  exact rf_ret R rfl
theorem yb_H_process_233 {N : Nat} {c : Nat → Nat} {m : MS} {u : CS} (R : RP none c m u) {t0 : Int32} : RF 0 none VE c u (fb_H_process_233 N () u t0) (hb_H_process_233 N () m t0) := by
  unfold fb_H_process_233 hb_H_process_233
  exact rf_ret R rfl
theorem yb_H_process_219 {N : Nat} {c : Nat → Nat} {m : MS} {u : CS} (R : RP none c m u) {t0 : Int32} : RF 0 none VE c u (fb_H_process_219 N () u t0) (hb_H_process_219 N () m t0) := by
  unfold fb_H_process_219 hb_H_process_219
  exact rf_ret R rfl
theorem yb_H_process_218 {N : Nat} {c : Nat → Nat} {m : MS} {u : CS} (R : RP none c m u) : RF 0 none VE c u (fb_H_process_218 N () u) (hb_H_process_218 N () m) := by
  unfold fb_H_process_218 hb_H_process_218
  exact (yb_H_process_219 R)
theorem yb_H_process_201 {N : Nat} {c : Nat → Nat} {m : MS} {u : CS} (R : RP none c m u) {t0 : Int32} : RF 0 none VE c u (fb_H_process_201 N () u t0) (hb_H_process_201 N () m t0) := by
  unfold fb_H_process_201 hb_H_process_201
  exact rf_ret R rfl
theorem yb_H_process_183 {N : Nat} {c : Nat → Nat} {m : MS} {u : CS} (R : RP none c m u) {t0 : Int32} : RF 0 none VE c u (fb_H_process_183 N () u t0) (hb_H_process_183 N () m t0) := by
  unfold fb_H_process_183 hb_H_process_183
  exact rf_ret R rfl
theorem yb_H_process_169 {N : Nat} {c : Nat → Nat} {m : MS} {u : CS} (R : RP none c m u) {t0 : Int32} : RF 0 none VE c u (fb_H_process_169 N () u t0) (hb_H_process_169 N () m t0) := by
  unfold fb_H_process_169 hb_H_process_169
  exact rf_ret R rfl
theorem yb_H_process_150 {N : Nat} {c : Nat → Nat} {m : MS} {u : CS} (R : RP none c m u) {t0 : Int32} : RF 0 none VE c u (fb_H_process_150 N () u t0) (hb_H_process_150 N () m t0) := by
  unfold fb_H_process_150 hb_H_process_150
  exact rf_ret R rfl
theorem yb_H_process_136 {N : Nat} {c : Nat → Nat} {m : MS} {u : CS} (R : RP none c m u) {t0 : Int32} : RF 0 none VE c u (fb_H_process_136 N () u t0) (hb_H_process_136 N () m t0) := by
  unfold fb_H_process_136 hb_H_process_136
  exact rf_ret R rfl
theorem yb_H_process_119 {N : Nat} {c : Nat → Nat} {m : MS} {u : CS} (R : RP none c m u) {t0 : Int32} : RF 0 none VE c u (fb_H_process_119 N () u t0) (hb_H_process_119 N () m t0) := by
  unfold fb_H_process_119 hb_H_process_119
  exact rf_ret R rfl
theorem yb_H_process_115 {N : Nat} {c : Nat → Nat} {m : MS} {u : CS} (R : RP none c m u) {v3 : Nat} {v3' : Nat} (h_v3 : PVn c v3 v3') : RF 0 none VE c u (fb_H_process_115 N () u (some v3)) (hb_H_process_115 N () m v3') := by
  unfold fb_H_process_115 hb_H_process_115
  refine rf_so ?_
  refine rf_bo (gq_9 R h_v3) ?_
  exact (yb_H_process_119 R)
theorem yb_H_process_28 {N : Nat} {c : Nat → Nat} {m : MS} {u : CS} (R : RP none c m u) {v1 : Int32} {v2 : Int32} {v3 : Nat} {v3' : Nat} {t0 : Int32} (h_v3 : PVn c v3 v3') : RF 0 none VE c u (fb_H_process_28 N () u 0 v1 v2 (some v3) t0) (hb_H_process_28 N () m v1 v2 v3' t0) := by
  unfold fb_H_process_28 hb_H_process_28
  refine rf_br ?_ ?_
  · refine rf_so ?_
    refine rf_bo (gq_9 R h_v3) ?_
    refine rf_br ?_ ?_
    · refine rf_bo (rx_0_6 R) ?_
      refine rf_so ?_
      refine rf_ck (ox_47 R) ?_
      refine rf_bx0 (ym_Wl_isReady R h_v3) (fun u6' u6 r6 R_u6 => ?_)
      refine rf_br ?_ ?_
      · exact (yb_H_process_115 R_u6 h_v3)
      · exact (yb_H_process_119 R_u6)
    · exact (yb_H_process_115 R h_v3)
  · refine rf_br ?_ ?_
    · refine rf_br ?_ ?_
      · refine rf_so ?_
        refine rf_bo (gR_P1 R h_v3) ?_
        refine rf_soF h_v3.1 (fun j10 h_j10 => ?_)
        refine rf_bo (gf_1 R h_j10) ?_
        exact (yb_H_process_136 R)
      · exact (yb_H_process_136 R)
    · refine rf_br ?_ ?_
      · refine rf_br ?_ ?_
        · refine rf_so ?_
          refine rf_bo (gq_4 R h_v3) ?_
          exact (yb_H_process_150 R)
        · exact (yb_H_process_150 R)
      · refine rf_br ?_ ?_
        · refine rf_so ?_
          refine rf_bo (gq_5 R h_v3) ?_
          exact rf_ret R rfl
        · refine rf_br ?_ ?_
          · refine rf_br ?_ ?_
            · refine rf_so ?_
              refine rf_bo (gq_7 R h_v3) ?_
              exact (yb_H_process_169 R)
            · exact (yb_H_process_169 R)
          · refine rf_br ?_ ?_
            · refine rf_br ?_ ?_
              · refine rf_so ?_
                refine rf_bo (gq_15 R h_v3) ?_
                exact (yb_H_process_183 R)
              · exact (yb_H_process_183 R)
            · refine rf_br ?_ ?_
              · refine rf_br ?_ ?_
                · refine rf_bo (rx_0_6 R) ?_
                  refine rf_so ?_
                  refine rf_ck (ox_47 R) ?_
                  refine rf_bx0 (ym_Wl_watchesOf R) (fun u21' u21 r21 R_u21 => ?_)
                  exact (yb_H_process_201 R_u21)
                · exact (yb_H_process_201 R)
              · refine rf_br ?_ ?_
                · refine rf_br ?_ ?_
                  · refine rf_so ?_
                    refine rf_bo (gq_11 R h_v3) ?_
                    refine rf_br ?_ ?_
                    · exact (yb_H_process_218 R)
                    · exact (yb_H_process_219 R)
                  · exact (yb_H_process_218 R)
                · refine rf_br ?_ ?_
                  · refine rf_br ?_ ?_
                    · refine rf_so ?_
                      refine rf_bo (gq_12 R h_v3) ?_
                      exact (yb_H_process_233 R)
                    · exact (yb_H_process_233 R)
                  · refine rf_br ?_ ?_
                    · refine rf_so ?_
                      refine rf_bo (gq_13 R h_v3) ?_
                      exact rf_ret R rfl
                    · refine rf_br ?_ ?_
                      · refine rf_br ?_ ?_
                        · refine rf_so ?_
                          refine rf_ck (io_P R h_v3) ?_
                          refine rf_bx0 (ym_Pr_wakes R h_v3) (fun u29' u29 r29 R_u29 => ?_)
                          exact (yb_H_process_252 R_u29)
                        · exact (yb_H_process_252 R)
                      · refine rf_br ?_ ?_
                        · refine rf_br ?_ ?_
                          · refine rf_so ?_
                            refine rf_bo (gR_P1 R h_v3) ?_
                            refine rf_soF h_v3.1 (fun j33 h_j33 => ?_)
                            refine rf_bo (gf_9 R h_j33) ?_
                            exact (yb_H_process_269 R)
                          · exact (yb_H_process_269 R)
                        · exact rf_ret R rfl
theorem yb_H_process_0 {N : Nat} {c : Nat → Nat} {m : MS} {u : CS} (R : RP none c m u) {v1 : Int32} {v2 : Int32} : RF 0 none VE c u (fb_H_process_0 N () u 0 v1 v2) (hb_H_process_0 N () m v1 v2) := by
  unfold fb_H_process_0 hb_H_process_0
  refine rf_bo (rx_0_6 R) ?_
  refine rf_so ?_
  refine rf_ck (ox_47 R) ?_
  refine rf_bxP (ym_Wl_find R) (fun u36' u36 r36 r36' R_u36 h_r36 => ?_)
  refine rf_br2 (PV_n h_r36) ?_ ?_
  · exact rf_ret R_u36 rfl
  · refine rf_boQ h_r36 (fun j38 j38' e1_j38 e2_j38 h_j38 => ?_)
    subst e1_j38
    refine rf_so ?_
    refine rf_bo (gq_9 R_u36 h_j38) ?_
    refine rf_br ?_ ?_
    · exact (yb_H_process_28 R_u36 h_j38)
    · exact (yb_H_process_28 R_u36 h_j38)
theorem ym_H_process {N : Nat} {c : Nat → Nat} {m : MS} {u : CS} (R : RP none c m u) {v1 : Int32} {v2 : Int32} : RF 0 none VE c u (fm_H_process N u 0 v1 v2) (hm_H_process N m v1 v2) := yb_H_process_0 (N := N) R
theorem yb_H_frame_40 {N : Nat} {c : Nat → Nat} {m : MS} {u : CS} (R : RP none c m u) : RF 0 none VE c u (fb_H_frame_40 N () u) (hb_H_frame_40 N () m) := by
  unfold fb_H_frame_40 hb_H_frame_40
  exact rf_ret R rfl
theorem yb_H_frame_0 {N : Nat} {c : Nat → Nat} {m : MS} {u : CS} (R : RP none c m u) {v1 : Int32} {v2 : Int32} {v3 : Int32} : RF 0 none VE c u (fb_H_frame_0 N () u 0 v1 v2 v3) (hb_H_frame_0 N () m v1 v2 v3) := by
  unfold fb_H_frame_0 hb_H_frame_0
  refine rf_bo (rx_0_6 R) ?_
  refine rf_so ?_
  refine rf_ck (ox_47 R) ?_
  refine rf_bxP (ym_Wl_find R) (fun u2' u2 r2 r2' R_u2 h_r2 => ?_)
  refine rf_br2 (PV_n h_r2) ?_ ?_
  · exact (yb_H_frame_40 R_u2)
  · refine rf_boQ h_r2 (fun j4 j4' e1_j4 e2_j4 h_j4 => ?_)
    subst e1_j4
    refine rf_so ?_
    refine rf_bo (gq_9 R_u2 h_j4) ?_
    refine rf_br ?_ ?_
    · exact (yb_H_frame_40 R_u2)
    · refine rf_br ?_ ?_
      · exact (yb_H_frame_40 R_u2)
      · refine rf_so ?_
        refine rf_bo (gR_P1 R_u2 h_j4) ?_
        refine rf_soF h_j4.1 (fun j8 h_j8 => ?_)
        refine rf_bo (gf_1 R_u2 h_j8) ?_
        refine rf_br ?_ ?_
        · refine rf_so ?_
          refine rf_bo (gR_P1 R_u2 h_j4) ?_
          refine rf_soF h_j4.1 (fun j12 h_j12 => ?_)
          refine rf_bo (gf_1 R_u2 h_j12) ?_
          refine rf_br ?_ ?_
          · refine rf_so ?_
            refine rf_bo (gR_P1 R_u2 h_j4) ?_
            refine rf_soF h_j4.1 (fun j17 h_j17 => ?_)
            refine rf_ck (io_F R_u2 h_j17) ?_
            refine rf_bx0 (ym_Fr_of R_u2 h_j17) (fun u16' u16 r16 R_u16 => ?_)
            exact rf_ret R_u16 rfl
          · refine rf_br ?_ ?_
            · refine rf_so ?_
              refine rf_bo (gR_P1 R_u2 h_j4) ?_
              refine rf_soF h_j4.1 (fun j21 h_j21 => ?_)
              refine rf_ck (io_F R_u2 h_j21) ?_
              refine rf_bx0 (ym_Fr_of R_u2 h_j21) (fun u20' u20 r20 R_u20 => ?_)
              exact rf_ret R_u20 rfl
            · refine rf_br ?_ ?_
              · refine rf_so ?_
                refine rf_bo (gR_P1 R_u2 h_j4) ?_
                refine rf_soF h_j4.1 (fun j25 h_j25 => ?_)
                refine rf_ck (io_F R_u2 h_j25) ?_
                refine rf_bx0 (ym_Fr_namesIn R_u2 h_j25) (fun u24' u24 r24 R_u24 => ?_)
                exact rf_ret R_u24 rfl
              · refine rf_br ?_ ?_
                · refine rf_so ?_
                  refine rf_bo (gR_P1 R_u2 h_j4) ?_
                  refine rf_soF h_j4.1 (fun j29 h_j29 => ?_)
                  refine rf_ck (io_F R_u2 h_j29) ?_
                  refine rf_bx0 (ym_Fr_waitsIn R_u2 h_j29) (fun u28' u28 r28 R_u28 => ?_)
                  exact rf_ret R_u28 rfl
                · exact rf_ret R_u2 rfl
        · exact (yb_H_frame_40 R_u2)
theorem ym_H_frame {N : Nat} {c : Nat → Nat} {m : MS} {u : CS} (R : RP none c m u) {v1 : Int32} {v2 : Int32} {v3 : Int32} : RF 0 none VE c u (fm_H_frame N u 0 v1 v2 v3) (hm_H_frame N m v1 v2 v3) := yb_H_frame_0 (N := N) R
theorem yb_H_link_33 {N : Nat} {c : Nat → Nat} {m : MS} {u : CS} (R : RP none c m u) : RF 0 none VE c u (fb_H_link_33 N () u) (hb_H_link_33 N () m) := by
  unfold fb_H_link_33 hb_H_link_33
  exact rf_ret R rfl
theorem yb_H_link_0 {N : Nat} {c : Nat → Nat} {m : MS} {u : CS} (R : RP none c m u) {v1 : Int32} {v2 : Int32} : RF 0 none VE c u (fb_H_link_0 N () u 0 v1 v2) (hb_H_link_0 N () m v1 v2) := by
  unfold fb_H_link_0 hb_H_link_0
  refine rf_bo (rx_0_6 R) ?_
  refine rf_so ?_
  refine rf_ck (ox_47 R) ?_
  refine rf_bxP (ym_Wl_find R) (fun u2' u2 r2 r2' R_u2 h_r2 => ?_)
  refine rf_br2 (PV_n h_r2) ?_ ?_
  · exact (yb_H_link_33 R_u2)
  · refine rf_boQ h_r2 (fun j4 j4' e1_j4 e2_j4 h_j4 => ?_)
    subst e1_j4
    refine rf_so ?_
    refine rf_bo (gq_9 R_u2 h_j4) ?_
    refine rf_br ?_ ?_
    · exact (yb_H_link_33 R_u2)
    · refine rf_br ?_ ?_
      · exact (yb_H_link_33 R_u2)
      · refine rf_so ?_
        refine rf_bo (gq_15 R_u2 h_j4) ?_
        refine rf_br ?_ ?_
        · refine rf_so ?_
          refine rf_bo (gR_P14 R_u2 h_j4) ?_
          refine rf_so ?_
          refine rf_ai (aq_14 R_u2 h_j4.1) ?_
          exact rf_ret R_u2 rfl
        · exact (yb_H_link_33 R_u2)
theorem ym_H_link {N : Nat} {c : Nat → Nat} {m : MS} {u : CS} (R : RP none c m u) {v1 : Int32} {v2 : Int32} : RF 0 none VE c u (fm_H_link N u 0 v1 v2) (hm_H_link N m v1 v2) := yb_H_link_0 (N := N) R
theorem yb_H_show_209 {N : Nat} {c : Nat → Nat} {m : MS} {u : CS} (R : RP none c m u) {v4 : Nat} {v4' : Nat} {t0 : Int64} (h_v4 : PVn c v4 v4') : RF 0 none VE c u (fb_H_show_209 N () u 0 (some v4) t0) (hb_H_show_209 N () m v4' t0) := by
  unfold fb_H_show_209 hb_H_show_209
  refine rf_bo (rx_0_5 R) ?_
  refine rf_so ?_
  refine rf_bo (gR_P2 R h_v4) ?_
  refine rf_bo (rx_0_8 R) ?_
  refine rf_so ?_
  refine rf_ck (ox_43 R) ?_
  refine rf_bx0 (ym_Te_text R ⟨_, h_v4.1, rfl, rfl⟩ (by unfold isOu; omega)) (fun u5' u5 r5 R_u5 => ?_)
  refine rf_w (px_0_9 R_u5) (fun w7' w7 R_w7 => ?_)
  refine rf_bo (gx_0_9 R_w7) ?_
  exact rf_ret R_w7 rfl
theorem yb_H_show_145 {N : Nat} {c : Nat → Nat} {m : MS} {u : CS} (R : RP none c m u) {v2 : Int32} {v3 : Int32} {v4 : Nat} {v4' : Nat} {v5 : Nat} {v5' : Nat} {v6 : Int32} {t0 : Int32} (h_v4 : PVn c v4 v4') (h_v5 : FVn c v5 v5') : RF 0 none VE c u (fb_H_show_145 N () u 0 v2 v3 (some v4) (some v5) v6 t0) (hb_H_show_145 N () m v2 v3 v4' v5' v6 t0) := by
  unfold fb_H_show_145 hb_H_show_145
  refine rf_br ?_ ?_
  · refine rf_br ?_ ?_
    · refine rf_so ?_
      refine rf_bo (gR_P6 R h_v4) ?_
      refine rf_so ?_
      refine rf_ai (aq_6 R h_v4.1) ?_
      exact (yb_H_show_209 R h_v4)
    · refine rf_br ?_ ?_
      · refine rf_so ?_
        refine rf_bo (gR_F3 R h_v5) ?_
        refine rf_so ?_
        refine rf_ck (io_F R h_v5) ?_
        refine rf_bx0 (ym_Fr_of R h_v5) (fun u17' u17 r17 R_u17 => ?_)
        refine rf_so ?_
        refine rf_ai (aq_33 R_u17 h_v5.1) ?_
        exact (yb_H_show_209 R_u17 h_v4)
      · refine rf_so ?_
        refine rf_bo (gR_F5 R h_v5) ?_
        refine rf_so ?_
        refine rf_ck (io_F R h_v5) ?_
        refine rf_bx0 (ym_Fr_of R h_v5) (fun u11' u11 r11 R_u11 => ?_)
        refine rf_so ?_
        refine rf_ai (aq_35 R_u11 h_v5.1) ?_
        exact (yb_H_show_209 R_u11 h_v4)
  · exact rf_ret R rfl
theorem yb_H_show_93 {N : Nat} {c : Nat → Nat} {m : MS} {u : CS} (R : RP none c m u) : RF 0 none VE c u (fb_H_show_93 N () u) (hb_H_show_93 N () m) := by
  unfold fb_H_show_93 hb_H_show_93
  exact rf_ret R rfl
theorem yb_H_show_39 {N : Nat} {c : Nat → Nat} {m : MS} {u : CS} (R : RP none c m u) : RF 0 none VE c u (fb_H_show_39 N () u) (hb_H_show_39 N () m) := by
  unfold fb_H_show_39 hb_H_show_39
  exact rf_ret R rfl
theorem yb_H_show_19 {N : Nat} {c : Nat → Nat} {m : MS} {u : CS} (R : RP none c m u) : RF 0 none VE c u (fb_H_show_19 N () u) (hb_H_show_19 N () m) := by
  unfold fb_H_show_19 hb_H_show_19
  exact rf_ret R rfl
theorem yb_H_show_0 {N : Nat} {c : Nat → Nat} {m : MS} {u : CS} (R : RP none c m u) {v1 : Int32} {v2 : Int32} {v3 : Int32} : RF 0 none VE c u (fb_H_show_0 N () u 0 v1 v2 v3) (hb_H_show_0 N () m v1 v2 v3) := by
  unfold fb_H_show_0 hb_H_show_0
  refine rf_bo (rx_0_6 R) ?_
  refine rf_so ?_
  refine rf_ck (ox_47 R) ?_
  refine rf_bxP (ym_Wl_find R) (fun u26' u26 r26 r26' R_u26 h_r26 => ?_)
  refine rf_br2 (PV_n h_r26) ?_ ?_
  · exact (yb_H_show_19 R_u26)
  · refine rf_br ?_ ?_
    · refine rf_br ?_ ?_
      · refine rf_boQ h_r26 (fun j40 j40' e1_j40 e2_j40 h_j40 => ?_)
        subst e1_j40
        refine rf_so ?_
        refine rf_bo (gq_9 R_u26 h_j40) ?_
        refine rf_br ?_ ?_
        · refine rf_br ?_ ?_
          · refine rf_bo (rx_0_5 R_u26) ?_
            refine rf_so ?_
            refine rf_home R_u26 h_j40 (fun r44 h_r44 => ?_)
            refine rf_boQ h_r44 (fun j45 j45' e1_j45 e2_j45 h_j45 => ?_)
            subst e1_j45
            refine rf_so ?_
            refine rf_bo (gR_P2 R_u26 h_j45) ?_
            refine rf_so ?_
            refine rf_bo (gJ_P16 R_u26 h_j40) ?_
            refine rf_bo (rx_0_8 R_u26) ?_
            refine rf_so ?_
            refine rf_ck (ox_43 R_u26) ?_
            refine rf_bx0 (ym_Te_text R_u26 ⟨_, h_j45.1, rfl, rfl⟩ (by unfold isOu; omega)) (fun u50' u50 r50 R_u50 => ?_)
            refine rf_w (px_0_9 R_u50) (fun w52' w52 R_w52 => ?_)
            refine rf_bo (gx_0_9 R_w52) ?_
            exact rf_ret R_w52 rfl
          · exact (yb_H_show_39 R_u26)
        · exact (yb_H_show_39 R_u26)
      · refine rf_br ?_ ?_
        · exact (yb_H_show_93 R_u26)
        · refine rf_br ?_ ?_
          · exact (yb_H_show_93 R_u26)
          · refine rf_boQ h_r26 (fun j28 j28' e1_j28 e2_j28 h_j28 => ?_)
            subst e1_j28
            refine rf_so ?_
            refine rf_bo (gq_9 R_u26 h_j28) ?_
            refine rf_br ?_ ?_
            · exact (yb_H_show_93 R_u26)
            · refine rf_so ?_
              refine rf_bo (gR_P1 R_u26 h_j28) ?_
              refine rf_soF h_j28.1 (fun j32 h_j32 => ?_)
              refine rf_bo (gf_1 R_u26 h_j32) ?_
              refine rf_br ?_ ?_
              · refine rf_so ?_
                refine rf_bo (gq_7 R_u26 h_j28) ?_
                exact (yb_H_show_145 R_u26 h_j28 ⟨h_j28.1, rfl⟩)
              · refine rf_br ?_ ?_
                · refine rf_soF h_j28.1 (fun j37 h_j37 => ?_)
                  refine rf_ck (io_F R_u26 h_j37) ?_
                  refine rf_bx0 (ym_Fr_namesIn R_u26 h_j37) (fun u36' u36 r36 R_u36 => ?_)
                  exact (yb_H_show_145 R_u36 h_j28 ⟨h_j28.1, rfl⟩)
                · refine rf_soF h_j28.1 (fun j35 h_j35 => ?_)
                  refine rf_ck (io_F R_u26 h_j35) ?_
                  refine rf_bx0 (ym_Fr_waitsIn R_u26 h_j35) (fun u34' u34 r34 R_u34 => ?_)
                  exact (yb_H_show_145 R_u34 h_j28 ⟨h_j28.1, rfl⟩)
    · exact (yb_H_show_19 R_u26)
theorem ym_H_show {N : Nat} {c : Nat → Nat} {m : MS} {u : CS} (R : RP none c m u) {v1 : Int32} {v2 : Int32} {v3 : Int32} : RF 0 none VE c u (fm_H_show N u 0 v1 v2 v3) (hm_H_show N m v1 v2 v3) := yb_H_show_0 (N := N) R
end
section
def HDCc (c : Int64) : Prop := 0 ≤ va c ∧ so c = 8
def BKc (h : Nat → Int64) (n : Nat) (ow kd : Nat → Nat) (Fv : Int64 → Int64 → Prop) (t : Int64) : Prop :=
  0 ≤ va t ∧ (so t = 5 → HDCc (h (vn t))) ∧ (so t = 3 → 0 ≤ va (h (vn t + 1)) ∧ Fv (h (vn t)) (h (vn t + 1))) ∧ vn t + blk h t ≤ n ∧ (kd (vn t) : Int) = so t ∧ ∀ j, j < blk h t → ow (vn t + j) = vn t
def SZc (h : Nat → Int64) (n : Nat) (ow kd : Nat → Nat) (Fv : Int64 → Int64 → Prop) (P : Int64 → Prop) : Nat → Int64 → Nat → Prop
  | 0, _, _ => False
  | f + 1, t, s => (¬ isH t ∧ P t ∧ s = 0) ∨ (isH t ∧ BKc h n ow kd Fv t ∧ ∃ c : Nat → Nat, (∀ j, prt t ≤ j → j < blk h t → SZc h n ow kd Fv P f (h (vn t + j)) (c j)) ∧ s = blk h t + smm c (prt t) (blk h t - prt t))
section
variable {h : Nat → Int64} {n : Nat} {ow kd : Nat → Nat} {Fv : Int64 → Int64 → Prop} {P : Int64 → Prop}
theorem SZ_monoc : ∀ {f : Nat} {t : Int64} {s : Nat}, SZc h n ow kd Fv P f t s → SZc h n ow kd Fv P (f + 1) t s
  | 0, _, _, z => z.elim
  | f + 1, t, s, z => by
    rcases z with z | ⟨z1, z2, c, z3, z4⟩
    · exact Or.inl z
    · exact Or.inr ⟨z1, z2, c, fun j a b => SZ_monoc (z3 j a b), z4⟩
theorem SZ_lec {f g : Nat} {t : Int64} {s : Nat} (hz : SZc h n ow kd Fv P f t s) (hl : f ≤ g) : SZc h n ow kd Fv P g t s := by
  induction hl with
  | refl => exact hz
  | step _ ih => exact SZ_monoc ih
theorem SZ_func : ∀ {f g : Nat} {t : Int64} {s r : Nat}, SZc h n ow kd Fv P f t s → SZc h n ow kd Fv P g t r → s = r
  | 0, _, _, _, _, z, _ => z.elim
  | _ + 1, 0, _, _, _, _, z => z.elim
  | f + 1, g + 1, t, s, r, z, y => by
    rcases z with ⟨z1, -, z3⟩ | ⟨z1, -, c, z3, z4⟩
    · rcases y with ⟨-, -, y3⟩ | ⟨y1, -⟩
      · rw [z3, y3]
      · exact absurd y1 z1
    · rcases y with ⟨y1, -⟩ | ⟨-, -, d, y3, y4⟩
      · exact absurd z1 y1
      · rw [z4, y4, smm_eq (d := d) (fun j a b => SZ_func (z3 j a (by have := prt_le (h := h) z1; omega)) (y3 j a (by have := prt_le (h := h) z1; omega)))]
theorem SZ_extc {h2 : Nat → Int64} {n2 : Nat} {ow2 kd2 : Nat → Nat} {Fv2 : Int64 → Int64 → Prop} {P2 : Int64 → Prop} (hn : n ≤ n2) (hh : ∀ i, i < n → h2 i = h i) (ho : ∀ i, i < n → ow2 i = ow i) (hk : ∀ i, i < n → kd2 i = kd i) (hF : ∀ a b, Fv a b → Fv2 a b) (hP : ∀ t, P t → P2 t) : ∀ {f : Nat} {t : Int64} {s : Nat}, SZc h n ow kd Fv P f t s → SZc h2 n2 ow2 kd2 Fv2 P2 f t s
  | 0, _, _, z => z.elim
  | f + 1, t, s, z => by
    rcases z with ⟨z1, z2, z3⟩ | ⟨z1, ⟨b1, b2, b3, b4, b5, b6⟩, c, z3, z4⟩
    · exact Or.inl ⟨z1, hP t z2, z3⟩
    · have hb : 0 < blk h t := by
        unfold blk
        rcases z1 with e | e | e <;> rw [e] <;> simp <;> omega
      have e0 : h2 (vn t) = h (vn t) := hh _ (by omega)
      have hb2 : so t = 3 → 2 ≤ blk h t := fun e => by unfold blk; rw [e]; simp
      have e1 : so t = 3 → h2 (vn t + 1) = h (vn t + 1) := fun e => hh _ (by have := hb2 e; omega)
      have eb : blk h2 t = blk h t := by
        unfold blk
        rw [e0]
        by_cases e : so t = 3
        · rw [e1 e]
        · simp [e]
      refine Or.inr ⟨z1, ⟨b1, fun e => by rw [e0]; exact b2 e, fun e => ?_, by omega, ?_, ?_⟩, c, ?_, ?_⟩
      · rw [e0, e1 e]; exact ⟨(b3 e).1, hF _ _ (b3 e).2⟩
      · rw [hk _ (by omega)]; exact b5
      · rw [eb]; intro j hj; rw [ho _ (by omega)]; exact b6 j hj
      · rw [eb]; intro j a b; rw [hh _ (by omega)]; exact SZ_extc hn hh ho hk hF hP (z3 j a b)
      · rw [eb]; exact z4
end
def HPc (h : Nat → Int64) (n : Nat) (ow kd : Nat → Nat) (Fv : Int64 → Int64 → Prop) (P : Int64 → Prop) : Prop :=
  ∀ t, isH t → GT n ow kd P t → ∃ f s, SZc h n ow kd Fv P f t s ∧ (500 < s → so t = 5 ∧ blk h t = 3 ∧ ¬ isH (h (vn t + 1)))
section
variable {h : Nat → Int64} {n : Nat} {ow kd : Nat → Nat} {Fv : Int64 → Int64 → Prop} {P : Int64 → Prop}
theorem BK_gtc {t : Int64} (z : isH t) (b : BKc h n ow kd Fv t) : GT n ow kd P t := by
  have hb := blk_pos (h := h) z
  exact Or.inr ⟨z, b.1, by have := b.2.2.2.1; omega, by have := b.2.2.2.2.2 0 hb; exact this, b.2.2.2.2.1⟩
theorem SZ_gtc {f : Nat} {t : Int64} {s : Nat} (z : SZc h n ow kd Fv P f t s) : GT n ow kd P t := by
  cases f with
  | zero => exact z.elim
  | succ f =>
    rcases z with ⟨z1, z2, -⟩ | ⟨z1, z2, -⟩
    · exact Or.inl ⟨z1, z2⟩
    · exact BK_gtc z1 z2
theorem HP_szc (g : HPc h n ow kd Fv P) {t : Int64} (ht : GT n ow kd P t) : ∃ f s, SZc h n ow kd Fv P f t s := by
  by_cases z : isH t
  · obtain ⟨f, s, a, -⟩ := g t z ht; exact ⟨f, s, a⟩
  · rcases ht with ⟨-, b⟩ | ⟨a, -⟩
    · exact ⟨1, 0, Or.inl ⟨z, b, rfl⟩⟩
    · exact absurd a z
theorem HP_bkc (g : HPc h n ow kd Fv P) {t : Int64} (z : isH t) (ht : GT n ow kd P t) : BKc h n ow kd Fv t ∧ ∀ j, prt t ≤ j → j < blk h t → GT n ow kd P (h (vn t + j)) := by
  obtain ⟨f, s, a, -⟩ := g t z ht
  cases f with
  | zero => exact a.elim
  | succ f =>
    rcases a with ⟨a, -⟩ | ⟨-, b, c, d, -⟩
    · exact absurd z a
    · exact ⟨b, fun j h1 h2 => SZ_gtc (d j h1 h2)⟩
theorem SZ_allc {m : Nat} {q : Nat → Int64} : (∀ j, j < m → ∃ f s, SZc h n ow kd Fv P f (q j) s) → ∃ f, ∃ c : Nat → Nat, ∀ j, j < m → SZc h n ow kd Fv P f (q j) (c j) := by
  induction m with
  | zero => intro _; exact ⟨0, fun _ => 0, fun j hj => absurd hj (Nat.not_lt_zero j)⟩
  | succ m ih =>
    intro H
    obtain ⟨f, c, hc⟩ := ih (fun j hj => H j (by omega))
    obtain ⟨f2, s, hs⟩ := H m (by omega)
    refine ⟨f + f2, fun j => if j = m then s else c j, fun j hj => ?_⟩
    by_cases e : j = m
    · subst e; simp only [if_pos rfl]; exact SZ_lec hs (by omega)
    · simp only [if_neg e]; exact SZ_lec (hc j (by omega)) (by omega)
theorem HP_newc (g : HPc h n ow kd Fv P) {h2 : Nat → Int64} {m : Nat} {x : Int64} (hh : ∀ i, i < n → h2 i = h i) (hx : isH x) (h0 : 0 ≤ va x) (hv : vn x = n) (hb : blk h2 x = m)
    (b2 : so x = 5 → HDCc (h2 n)) (b3 : so x = 3 → 0 ≤ va (h2 (n + 1)) ∧ Fv (h2 n) (h2 (n + 1)))
    (hp : ∀ j, prt x ≤ j → j < m → GT n ow kd P (h2 (n + j)))
    (hs : (so x = 5 ∧ m = 3 ∧ ¬ isH (h2 (n + 1))) ∨ ∀ f c, (∀ j, prt x ≤ j → j < m → SZc h n ow kd Fv P f (h2 (n + j)) (c j)) → m + smm c (prt x) (m - prt x) ≤ 500) :
    ∃ ow2 kd2, HPc h2 (n + m) ow2 kd2 Fv P ∧ GT (n + m) ow2 kd2 P x ∧ (∀ t, GT n ow kd P t → GT (n + m) ow2 kd2 P t) ∧ (∀ f t s, SZc h n ow kd Fv P f t s → SZc h2 (n + m) ow2 kd2 Fv P f t s) ∧ ∃ f s, SZc h2 (n + m) ow2 kd2 Fv P f x s := by
  have mp : 0 < m := by rw [← hb]; exact blk_pos hx
  have ext : ∀ f t s, SZc h n ow kd Fv P f t s → SZc h2 (n + m) (fun i => if n ≤ i then n else ow i) (fun i => if i = n then (so x).toNat else kd i) Fv P f t s := fun f t s z =>
    SZ_extc (by omega) hh (fun i hi => if_neg (by omega)) (fun i hi => if_neg (by omega)) (fun _ _ q => q) (fun _ q => q) z
  have sx : 0 ≤ so x := by rcases hx with e | e | e <;> omega
  have gx : GT (n + m) (fun i => if n ≤ i then n else ow i) (fun i => if i = n then (so x).toNat else kd i) P x :=
    Or.inr ⟨hx, h0, by omega, by rw [hv]; simp, by rw [hv]; simp; omega⟩
  have bx : BKc h2 (n + m) (fun i => if n ≤ i then n else ow i) (fun i => if i = n then (so x).toNat else kd i) Fv x := by
    refine ⟨h0, by rw [hv]; exact b2, by rw [hv]; exact b3, by rw [hv, hb]; exact Nat.le_refl _, by rw [hv]; simp; omega, fun j _ => ?_⟩
    rw [hv]; exact if_pos (by omega)
  obtain ⟨f0, c0, hc0⟩ := SZ_allc (h := h) (n := n) (ow := ow) (kd := kd) (Fv := Fv) (P := P) (m := m - prt x) (q := fun j => h2 (n + (prt x + j))) (fun j hj => HP_szc g (hp (prt x + j) (by omega) (by omega)))
  have hc1 : ∀ j, prt x ≤ j → j < m → SZc h n ow kd Fv P f0 (h2 (n + j)) (c0 (j - prt x)) := fun j h1 h2' => by
    have := hc0 (j - prt x) (by omega)
    rw [show prt x + (j - prt x) = j from by omega] at this
    exact this
  have szx : SZc h2 (n + m) (fun i => if n ≤ i then n else ow i) (fun i => if i = n then (so x).toNat else kd i) Fv P (f0 + 1) x (m + smm (fun j => c0 (j - prt x)) (prt x) (m - prt x)) :=
    Or.inr ⟨hx, bx, fun j => c0 (j - prt x), by rw [hb, hv]; exact fun j h1 h2' => ext _ _ _ (hc1 j h1 h2'), by rw [hb]⟩
  refine ⟨_, _, ?_, gx, ?_, ext, _, _, szx⟩
  · intro t ht hg
    rcases hg with ⟨z, -⟩ | ⟨-, g1, g2, g3, g4⟩
    · exact absurd ht z
    by_cases e : vn t < n
    · have e1 : ow (vn t) = vn t := by have := g3; simp only [if_neg (show ¬ n ≤ vn t by omega)] at this; exact this
      have e2 : (kd (vn t) : Int) = so t := by have := g4; simp only [if_neg (show ¬ vn t = n by omega)] at this; exact this
      obtain ⟨f, s, z1, z2⟩ := g t ht (Or.inr ⟨ht, g1, e, e1, e2⟩)
      refine ⟨f, s, ext _ _ _ z1, fun hs5 => ?_⟩
      obtain ⟨q1, q2, q3⟩ := z2 hs5
      have bkt := (HP_bkc g ht (Or.inr ⟨ht, g1, e, e1, e2⟩)).1
      have r1 : blk h2 t = 3 := by
        have q2' := q2
        unfold blk at q2' ⊢
        rw [q1] at q2' ⊢
        simp at q2' ⊢
        rw [hh _ e]; exact q2'
      have : vn t + 3 ≤ n := by have := bkt.2.2.2.1; omega
      exact ⟨q1, r1, by rw [hh _ (by omega)]; exact q3⟩
    · have e1 : vn t = n := by have := g3; simp only [if_pos (show n ≤ vn t by omega)] at this; exact this.symm
      have e2 : so t = so x := by have := g4; simp only [if_pos e1] at this; omega
      have eb : blk h2 t = m := by rw [← hb]; unfold blk; rw [e2, e1, hv]
      have ep : prt t = prt x := by unfold prt; rw [e2]
      have sz2 : SZc h2 (n + m) (fun i => if n ≤ i then n else ow i) (fun i => if i = n then (so x).toNat else kd i) Fv P (f0 + 1) t (m + smm (fun j => c0 (j - prt x)) (prt x) (m - prt x)) := by
        refine Or.inr ⟨ht, ⟨g1, ?_, ?_, ?_, g4, ?_⟩, fun j => c0 (j - prt x), ?_, ?_⟩
        · rw [e1, e2]; exact b2
        · rw [e1, e2]; exact b3
        · rw [eb, e1]; exact Nat.le_refl _
        · intro j _; rw [e1]; exact if_pos (by omega)
        · rw [eb, e1, ep]; exact fun j h1 h2' => ext _ _ _ (hc1 j h1 h2')
        · rw [eb, ep]
      refine ⟨_, _, sz2, fun h5 => ?_⟩
      rcases hs with ⟨s1, s2, s3⟩ | hs
      · exact ⟨by rw [e2]; exact s1, by rw [eb]; exact s2, by rw [e1]; exact s3⟩
      · have := hs f0 _ hc1; omega
  · intro t ht
    rcases ht with z | ⟨z1, z2, z3, z4, z5⟩
    · exact Or.inl z
    · refine Or.inr ⟨z1, z2, by omega, ?_, ?_⟩
      · show (if n ≤ vn t then n else ow (vn t)) = vn t
        rw [if_neg (by omega)]; exact z4
      · show ((if vn t = n then (so x).toNat else kd (vn t) : Nat) : Int) = so t
        rw [if_neg (by omega)]; exact z5
end
section
variable {h : Nat → Int64} {n : Nat} {ow kd : Nat → Nat} {Fv : Int64 → Int64 → Prop} {P : Int64 → Prop}
theorem SZ_samec {f : Nat} {t x : Int64} {s : Nat} (e1 : so t = so x) (e2 : va t = va x) (ht : isH x) (z : SZc h n ow kd Fv P f x s) : SZc h n ow kd Fv P f t s := by
  cases f with
  | zero => exact z.elim
  | succ f =>
    have ev : vn t = vn x := by unfold vn; rw [e2]
    have eb : blk h t = blk h x := by unfold blk; rw [e1, ev]
    have ep : prt t = prt x := by unfold prt; rw [e1]
    rcases z with ⟨z1, -⟩ | ⟨z1, z2, c, z3, z4⟩
    · exact absurd ht z1
    · refine Or.inr ⟨by unfold isH; rw [e1]; exact z1, ?_, c, by rw [ep, eb, ev]; exact z3, by rw [eb, ep]; exact z4⟩
      unfold BKc
      rw [e1, e2, ev, eb]
      exact z2
theorem SZ_bigc (g : HPc h n ow kd Fv P) : ∀ (s : Nat) (f : Nat) (t : Int64), SZc h n ow kd Fv P f t s → 500 < s → ∃ S : Nat → Prop, ∃ _ : DecidablePred S, s ≤ 500 + cnt S ow n ∧ ∀ k, S k → ∃ f2 s2, ∃ x : Int64, isH x ∧ vn x = k ∧ SZc h n ow kd Fv P f2 x s2 ∧ s2 ≤ s := by
  intro s
  induction s using Nat.strongRecOn with
  | _ s ih =>
    intro f t z hs
    have ht : isH t := Classical.byContradiction (fun c => by
      cases f with
      | zero => exact z
      | succ f =>
        rcases z with ⟨-, -, z3⟩ | ⟨z1, -⟩
        · omega
        · exact c z1)
    have gt := SZ_gtc z
    obtain ⟨f1, s1, y1, y2⟩ := g t ht gt
    have es := SZ_func z y1
    subst es
    obtain ⟨q1, q2, q3⟩ := y2 hs
    obtain ⟨b, -⟩ := HP_bkc g ht gt
    have bo := b.2.2.2.2.2
    have bn := b.2.2.2.1
    cases f with
    | zero => exact z.elim
    | succ f =>
      rcases z with ⟨z1, -⟩ | ⟨z1, z2, c, z3, z4⟩
      · exact absurd ht z1
      have ep : prt t = 1 := by unfold prt; rw [q1]; rfl
      rw [q2, ep] at z3 z4
      have c1 : c 1 = 0 := by
        have := z3 1 (by omega) (by omega)
        cases f with
        | zero => exact this.elim
        | succ f =>
          rcases this with ⟨-, -, w⟩ | ⟨w, -⟩
          · exact w
          · exact absurd w q3
      have e2 : s = 3 + c 2 := by rw [z4]; show 3 + (0 + c (1 + 0) + c (1 + 1)) = _; rw [show c (1 + 0) = 0 from c1]; show 3 + (0 + 0 + c 2) = _; omega
      have z2' := z3 2 (by omega) (by omega)
      by_cases hc : 500 < c 2
      · obtain ⟨S, dS, i1, i2⟩ := ih (c 2) (by omega) f _ z2' hc
        have nS : ¬ S (vn t) := fun w => by
          obtain ⟨f2, s2, x, x1, x2, x3, x4⟩ := i2 _ w
          have gx := SZ_gtc x3
          have tx : so t = so x := by
            rcases gx with ⟨w1, -⟩ | ⟨-, -, -, -, w5⟩
            · exact absurd x1 w1
            · rw [← w5, x2]; exact b.2.2.2.2.1.symm
          have vx : va t = va x := by
            have p1 := b.1
            have p2 : 0 ≤ va x := by
              rcases gx with ⟨w1, -⟩ | ⟨-, w2, -⟩
              · exact absurd x1 w1
              · exact w2
            unfold vn at x2
            omega
          have := SZ_func (SZ_samec tx vx x1 x3) y1
          omega
        refine ⟨fun k => S k ∨ k = vn t, fun k => inferInstance, ?_, ?_⟩
        · have := cnt_add (S := S) (S2 := fun k => S k ∨ k = vn t) (ow := ow) (k := vn t) (b := 3) (fun j hj => bo j (by omega)) nS (fun i => Iff.rfl) n (by omega)
          omega
        · rintro k (w | w)
          · obtain ⟨f2, s2, x, x1, x2, x3, x4⟩ := i2 k w
            exact ⟨f2, s2, x, x1, x2, x3, by omega⟩
          · exact ⟨_, _, t, ht, w.symm, y1, Nat.le_refl _⟩
      · refine ⟨fun k => k = vn t, fun k => inferInstance, ?_, ?_⟩
        · have := cnt_add (S := fun _ => False) (S2 := fun k => k = vn t) (ow := ow) (k := vn t) (b := 3) (fun j hj => bo j (by omega)) (fun w => w) (fun i => by simp) n (by omega)
          omega
        · rintro k w
          exact ⟨_, _, t, ht, w.symm, y1, Nat.le_refl _⟩
theorem SZ_1000c (g : HPc h n ow kd Fv P) (hn : n ≤ 500) {f : Nat} {t : Int64} {s : Nat} (z : SZc h n ow kd Fv P f t s) : s ≤ 1000 := by
  by_cases hs : 500 < s
  · obtain ⟨S, dS, a, -⟩ := SZ_bigc g s f t z hs
    have := cnt_le (S := S) (ow := ow) n
    omega
  · omega
theorem SZ_gcc {h2 : Nat → Int64} {n2 : Nat} {ow2 kd2 : Nat → Nat} {fw : Int64 → Int64} {R : Int64 → Prop} (h0 : ∀ t, ¬ isH t → fw t = t)
    (h1 : ∀ t, isH t → R t → BKc h n ow kd Fv t → isH (fw t) ∧ prt (fw t) = prt t ∧ BKc h2 n2 ow2 kd2 Fv (fw t) ∧ blk h2 (fw t) = blk h t ∧ ∀ j, prt t ≤ j → j < blk h t → h2 (vn (fw t) + j) = fw (h (vn t + j)) ∧ (isH (h (vn t + j)) → R (h (vn t + j)))) :
    ∀ {f : Nat} {t : Int64} {s : Nat}, SZc h n ow kd Fv P f t s → (isH t → R t) → SZc h2 n2 ow2 kd2 Fv P f (fw t) s
  | 0, _, _, z, _ => z.elim
  | f + 1, t, s, z, r => by
    rcases z with ⟨z1, z2, z3⟩ | ⟨z1, z2, c, z3, z4⟩
    · rw [h0 t z1]; exact Or.inl ⟨z1, z2, z3⟩
    · obtain ⟨a1, a2, a3, a4, a5⟩ := h1 t z1 (r z1) z2
      refine Or.inr ⟨a1, a3, c, ?_, ?_⟩
      · rw [a2, a4]
        intro j p1 p2
        obtain ⟨e1, e2⟩ := a5 j p1 p2
        rw [e1]
        exact SZ_gcc h0 h1 (z3 j p1 p2) e2
      · rw [a2, a4]; exact z4
end
section
variable {h : Nat → Int64} {n : Nat} {ow kd : Nat → Nat} {Fv : Int64 → Int64 → Prop} {P : Int64 → Prop}
theorem SZ_ownc {h2 : Nat → Int64} {n2 : Nat} {ow2 kd2 : Nat → Nat} {Fv2 : Int64 → Int64 → Prop} {P2 : Int64 → Prop} (hn : n ≤ n2) (hh : ∀ i, i < n → ow i ≤ i → h2 i = h i) (ho : ∀ i, i < n → ow i ≤ i → ow2 i = ow i) (hk : ∀ i, i < n → ow i ≤ i → kd2 i = kd i) (hF : ∀ a b, Fv a b → Fv2 a b) (hP : ∀ t, P t → P2 t) : ∀ {f : Nat} {t : Int64} {s : Nat}, SZc h n ow kd Fv P f t s → SZc h2 n2 ow2 kd2 Fv2 P2 f t s
  | 0, _, _, z => z.elim
  | f + 1, t, s, z => by
    rcases z with ⟨z1, z2, z3⟩ | ⟨z1, ⟨b1, b2, b3, b4, b5, b6⟩, c, z3, z4⟩
    · exact Or.inl ⟨z1, hP t z2, z3⟩
    · have hb := blk_pos (h := h) z1
      have o0 : ow (vn t) = vn t := b6 0 hb
      have e0 : h2 (vn t) = h (vn t) := hh _ (by omega) (by omega)
      have e1 : so t = 3 → h2 (vn t + 1) = h (vn t + 1) := fun e => by
        have := blk_2 (h := h) e
        have := b6 1 (by omega)
        exact hh _ (by omega) (by omega)
      have eb : blk h2 t = blk h t := by
        unfold blk
        rw [e0]
        by_cases e : so t = 3
        · rw [e1 e]
        · simp [e]
      refine Or.inr ⟨z1, ⟨b1, fun e => by rw [e0]; exact b2 e, fun e => ?_, by omega, ?_, ?_⟩, c, ?_, ?_⟩
      · rw [e0, e1 e]; exact ⟨(b3 e).1, hF _ _ (b3 e).2⟩
      · rw [hk _ (by omega) (by omega)]; exact b5
      · rw [eb]; intro j hj; have := b6 j hj; rw [ho _ (by omega) (by omega)]; exact this
      · rw [eb]; intro j a b; have := b6 j b; rw [hh _ (by omega) (by omega)]; exact SZ_ownc hn hh ho hk hF hP (z3 j a b)
      · rw [eb]; exact z4
theorem HP_ownc {h2 : Nat → Int64} {n2 : Nat} {ow2 kd2 : Nat → Nat} (g : HPc h n ow kd Fv P) (hn : n ≤ n2) (hh : ∀ i, i < n → ow i ≤ i → h2 i = h i) (ho : ∀ i, i < n → ow i ≤ i → ow2 i = ow i) (hk : ∀ i, i < n → ow i ≤ i → kd2 i = kd i) (hx : ∀ i, i < n2 → ow2 i = i → i < n ∧ ow i = i) : HPc h2 n2 ow2 kd2 Fv P := by
  intro t ht gt
  rcases gt with ⟨z, -⟩ | ⟨-, g1, g2, g3, g4⟩
  · exact absurd ht z
  obtain ⟨q1, q2⟩ := hx _ g2 g3
  have gt0 : GT n ow kd P t := Or.inr ⟨ht, g1, q1, q2, by rw [← hk _ q1 (by omega)]; exact g4⟩
  obtain ⟨f, s, z1, z2⟩ := g t ht gt0
  refine ⟨f, s, SZ_ownc hn hh ho hk (fun _ _ q => q) (fun _ q => q) z1, fun h5 => ?_⟩
  obtain ⟨r1, r2, r3⟩ := z2 h5
  have b := (HP_bkc g ht gt0).1
  have b6 := b.2.2.2.2.2
  have b4 := b.2.2.2.1
  have o1 := b6 1 (by omega)
  refine ⟨r1, ?_, by rw [hh _ (by omega) (by omega)]; exact r3⟩
  have q2' := r2
  unfold blk at q2' ⊢
  rw [r1] at q2' ⊢
  simp at q2' ⊢
  rw [hh _ q1 (by omega)]; exact q2'
theorem HP_holec {h2 : Nat → Int64} (m : Nat) (g : HPc h n ow kd Fv P) (hh : ∀ i, i < n → h2 i = h i) : HPc h2 (n + m) (owH n ow) kd Fv P :=
  HP_ownc g (by omega) (fun i hi _ => hh i hi) (fun i hi _ => if_neg (by omega)) (fun _ _ _ => rfl) (fun i hi e => by
    unfold owH at e
    by_cases q : n ≤ i
    · rw [if_pos q] at e; omega
    · rw [if_neg q] at e; exact ⟨by omega, e⟩)
theorem SZ_holec {h2 : Nat → Int64} {f : Nat} {t : Int64} {s : Nat} (m : Nat) (hh : ∀ i, i < n → h2 i = h i) (z : SZc h n ow kd Fv P f t s) : SZc h2 (n + m) (owH n ow) kd Fv P f t s := SZ_ownc (by omega) (fun i hi _ => hh i hi) (fun i hi _ => if_neg (by omega)) (fun _ _ _ => rfl) (fun _ _ q => q) (fun _ q => q) z
theorem HP_putc (g : HPc h n ow kd Fv P) {h2 : Nat → Int64} {m k : Nat} {x : Int64} (hh : ∀ i, ¬ (k ≤ i ∧ i < k + m) → h2 i = h i) (hkm : k + m ≤ n) (hno : ∀ j, j < m → k + j < ow (k + j)) (hx : isH x) (h0 : 0 ≤ va x) (hv : vn x = k) (hb : blk h2 x = m)
    (b2 : so x = 5 → HDCc (h2 k)) (b3 : so x = 3 → 0 ≤ va (h2 (k + 1)) ∧ Fv (h2 k) (h2 (k + 1)))
    (hp : ∀ j, prt x ≤ j → j < m → GT n ow kd P (h2 (k + j)))
    (hs : (so x = 5 ∧ m = 3 ∧ ¬ isH (h2 (k + 1))) ∨ ∀ f c, (∀ j, prt x ≤ j → j < m → SZc h n ow kd Fv P f (h2 (k + j)) (c j)) → m + smm c (prt x) (m - prt x) ≤ 500) :
    ∃ ow2 kd2, (∀ i, i < n → ow i ≤ i → ow2 i = ow i) ∧ (∀ i, i < n → ow i ≤ i → kd2 i = kd i) ∧ (∀ i, ¬ (k ≤ i ∧ i < k + m) → ow2 i = ow i) ∧ HPc h2 n ow2 kd2 Fv P ∧ GT n ow2 kd2 P x ∧ (∀ f t s, SZc h n ow kd Fv P f t s → SZc h2 n ow2 kd2 Fv P f t s) ∧ ∀ f c, (∀ j, prt x ≤ j → j < m → SZc h n ow kd Fv P f (h2 (k + j)) (c j)) → SZc h2 n ow2 kd2 Fv P (f + 1) x (m + smm c (prt x) (m - prt x)) := by
  have mp : 0 < m := by rw [← hb]; exact blk_pos hx
  have sx : 0 ≤ so x := by rcases hx with e | e | e <;> omega
  have out : ∀ i, i < n → ow i ≤ i → ¬ (k ≤ i ∧ i < k + m) := fun i _ q z => by
    have := hno (i - k) (by omega)
    rw [show k + (i - k) = i from by omega] at this
    omega
  have ho : ∀ i, i < n → ow i ≤ i → (fun i => if k ≤ i ∧ i < k + m then k else ow i) i = ow i := fun i a b => if_neg (out i a b)
  have hk : ∀ i, i < n → ow i ≤ i → (fun i => if i = k then (so x).toNat else kd i) i = kd i := fun i a b => if_neg (fun z => out i a b (by omega))
  have ext : ∀ f t s, SZc h n ow kd Fv P f t s → SZc h2 n (fun i => if k ≤ i ∧ i < k + m then k else ow i) (fun i => if i = k then (so x).toNat else kd i) Fv P f t s := fun f t s z =>
    SZ_ownc (Nat.le_refl _) (fun i a b => hh i (out i a b)) ho hk (fun _ _ q => q) (fun _ q => q) z
  have bkt : ∀ t : Int64, isH t → 0 ≤ va t → vn t = k → so t = so x → BKc h2 n (fun i => if k ≤ i ∧ i < k + m then k else ow i) (fun i => if i = k then (so x).toNat else kd i) Fv t ∧ blk h2 t = m ∧ prt t = prt x := fun t _ t0 tv ts => by
    have eb : blk h2 t = m := by rw [← hb]; unfold blk; rw [ts, tv, hv]
    refine ⟨⟨t0, by rw [tv, ts]; exact b2, by rw [tv, ts]; exact b3, by rw [eb, tv]; exact hkm, ?_, ?_⟩, eb, prt_so ts⟩
    · show ((if vn t = k then (so x).toNat else kd (vn t) : Nat) : Int) = so t
      rw [if_pos tv, ts]; omega
    · rw [eb]
      intro j hj
      show (if k ≤ vn t + j ∧ vn t + j < k + m then k else _) = vn t
      rw [if_pos (by omega), tv]
  have szx : ∀ t : Int64, isH t → 0 ≤ va t → vn t = k → so t = so x → ∀ f c, (∀ j, prt x ≤ j → j < m → SZc h n ow kd Fv P f (h2 (k + j)) (c j)) → SZc h2 n (fun i => if k ≤ i ∧ i < k + m then k else ow i) (fun i => if i = k then (so x).toNat else kd i) Fv P (f + 1) t (m + smm c (prt x) (m - prt x)) := fun t th t0 tv ts f c hc => by
    obtain ⟨q1, q2, q3⟩ := bkt t th t0 tv ts
    exact Or.inr ⟨th, q1, c, by rw [q2, q3, tv]; exact fun j a b => ext _ _ _ (hc j a b), by rw [q2, q3]⟩
  obtain ⟨f0, c0, hc0⟩ := SZ_allc (h := h) (n := n) (ow := ow) (kd := kd) (Fv := Fv) (P := P) (m := m - prt x) (q := fun j => h2 (k + (prt x + j))) (fun j hj => HP_szc g (hp (prt x + j) (by omega) (by omega)))
  have hc1 : ∀ j, prt x ≤ j → j < m → SZc h n ow kd Fv P f0 (h2 (k + j)) ((fun j => c0 (j - prt x)) j) := fun j h1 h2' => by
    have := hc0 (j - prt x) (by omega)
    rw [show prt x + (j - prt x) = j from by omega] at this
    exact this
  refine ⟨_, _, ho, hk, fun i hi => if_neg hi, ?_, BK_gtc hx (bkt x hx h0 hv rfl).1, ext, szx x hx h0 hv rfl⟩
  intro t ht gt
  rcases gt with ⟨z, -⟩ | ⟨-, g1, g2, g3, g4⟩
  · exact absurd ht z
  by_cases e : vn t = k
  · have e2 : so t = so x := by
      have := g4
      simp only [if_pos e] at this
      omega
    have sz2 := szx t ht g1 e e2 f0 _ hc1
    obtain ⟨q1, q2, q3⟩ := bkt t ht g1 e e2
    refine ⟨_, _, sz2, fun h5 => ?_⟩
    rcases hs with ⟨s1, s2, s3⟩ | hs
    · exact ⟨by rw [e2]; exact s1, by rw [q2]; exact s2, by rw [e]; exact s3⟩
    · have := hs f0 _ hc1; omega
  · have e1 : ow (vn t) = vn t := by
      have := g3
      by_cases q : k ≤ vn t ∧ vn t < k + m
      · simp only [if_pos q] at this; omega
      · simp only [if_neg q] at this; exact this
    have e2 : (kd (vn t) : Int) = so t := by have := g4; simp only [if_neg e] at this; exact this
    have gt0 : GT n ow kd P t := Or.inr ⟨ht, g1, g2, e1, e2⟩
    obtain ⟨f, s, z1, z2⟩ := g t ht gt0
    refine ⟨f, s, ext _ _ _ z1, fun h5 => ?_⟩
    obtain ⟨r1, r2, r3⟩ := z2 h5
    have b := (HP_bkc g ht gt0).1
    have b6 := b.2.2.2.2.2
    have b4 := b.2.2.2.1
    have o1 := b6 1 (by omega)
    refine ⟨r1, ?_, by rw [hh _ (out _ (by omega) (by omega))]; exact r3⟩
    have q2' := r2
    unfold blk at q2' ⊢
    rw [r1] at q2' ⊢
    simp at q2' ⊢
    rw [hh _ (out _ g2 (by omega))]; exact q2'
end
end
section
set_option maxRecDepth 100000
theorem tagI (t : Int64) : (t >>> ((32 : Int32).toInt64 &&& 63)).toInt32 = I (so t) := I_of _
theorem valI (t : Int64) : t.toInt32 = I (va t) := I_of _
theorem m1I : (-1 : Int32) = I (-1) := rfl
section
variable {α β : Type} {Q : MS → α → Prop} {u v w : MS} {N : Nat}
theorem e_in {x : Int} {n : Nat} {y : Option (MS × α)} (h : 0 ≤ x ∧ x < n) (hn : n ≤ 2147483647) (q : OK Q y) : OK Q (ck (inb (I x) n) y) := ok_ck.mpr ⟨(I_inb (by omega) (by omega)).mpr h, q⟩
theorem tnI {x : Int} {n : Nat} (h : x = ((n : Nat) : Int)) (hn : n < 2147483648) : (I x).toNatClampNeg = n := by
  rw [I_tn (by omega) (by omega), h]; exact Int.toNat_natCast n
theorem e_tag {t : Int64} : hm_Te_tag N u t = some (u, I (so t)) := by unfold hm_Te_tag hb_Te_tag_0; rw [tagI]
theorem e_make {s x : Int} : hm_Te_make N u (I s) (I x) = some (u, mk s x) := rfl
theorem nh_so {t : Int64} (h : so t ≠ 3 ∧ so t ≠ 5 ∧ so t ≠ 7) : ¬ isH t := by unfold isH; omega
end
section
variable {h : Nat → Int64} {n N b : Nat} {ow kd : Nat → Nat} {Fv : Int64 → Int64 → Prop} {P : Int64 → Prop} {u : MS} {t : Int64}
theorem vn_e {t : Int64} (h : 0 ≤ va t) : va t = ((vn t : Nat) : Int) := by unfold vn; omega
theorem BK_ge (z : isH t) : 1 ≤ blk h t := blk_pos z
theorem cellsAt_h (hh : u.2.2.2 b = h) (hn : n ≤ 512) (z : isH t) (k : BKc h n ow kd Fv t) : hm_Te_cellsAt N u b t = some (u, I (blk h t)) := by
  obtain ⟨k1, k2, k3, k4, k5, k6⟩ := k
  have hb := blk_pos (h := h) z
  have hv : va t = ((vn t : Nat) : Int) := by unfold vn; omega
  unfold hm_Te_cellsAt hb_Te_cellsAt_0 hb_Te_cellsAt_49
  rw [tagI, valI, hh]
  show br (decide (I (so t) = 7)) _ _ = _
  have hr := so_r t
  rw [I_lit (n := 7), I_lit (n := 5), I_lit (n := 3), decE hr.1 hr.2 (by decide) (by decide), decE hr.1 hr.2 (by decide) (by decide), decE hr.1 hr.2 (by decide) (by decide)]
  have z7 : (OfNat.ofNat 7 : Int) = 7 := rfl
  have z5 : (OfNat.ofNat 5 : Int) = 5 := rfl
  have z3 : (OfNat.ofNat 3 : Int) = 3 := rfl
  rw [z7, z5, z3]
  rcases z with z | z | z
  · rw [decide_eq_false (by omega), decide_eq_false (by omega), decide_eq_true z, br_fq, br_fq, br_tq]
    have e : blk h t = 2 + vn (h (vn t + 1)) := by unfold blk; rw [if_neg (by omega), if_neg (by omega), if_pos z]
    have k3 := k3 z
    have hw : va (h (vn t + 1)) = ((vn (h (vn t + 1)) : Nat) : Int) := vn_e k3.1
    rw [I_lit (n := 1), I_add, hv, tnI (n := vn t + 1) (by show _ + (1 : Int) = _; omega) (by omega), valI, I_lit (n := 2), I_add]
    rw [(I_inb (by show _ ≤ _ + (1 : Int); omega) (by show _ + (1 : Int) < _; omega)).mpr ⟨by show 0 ≤ _ + (1 : Int); omega, by show _ + (1 : Int) < _; omega⟩, ck_t, hw, e]
    congr 3
    show _ + (2 : Int) = _
    omega
  · rw [decide_eq_false (by omega), decide_eq_true z, br_fq, br_tq]
    have e : blk h t = 1 + vn (h (vn t)) := by unfold blk; rw [if_neg (by omega), if_pos z]
    have k2 := k2 z
    have hw : va (h (vn t)) = ((vn (h (vn t)) : Nat) : Int) := vn_e k2.1
    rw [hv, tnI (n := vn t) rfl (by omega), valI, I_lit (n := 1), I_add, (I_inb (by omega) (by omega)).mpr ⟨by omega, by omega⟩, ck_t, hw, e]
    congr 3
    show _ + (1 : Int) = _
    omega
  · rw [decide_eq_true z, br_tq]
    have e : blk h t = 2 := by unfold blk; rw [if_pos z]
    rw [e]; rfl
theorem cellsAt_n (z : ¬ isH t) : hm_Te_cellsAt N u b t = some (u, 0) := by
  unfold hm_Te_cellsAt hb_Te_cellsAt_0 hb_Te_cellsAt_49
  rw [tagI]
  show br (decide (I (so t) = 7)) _ _ = _
  have hr := so_r t
  rw [I_lit (n := 7), I_lit (n := 5), I_lit (n := 3), decE hr.1 hr.2 (by decide) (by decide), decE hr.1 hr.2 (by decide) (by decide), decE hr.1 hr.2 (by decide) (by decide)]
  unfold isH at z
  rw [decide_eq_false (show ¬ so t = (OfNat.ofNat 7 : Int) from fun y => z (Or.inr (Or.inr y))), decide_eq_false (show ¬ so t = (OfNat.ofNat 5 : Int) from fun y => z (Or.inr (Or.inl y))), decide_eq_false (show ¬ so t = (OfNat.ofNat 3 : Int) from fun y => z (Or.inl y)), br_fq, br_fq, br_fq]
end
end
section
set_option maxRecDepth 100000
section
variable {h : Nat → Int64} {n N b : Nat} {ow kd : Nat → Nat} {Fv : Int64 → Int64 → Prop} {P : Int64 → Prop} {u v w : MS} {t : Int64}
theorem smm_add {c : Nat → Nat} {a : Nat} : ∀ {x y : Nat}, smm c a (x + y) = smm c a x + smm c (a + x) y
  | x, 0 => by rfl
  | x, y + 1 => by
    show smm c a (x + y) + c (a + (x + y)) = smm c a x + (smm c (a + x) y + c (a + x + y))
    rw [smm_add, show a + (x + y) = a + x + y by omega]; omega
theorem FRj {is ls as js : List Nat} {u w : MS} (f : FR is ls as js u w) {k : Nat} (hk : k ∉ js) : w.2.2.2 k = u.2.2.2 k := f.2.2.2 k hk
theorem wj_row {k i : Nat} {x : Int64} {j : Nat} : (wj u k i x).2.2.2 k j = if j = i then x else u.2.2.2 k j := by
  rw [J_wj, if_pos rfl]
def STKc (h : Nat → Int64) (n : Nat) (ow kd : Nat → Nat) (Fv : Int64 → Int64 → Prop) (P : Int64 → Prop) (u : MS) (c : Nat → Nat) (top : Nat) : Prop := ∀ j, j < top → (∃ f, SZc h n ow kd Fv P f (u.2.2.2 45 j) (c j)) ∧ (top = 1 ∨ isH (u.2.2.2 45 j))
theorem SZ_blkc {f s : Nat} (z : SZc h n ow kd Fv P f t s) (ht : isH t) : ∃ f2 c, BKc h n ow kd Fv t ∧ (∀ j, prt t ≤ j → j < blk h t → SZc h n ow kd Fv P f2 (h (vn t + j)) (c j)) ∧ s = blk h t + smm c (prt t) (blk h t - prt t) := by
  cases f with
  | zero => exact z.elim
  | succ f =>
    rcases z with z | ⟨-, z2, c, z3, z4⟩
    · exact absurd ht z.1
    · exact ⟨f, c, z2, z3, z4⟩
theorem SZ_nhc {f s : Nat} (z : SZc h n ow kd Fv P f t s) (ht : ¬ isH t) : s = 0 := by
  cases f with
  | zero => exact z.elim
  | succ f =>
    rcases z with z | z
    · exact z.2.2
    · exact absurd z.1 ht
theorem SZ_posc {f s : Nat} (z : SZc h n ow kd Fv P f t s) (ht : isH t) : 1 ≤ s := by
  obtain ⟨f2, c, -, -, e⟩ := SZ_blkc z ht
  have := blk_pos (h := h) ht
  omega
theorem head_nh (k : BKc h n ow kd Fv t) (ht : isH t) (hF : ∀ a b, Fv a b → so a = 8 ∧ so b = 8) {j : Nat} (hj : j < prt t) : ¬ isH (h (vn t + j)) := by
  obtain ⟨k1, k2, k3, -⟩ := k
  apply nh_so
  rcases ht with z | z | z
  · have hp : prt t = 2 := by unfold prt; rw [if_neg (by omega), if_neg (by omega)]
    have := hF _ _ (k3 z).2
    rcases (show j = 0 ∨ j = 1 by omega) with rfl | rfl
    · rw [Nat.add_zero]; omega
    · omega
  · have hp : prt t = 1 := by unfold prt; rw [if_neg (by omega), if_pos z]
    have := (k2 z).2
    rw [show j = 0 by omega, Nat.add_zero]; omega
  · have hp : prt t = 0 := by unfold prt; rw [if_pos z]
    omega
theorem smm_le_mono {c : Nat → Nat} {a : Nat} : ∀ {x y : Nat}, x ≤ y → smm c a x ≤ smm c a y
  | x, 0, hh => by rw [show x = 0 by omega]; exact Nat.le_refl _
  | x, y + 1, hh => by
    by_cases e : x = y + 1
    · rw [e]; exact Nat.le_refl _
    · exact Nat.le_trans (smm_le_mono (y := y) (by omega)) (Nat.le_add_right _ _)
theorem stk_top {c : Nat → Nat} {top : Nat} (hs : STKc h n ow kd Fv P u c top) : top ≤ 1 + smm c 0 top := by
  by_cases e : top ≤ 1
  · omega
  · have : ∀ k, k ≤ top → k ≤ smm c 0 k := by
      intro k
      induction k with
      | zero => intro _; exact Nat.zero_le _
      | succ k ih =>
        intro hk
        obtain ⟨⟨f, z⟩, y⟩ := hs k (by omega)
        have := SZ_posc z (y.resolve_left (by omega))
        have := ih (by omega)
        show k + 1 ≤ smm c 0 k + c (0 + k)
        rw [Nat.zero_add]; omega
    have := this top (Nat.le_refl _)
    omega
def wgt (d : Nat → Nat) (p : Nat) : Nat → Nat := fun j => if j < p then 0 else d j
theorem wgt_0 {d : Nat → Nat} {p : Nat} : ∀ {k : Nat}, k ≤ p → smm (wgt d p) 0 k = 0
  | 0, _ => rfl
  | k + 1, hk => by
    show smm (wgt d p) 0 k + wgt d p (0 + k) = 0
    rw [wgt_0 (by omega), Nat.zero_add]
    exact if_pos (by omega)
theorem wgt_sum {d : Nat → Nat} {p m : Nat} (h : p ≤ m) : smm (wgt d p) 0 m = smm d p (m - p) := by
  have e : m = p + (m - p) := by omega
  have e2 := smm_add (c := wgt d p) (a := 0) (x := p) (y := m - p)
  rw [← e, wgt_0 (Nat.le_refl _), Nat.zero_add, Nat.zero_add] at e2
  rw [e2]
  exact smm_eq (fun j h1 _ => if_neg (by omega))
theorem smm_cut {c : Nat → Nat} {i m : Nat} (h : i < m) : smm c i (m - i) = c i + smm c (i + 1) (m - (i + 1)) := by
  have := smm_add (c := c) (a := i) (x := 1) (y := m - (i + 1))
  rw [show 1 + (m - (i + 1)) = m - i by omega] at this
  rw [this]
  show 0 + c (i + 0) + _ = _
  rw [Nat.add_zero, Nat.zero_add]
theorem GT_of_sz {f s : Nat} (z : SZc h n ow kd Fv P f t s) : GT n ow kd P t := SZ_gtc z
theorem size_loop {s : Nat} {u0 : MS} (hb : b ≠ 45) (hh : u0.2.2.2 b = h) (hn : n ≤ 512) (hF : ∀ a b, Fv a b → so a = 8 ∧ so b = 8) (hs : s ≤ 1900) : ∀ M : Nat,
    (∀ (w : MS) (tot top cn : Nat) (c : Nat → Nat), FR [] [] [] [45] u0 w → STKc h n ow kd Fv P w c top → tot + smm c 0 top = s → cn ≤ tot + (if top = 0 then 2000 else 0) → 3 * smm c 0 top + 2 * top + 3 ≤ M → OK (fun w r => FR [] [] [] [45] u0 w ∧ r = I s) ((hg_Te_size N M).1 w b (I tot) (I top) (I cn))) ∧
    (∀ (w : MS) (x : Int64) (tot top cn i : Nat) (c d : Nat → Nat), FR [] [] [] [45] u0 w → isH x → BKc h n ow kd Fv x → (∃ f, ∀ j, prt x ≤ j → j < blk h x → SZc h n ow kd Fv P f (h (vn x + j)) (d j)) → (∀ j, j < top → (∃ f, SZc h n ow kd Fv P f (w.2.2.2 45 j) (c j)) ∧ isH (w.2.2.2 45 j)) → i ≤ blk h x → tot + smm c 0 top + smm (wgt d (prt x)) i (blk h x - i) = s → cn + 1 ≤ tot → 3 * smm c 0 top + 2 * top + 3 * smm (wgt d (prt x)) i (blk h x - i) + 3 * (blk h x - i) + 4 ≤ M → OK (fun w r => FR [] [] [] [45] u0 w ∧ r = I s) ((hg_Te_size N M).2 w b (I tot) (I top) (I cn) (I (va x)) (I (blk h x)) (I i))) := by
  intro M
  induction M with
  | zero => exact ⟨fun w tot top cn c _ _ _ _ hM => by omega, fun w x tot top cn i c d _ _ _ _ _ _ _ _ hM => by omega⟩
  | succ M ih =>
    refine ⟨fun w tot top cn c f hst hsum hcn hM => ?_, fun w x tot top cn i c d f hx hk hd hst hi hsum hcn hM => ?_⟩
    · show OK _ (hb_Te_size_16 N (hg_Te_size N M) w b (I tot) (I top) (I cn))
      have ht := stk_top hst
      unfold hb_Te_size_16 hb_Te_size_140
      have hw : w.2.2.2 b = h := by rw [FRj f (by simpa using hb)]; exact hh
      rw [I_lit (n := 1000000000), m1I, lit0q]
      have hcn2 : cn ≤ 10000 := by split at hcn <;> omega
      refine k_le ⟨by decide, by decide⟩ ⟨by omega, by omega⟩ (fun y => ?_) (fun _ => ?_)
      · exact absurd y (by show ¬ (1000000000 : Int) ≤ _; omega)
      refine k_le ⟨by omega, by omega⟩ ⟨by decide, by decide⟩ (fun y => ?_) (fun y => ?_)
      · have e0 : top = 0 := by omega
        subst e0
        refine ok_some.mpr ⟨f, ?_⟩
        have : smm c 0 0 = 0 := rfl
        rw [show tot = s by omega]
      · have e1 : I ((top : Int)) + I (-1) = I (((top - 1 : Nat) : Int)) := by rw [I_add]; congr 1; omega
        rw [e1]
        refine e_in ⟨by omega, by omega⟩ (by decide) (e_in ⟨by omega, by omega⟩ (by decide) ?_)
        rw [tnI (n := top - 1) rfl (by omega)]
        obtain ⟨⟨fz, z⟩, hor⟩ := hst (top - 1) (by omega)
        have hsplit : smm c 0 top = smm c 0 (top - 1) + c (top - 1) := by
          have := smm_add (c := c) (a := 0) (x := top - 1) (y := 1)
          rw [show top - 1 + 1 = top by omega] at this
          rw [this]
          show _ + (0 + c (0 + (top - 1) + 0)) = _
          rw [Nat.zero_add, Nat.zero_add, Nat.add_zero]
        have hcn3 : cn ≤ tot := by have := hcn; rw [if_neg (show ¬ top = 0 by omega)] at this; omega
        by_cases hx : isH (w.2.2.2 45 (top - 1))
        · obtain ⟨f2, d, k1, k2, k3⟩ := SZ_blkc z hx
          have hbp := blk_pos (h := h) hx
          have hbl := k1.2.2.2.1
          rw [cellsAt_h hw hn hx k1, bnd_so, I_add, valI, show (0 : Int) = ((0 : Nat) : Int) from rfl, show ((tot : Nat) : Int) + ((blk h (w.2.2.2 45 (top - 1)) : Nat) : Int) = ((tot + blk h (w.2.2.2 45 (top - 1)) : Nat) : Int) by omega]
          have hp := prt_le (h := h) hx
          have hwg := wgt_sum (d := d) hp
          refine ih.2 w (w.2.2.2 45 (top - 1)) _ (top - 1) cn 0 c d f hx k1 ⟨f2, k2⟩ (fun j hj => ?_) (Nat.zero_le _) ?_ ?_ ?_
          · obtain ⟨a, a2⟩ := hst j (by omega)
            exact ⟨a, a2.resolve_left (by omega)⟩
          · rw [Nat.sub_zero]; omega
          · omega
          · rw [Nat.sub_zero]; omega
        · have e0 := SZ_nhc z hx
          have et : top = 1 := hor.resolve_right hx
          rw [cellsAt_n hx, bnd_so, lit0q, I_add, valI, Int.add_zero]
          subst et
          cases M with
          | zero => omega
          | succ M2 =>
            show OK _ (hb_Te_size_64 N (hg_Te_size N M2) w b (I tot) (I ((1 - 1 : Nat) : Int)) (I cn) (I (va (w.2.2.2 45 (1 - 1)))) (I 0) (I 0))
            unfold hb_Te_size_64 hb_Te_size_134
            refine k_le ⟨by decide, by decide⟩ ⟨by decide, by decide⟩ (fun _ => ?_) (fun y => absurd y (by decide))
            rw [lit1q, I_add]
            cases M2 with
            | zero => omega
            | succ M3 =>
              show OK _ (hb_Te_size_16 N (hg_Te_size N M3) w b (I tot) (I ((1 - 1 : Nat) : Int)) (I _))
              unfold hb_Te_size_16 hb_Te_size_140
              rw [I_lit (n := 1000000000), m1I, lit0q]
              refine k_le ⟨by decide, by decide⟩ ⟨by omega, by omega⟩ (fun y => ?_) (fun _ => ?_)
              · exact absurd y (by show ¬ (1000000000 : Int) ≤ _; omega)
              refine k_le ⟨by decide, by decide⟩ ⟨by decide, by decide⟩ (fun _ => ?_) (fun y => absurd y (by decide))
              refine ok_some.mpr ⟨f, ?_⟩
              have h0 : smm c 0 (1 - 1) = 0 := rfl
              rw [show tot = s by omega]
    · show OK _ (hb_Te_size_64 N (hg_Te_size N M) w b (I tot) (I top) (I cn) (I (va x)) (I (blk h x)) (I i))
      have hw : w.2.2.2 b = h := by rw [FRj f (by simpa using hb)]; exact hh
      have hbl := hk.2.2.2.1
      have hvx := vn_e hk.1
      have hp := prt_le (h := h) hx
      obtain ⟨fd, hd⟩ := hd
      have ht : top ≤ smm c 0 top + 1 := by
        have := stk_top (h := h) (n := n) (ow := ow) (kd := kd) (Fv := Fv) (P := P) (u := w) (c := c) (top := top) (fun j hj => ⟨(hst j hj).1, Or.inr (hst j hj).2⟩)
        omega
      unfold hb_Te_size_64 hb_Te_size_134 hb_Te_size_128 hb_Te_size_111
      have stepN : ∀ w2 : MS, FR [] [] [] [45] u0 w2 → (∀ j, j < top → w2.2.2.2 45 j = w.2.2.2 45 j) → i < blk h x → wgt d (prt x) i = 0 → OK (fun w r => FR [] [] [] [45] u0 w ∧ r = I s) ((hg_Te_size N M).2 w2 b (I tot) (I top) (I cn) (I (va x)) (I (blk h x)) (I i + 1)) := by
        intro w2 f2 e2 hi2 h0
        rw [lit1q, I_add, show ((i : Nat) : Int) + 1 = ((i + 1 : Nat) : Int) by omega]
        have hc := smm_cut (c := wgt d (prt x)) hi2
        refine ih.2 w2 x tot top cn (i + 1) c d f2 hx hk ⟨fd, hd⟩ (fun j hj => by rw [e2 j hj]; exact hst j hj) (by omega) (by omega) hcn (by omega)
      refine k_le ⟨by omega, by omega⟩ ⟨by omega, by omega⟩ (fun y => ?_) (fun y => ?_)
      · have ei : i = blk h x := by omega
        subst ei
        rw [lit1q, I_add, show ((cn : Nat) : Int) + 1 = ((cn + 1 : Nat) : Int) by omega]
        have h0 : smm (wgt d (prt x)) (blk h x) (blk h x - blk h x) = 0 := by rw [Nat.sub_self]; rfl
        refine ih.1 w tot top (cn + 1) c f (fun j hj => ⟨(hst j hj).1, Or.inr (hst j hj).2⟩) (by omega) ?_ (by omega)
        split <;> omega
      · have hi2 : i < blk h x := by omega
        rw [I_lit (n := 2048)]
        refine k_le ⟨by decide, by decide⟩ ⟨by omega, by omega⟩ (fun y => absurd y (by show ¬ (2048 : Int) ≤ _; omega)) (fun _ => ?_)
        rw [I_add, hvx, show ((vn x : Nat) : Int) + ((i : Nat) : Int) = ((vn x + i : Nat) : Int) by omega]
        refine e_in ⟨by omega, by omega⟩ (by decide) (ok_lt.mpr ?_)
        rw [tnI (n := vn x + i) rfl (by omega), hw, tagI]
        have hr := so_r (h (vn x + i))
        have push : isH (h (vn x + i)) → OK (fun w r => FR [] [] [] [45] u0 w ∧ r = I s) (ck (inb (I ((vn x + i : Nat) : Int)) 512) (ck (inb (I (top : Int)) 2048) (lt (upJ w 45 (vp_updL (w.2.2.2 45) (I (top : Int)).toNatClampNeg (h (vn x + i)))) fun w5 => (hg_Te_size N M).2 w5 b (I tot) (I (top : Int) + 1) (I cn) (I (vn x : Int)) (I (blk h x : Int)) (I (i : Int) + 1)))) := by
          intro hy
          have hip : prt x ≤ i := by
            by_cases e : prt x ≤ i
            · exact e
            · exact absurd hy (head_nh hk hx hF (by omega))
          refine e_in ⟨by omega, by omega⟩ (by decide) (e_in ⟨by omega, by omega⟩ (by decide) (ok_lt.mpr ?_))
          rw [tnI (n := top) rfl (by omega), wj_e, lit1q, I_add, I_add, show ((i : Nat) : Int) + 1 = ((i + 1 : Nat) : Int) by omega, show ((top : Nat) : Int) + 1 = ((top + 1 : Nat) : Int) by omega, ← hvx]
          have hc := smm_cut (c := wgt d (prt x)) hi2
          have hwi : wgt d (prt x) i = d i := if_neg (by omega)
          have hsm : smm (fun j => if j = top then d i else c j) 0 (top + 1) = smm c 0 top + d i := by
            show smm _ 0 top + (if 0 + top = top then d i else c (0 + top)) = _
            rw [if_pos (by omega), smm_eq (d := c) (fun j _ h2 => if_neg (by omega))]
          have hpos := SZ_posc (hd i hip hi2) hy
          refine ih.2 _ x tot (top + 1) cn (i + 1) (fun j => if j = top then d i else c j) d (FR.wj f (by decide)) hx hk ⟨fd, hd⟩ (fun j hj => ?_) (by omega) (by rw [hsm]; omega) hcn (by rw [hsm]; omega)
          rw [wj_row]
          by_cases e : j = top
          · rw [if_pos e, if_pos e]; exact ⟨⟨fd, hd i hip hi2⟩, hy⟩
          · rw [if_neg e, if_neg e]; exact hst j (by omega)
        rw [I_lit (n := 7), I_lit (n := 5), I_lit (n := 3)]
        refine k_eq hr ⟨by decide, by decide⟩ (fun y => push (Or.inr (Or.inr y))) (fun y7 => ?_)
        refine k_eq hr ⟨by decide, by decide⟩ (fun y => push (Or.inr (Or.inl y))) (fun y5 => ?_)
        refine k_eq hr ⟨by decide, by decide⟩ (fun y => push (Or.inl y)) (fun y3 => ?_)
        have hnh : ¬ isH (h (vn x + i)) := by
          intro hy
          rcases hy with hy | hy | hy
          · exact y3 hy
          · exact y5 hy
          · exact y7 hy
        rw [← hvx]
        refine stepN w f (fun _ _ => rfl) hi2 ?_
        unfold wgt
        by_cases e : i < prt x
        · exact if_pos e
        · rw [if_neg e]
          exact SZ_nhc (hd i (by omega) hi2) hnh
theorem size_ok {f s : Nat} (hb : b ≠ 45) (hh : u.2.2.2 b = h) (hn : n ≤ 512) (hF : ∀ a b, Fv a b → so a = 8 ∧ so b = 8) (hs : s ≤ 1900) (z : SZc h n ow kd Fv P f t s) (hN : 6000 ≤ N) : OK (fun w r => FR [] [] [] [45] u w ∧ r = I s) (hm_Te_size N u b t) := by
  unfold hm_Te_size hb_Te_size_0
  refine e_in (x := 0) ⟨by decide, by decide⟩ (by decide) (ok_lt.mpr ?_)
  rw [show (0 : Int32).toNatClampNeg = 0 from rfl, wj_e, lit0q, lit1q, show (0 : Int) = ((0 : Nat) : Int) from rfl, show (1 : Int) = ((1 : Nat) : Int) from rfl]
  have e1 : smm (fun _ => s) 0 1 = s := by show 0 + s = s; omega
  refine (size_loop (N := N) (u0 := u) (b := b) (ow := ow) (kd := kd) (P := P) hb hh hn hF hs N).1 _ 0 1 0 (fun _ => s) (FR.wj FR.rf (by decide)) (fun j hj => ⟨⟨f, ?_⟩, Or.inl rfl⟩) (by rw [e1]; omega) (by split <;> omega) (by rw [e1]; omega)
  rw [wj_row, if_pos (by omega)]; exact z
end
end
section
set_option maxRecDepth 100000
def tlc (h : Nat → Int64) (t : Int64) : Nat → Int64
  | 0 => t
  | k + 1 => h (vn (tlc h t k) + 1)
theorem tlc_s {h : Nat → Int64} {t : Int64} : ∀ {k : Nat}, tlc h (h (vn t + 1)) k = tlc h t (k + 1)
  | 0 => rfl
  | k + 1 => by show h (vn (tlc h (h (vn t + 1)) k) + 1) = h (vn (tlc h t (k + 1)) + 1); rw [tlc_s]
section
variable {h : Nat → Int64} {n N b : Nat} {ow kd : Nat → Nat} {Fv : Int64 → Int64 → Prop} {P : Int64 → Prop} {u v w : MS} {t : Int64}
def LSTc (h : Nat → Int64) (n : Nat) (ow kd : Nat → Nat) (Fv : Int64 → Int64 → Prop) (P : Int64 → Prop) (t : Int64) (k : Nat) : Prop := so (tlc h t k) = 6 ∧ ∀ j, j < k → so (tlc h t j) = 7 ∧ BKc h n ow kd Fv (tlc h t j) ∧ ∃ f s, SZc h n ow kd Fv P f (tlc h t j) s
theorem ll_loop (hh : u.2.2.2 b = h) (hn : n ≤ 512) : ∀ (M s f cn : Nat) (t : Int64), SZc h n ow kd Fv P f t s → s < M → s ≤ 1900 → cn + s ≤ 10000 → OK (fun w r => w = u ∧ (r = I (-1) ∨ ∃ k : Nat, r = I ((cn + k : Nat) : Int) ∧ 2 * k ≤ s ∧ LSTc h n ow kd Fv P t k)) (hg_Te_listLength N M u b t (I cn)) := by
  intro M
  induction M with
  | zero => intro s f cn t z hm; omega
  | succ M ih =>
    intro s f cn t z hm hs hcn
    show OK _ (hb_Te_listLength_6 N (hg_Te_listLength N M) u b t (I cn))
    unfold hb_Te_listLength_6
    have hr := so_r t
    have fin : OK (fun w r => w = u ∧ (r = I (-1) ∨ ∃ k : Nat, r = I ((cn + k : Nat) : Int) ∧ 2 * k ≤ s ∧ LSTc h n ow kd Fv P t k)) (hb_Te_listLength_38 N (hg_Te_listLength N M) u t (I cn)) := by
      unfold hb_Te_listLength_38 hb_Te_listLength_54
      rw [e_tag, bnd_so, I_lit (n := 6)]
      refine k_eq hr ⟨by decide, by decide⟩ (fun y => ok_some.mpr ⟨rfl, Or.inr ⟨0, rfl, by omega, y, fun j hj => by omega⟩⟩) (fun _ => ok_some.mpr ⟨rfl, Or.inl rfl⟩)
    rw [I_lit (n := 1000000000)]
    refine k_le ⟨by decide, by decide⟩ ⟨by omega, by omega⟩ (fun _ => fin) (fun _ => ?_)
    rw [e_tag, bnd_so, I_lit (n := 7)]
    refine k_eq hr ⟨by decide, by decide⟩ (fun y => ?_) (fun _ => fin)
    have y7 : so t = 7 := y
    have hH : isH t := Or.inr (Or.inr y7)
    obtain ⟨f2, c, k1, k2, k3⟩ := SZ_blkc z hH
    have hb2 : blk h t = 2 := by unfold blk; rw [if_pos y7]
    have hp : prt t = 0 := by unfold prt; rw [if_pos y7]
    have hv := vn_e k1.1
    have hbl := k1.2.2.2.1
    rw [hb2, hp] at k3
    have e2 : smm c 0 (2 - 0) = c 0 + c 1 := by show 0 + c (0 + 0) + c (0 + 1) = _; simp
    rw [valI, lit1q, I_add, hv, show ((vn t : Nat) : Int) + 1 = ((vn t + 1 : Nat) : Int) by omega]
    refine e_in ⟨by omega, by omega⟩ (by decide) ?_
    rw [tnI (n := vn t + 1) rfl (by omega), hh, I_add, show ((cn : Nat) : Int) + 1 = ((cn + 1 : Nat) : Int) by omega]
    refine ok_mono (ih (c 1) f2 (cn + 1) (h (vn t + 1)) (k2 1 (by omega) (by omega)) (by omega) (by omega) (by omega)) (fun w r hw => ⟨hw.1, ?_⟩)
    rcases hw.2 with e | ⟨k, r1, r2, r3, r4⟩
    · exact Or.inl e
    · refine Or.inr ⟨k + 1, by rw [r1]; congr 1; omega, by omega, by rw [← tlc_s]; exact r3, fun j hj => ?_⟩
      cases j with
      | zero => exact ⟨y7, k1, f, s, z⟩
      | succ j => rw [← tlc_s]; exact r4 j (by omega)
theorem listLength_ok {f s : Nat} (hh : u.2.2.2 b = h) (hn : n ≤ 512) (z : SZc h n ow kd Fv P f t s) (hs : s ≤ 1900) (hN : 6000 ≤ N) : OK (fun w r => w = u ∧ (r = I (-1) ∨ ∃ k : Nat, r = I k ∧ 2 * k ≤ s ∧ LSTc h n ow kd Fv P t k)) (hm_Te_listLength N u b t) := by
  unfold hm_Te_listLength hb_Te_listLength_0
  rw [lit0q, show (0 : Int) = ((0 : Nat) : Int) from rfl]
  refine ok_mono (ll_loop (N := N) (ow := ow) (kd := kd) (Fv := Fv) (P := P) hh hn N s f 0 t z (by omega) hs (by omega)) (fun w r hw => ⟨hw.1, ?_⟩)
  rcases hw.2 with e | ⟨k, r1, r2⟩
  · exact Or.inl e
  · exact Or.inr ⟨k, by rw [r1, Nat.zero_add], r2⟩
end
def WDc (u : MS) (v : Nat) : Prop := 0 ≤ F u (20 * v + 2) ∧ F u (20 * v + 2) + 1 ≤ il (v + 2) ∧ il (v + 2) ≤ 100000 ∧ bl (v + 1) ≤ 100000 ∧ ∀ k : Nat, (k : Int) < F u (20 * v + 2) → 0 ≤ A u (v + 2) k ∧ A u (v + 2) k ≤ A u (v + 2) (k + 1) ∧ A u (v + 2) (k + 1) ≤ bl (v + 1)
section
variable {N : Nat} {u w : MS} {v : Nat}
theorem WDc_fr {is ls as js : List Nat} (h : WDc u v) (f : FR is ls as js u w) (h1 : 20 * v + 2 ∉ is) (h2 : v + 2 ∉ as) : WDc w v := by
  unfold WDc
  rw [FR.F f h1]
  simp only [FR.A f h2]
  exact h
theorem wsign_ok {a k : Int} (h : WDc u v) (ha : RG a) (hk : RG k) : OK (fun w _ => w = u) (hm_Wo_sign N u v (I a) (I k)) := by
  obtain ⟨h1, h2, h3, h3b, h4⟩ := h
  unfold hm_Wo_sign hb_Wo_sign_0 hb_Wo_sign_35
  simp only [I_F, I_A, lit0q, lit1q, I_add, I_sub]
  have non : OK (fun w _ => w = u) (some (u, (-1 : Int32))) := ok_some.mpr rfl
  refine k_lt ha ⟨by decide, by decide⟩ (fun _ => non) (fun a0 => k_le (FRG1 u _) ha (fun _ => non) (fun a1 => k_lt hk ⟨by decide, by decide⟩ (fun _ => non) (fun k0 => ?_)))
  have hr := ha.2
  obtain ⟨n, rfl⟩ : ∃ n : Nat, a = n := ⟨a.toNat, by omega⟩
  obtain ⟨g1, g2, g3⟩ := h4 n a1
  have hkr := hk.2
  refine e_in ⟨by omega, by omega⟩ (by omega) (e_in ⟨by omega, by omega⟩ (by omega) ?_)
  rw [show ((n : Nat) : Int) + 1 = ((n + 1 : Nat) : Int) by omega, tnI (n := n + 1) rfl (by omega), tnI (n := n) rfl (by omega)]
  refine k_lt hk ⟨by omega, by omega⟩ (fun k1 => e_in ⟨by omega, by omega⟩ (by omega) (e_in ⟨by omega, by omega⟩ (by omega) (ok_some.mpr rfl))) (fun _ => non)
theorem wlength_ok {a : Int} (h : WDc u v) (ha : RG a) : OK (fun w r => w = u ∧ ∃ k : Int, r = I k ∧ 0 ≤ k ∧ k ≤ 100000) (hm_Wo_length N u v (I a)) := by
  obtain ⟨h1, h2, h3, h3b, h4⟩ := h
  unfold hm_Wo_length hb_Wo_length_0 hb_Wo_length_12 hb_Wo_length_31
  simp only [I_F, I_A, lit0q, lit1q, I_add, I_sub]
  have non : OK (fun w r => w = u ∧ ∃ k : Int, r = I k ∧ 0 ≤ k ∧ k ≤ 100000) (some (u, I 0)) := ok_some.mpr ⟨rfl, 0, rfl, by omega, by omega⟩
  refine k_lt ha ⟨by decide, by decide⟩ (fun _ => non) (fun a0 => k_lt ha (FRG1 u _) (fun a1 => ?_) (fun _ => non))
  have hr := ha.2
  obtain ⟨n, rfl⟩ : ∃ n : Nat, a = n := ⟨a.toNat, by omega⟩
  obtain ⟨g1, g2, g3⟩ := h4 n a1
  refine e_in ⟨by omega, by omega⟩ (by omega) (e_in ⟨by omega, by omega⟩ (by omega) ?_)
  rw [show ((n : Nat) : Int) + 1 = ((n + 1 : Nat) : Int) by omega, tnI (n := n + 1) rfl (by omega), tnI (n := n) rfl (by omega)]
  exact ok_some.mpr ⟨rfl, _, rfl, by omega, by omega⟩
theorem wo_loop_c {a b : Nat} (h : WDc u v) (ha : (a : Int) < F u (20 * v + 2)) (hb : (b : Int) < F u (20 * v + 2)) : ∀ (M k : Nat), (k : Int) ≤ A u (v + 2) (a + 1) - A u (v + 2) a → (A u (v + 2) (a + 1) - A u (v + 2) a - k).toNat < M → OK (fun w _ => w = u) (hg_Wo_order N M u v (I a) (I b) (I (A u (v + 2) (a + 1) - A u (v + 2) a)) (I (A u (v + 2) (b + 1) - A u (v + 2) b)) (I k)) := by
  intro M
  have ha2 := h.2.2.2.2 a ha
  have hb2 := h.2.2.2.2 b hb
  obtain ⟨h1, h2, h3, h3b, h4⟩ := h
  induction M with
  | zero => intro k _ z; omega
  | succ M ih =>
    intro k hk hm
    show OK _ (hb_Wo_order_36 N (hg_Wo_order N M) u v _ _ _ _ _)
    unfold hb_Wo_order_36 hb_Wo_order_94
    refine k_le ⟨by omega, by omega⟩ ⟨by omega, by omega⟩ (fun _ => ok_some.mpr rfl) (fun k1 => k_le ⟨by omega, by omega⟩ ⟨by omega, by omega⟩ (fun _ => ok_some.mpr rfl) (fun k2 => ?_))
    rw [tnI (n := a) rfl (by omega), tnI (n := b) rfl (by omega), I_A (k := v + 2) (i := a), I_A (k := v + 2) (i := b), I_add, I_add]
    refine e_in ⟨by omega, by omega⟩ (by omega) (e_in ⟨by omega, by omega⟩ (by omega) (e_in ⟨by omega, by omega⟩ (by omega) (e_in ⟨by omega, by omega⟩ (by omega) (ok_br.mpr ⟨fun _ => ?_, fun _ => ok_some.mpr rfl⟩))))
    rw [lit1q, I_add, show ((k : Nat) : Int) + 1 = ((k + 1 : Nat) : Int) by omega]
    exact ih (k + 1) (by omega) (by omega)
theorem worder_ok {a b : Nat} (h : WDc u v) (ha : (a : Int) < F u (20 * v + 2)) (hb : (b : Int) < F u (20 * v + 2)) (hN : 200000 ≤ N) : OK (fun w _ => w = u) (hm_Wo_order N u v (I a) (I b)) := by
  have ha2 := h.2.2.2.2 a ha
  have hb2 := h.2.2.2.2 b hb
  have h' := h
  obtain ⟨h1, h2, h3, h3b, h4⟩ := h
  unfold hm_Wo_order hb_Wo_order_0
  simp only [I_A, lit0q, lit1q, I_add, I_sub]
  refine e_in ⟨by omega, by omega⟩ (by omega) (e_in ⟨by omega, by omega⟩ (by omega) (e_in ⟨by omega, by omega⟩ (by omega) (e_in ⟨by omega, by omega⟩ (by omega) ?_)))
  rw [tnI (n := a) rfl (by omega), tnI (n := b) rfl (by omega), tnI (n := a + 1) (by omega) (by omega), tnI (n := b + 1) (by omega) (by omega)]
  exact wo_loop_c (N := N) h' ha hb N 0 (by omega) (by omega)
end
def PT (u : MS) (t : Int64) : Prop := (so t = 0 ∨ so t = 1 ∨ so t = 2 ∨ so t = 4 ∨ so t = 6) ∧ (so t = 1 → 0 ≤ va t ∧ va t < F u 22)
def FVc (Fv : Int64 → Int64 → Prop) : Prop := (∀ a b, Fv a b → so a = 8 ∧ so b = 8) ∧ ∀ a b a2 b2, Fv a b → Fv a2 b2 → va a = va a2 → va b = va b2
section
variable {h : Nat → Int64} {n N b : Nat} {ow kd : Nat → Nat} {Fv : Int64 → Int64 → Prop} {P : Int64 → Prop} {u v w : MS} {t x y : Int64}
theorem GT_so (hP : ∀ t, P t → PT u t) (g : GT n ow kd P t) : 0 ≤ so t ∧ so t ≤ 7 := by
  rcases g with z | z
  · have := (hP t z.2).1; omega
  · have := z.1; unfold isH at this; omega
theorem cmpI {a c : Int} (ha : RG a) (hc : RG c) : OK (fun w r => w = u ∧ (r = 0 → a = c)) (hm_JI_compare N u (I a) (I c)) := by
  unfold hm_JI_compare hb_JI_compare_0 hb_JI_compare_19
  refine k_le hc ha (fun _ => k_eq ha hc (fun e => ok_some.mpr ⟨rfl, fun _ => e⟩) (fun _ => ok_some.mpr ⟨rfl, fun z => absurd z (by decide)⟩)) (fun _ => ok_some.mpr ⟨rfl, fun z => absurd z (by decide)⟩)
theorem orderAlone_ok (hh : u.2.2.2 b = h) (hn : n ≤ 512) (g : HPc h n ow kd Fv P) (hP : ∀ t, P t → PT u t) (hA : WDc u 1) (gx : GT n ow kd P x) (gy : GT n ow kd P y) (hN : 200000 ≤ N) : OK (fun w r => w = u ∧ (r = 0 → so x = so y ∧ (so x = 5 ∨ so x = 3 → va (h (vn x)) = va (h (vn y))))) (hm_Te_orderAlone N u b x y) := by
  unfold hm_Te_orderAlone hb_Te_orderAlone_0 hb_Te_orderAlone_62 hb_Te_orderAlone_107
  have hx := so_r x
  have hy := so_r y
  have vx := va_r x
  have vy := va_r y
  simp only [e_tag, bnd_so, valI]
  refine k_eq hx hy (fun e => ?_) (fun e => ?_)
  · rw [I_lit (n := 1), I_lit (n := 5), I_lit (n := 3), I_lit (n := 7)]
    refine k_eq hx ⟨by decide, by decide⟩ (fun e1 => ?_) (fun n1 => ?_)
    · have e1 : so x = 1 := e1
      refine k_eq vx vy (fun e2 => ok_some.mpr ⟨rfl, fun _ => ⟨e, fun z => by omega⟩⟩) (fun _ => ?_)
      have qx : PT u x := by
        rcases gx with z | z
        · exact hP x z.2
        · have := z.1; unfold isH at this; omega
      have qy : PT u y := by
        rcases gy with z | z
        · exact hP y z.2
        · have := z.1; unfold isH at this; omega
      have q1 := qx.2 e1
      have q2 := qy.2 (by omega)
      rw [vn_e q1.1, vn_e q2.1]
      refine ok_bnd.mpr (ok_mono (worder_ok (N := N) (a := vn x) (b := vn y) hA (by have := vn_e q1.1; show _ < F u 22; omega) (by have := vn_e q2.1; show _ < F u 22; omega) hN) (fun w r hw => ok_some.mpr ⟨hw, fun _ => ⟨e, fun z => by omega⟩⟩))
    · have heads : so x = 5 ∨ so x = 3 → OK (fun w r => w = u ∧ (r = 0 → so x = so y ∧ (so x = 5 ∨ so x = 3 → va (h (vn x)) = va (h (vn y))))) (hb_Te_orderAlone_75 N () u b (I (va x)) (I (va y))) := by
        intro hz
        have bx := (HP_bkc g (by unfold isH; omega) gx).1
        have bY := (HP_bkc g (t := y) (by unfold isH; omega) gy).1
        have px := blk_pos (h := h) (t := x) (by unfold isH; omega)
        have py := blk_pos (h := h) (t := y) (by unfold isH; omega)
        have b1 := bx.2.2.2.1
        have b2 := bY.2.2.2.1
        unfold hb_Te_orderAlone_75
        rw [vn_e bx.1, vn_e bY.1]
        refine e_in ⟨by omega, by omega⟩ (by decide) (e_in ⟨by omega, by omega⟩ (by decide) ?_)
        rw [tnI (n := vn x) rfl (by omega), tnI (n := vn y) rfl (by omega), hh, valI, valI]
        refine ok_bnd.mpr (ok_mono (cmpI (va_r _) (va_r _)) (fun w r hw => ok_some.mpr ⟨hw.1, fun z => ⟨e, fun _ => hw.2 z⟩⟩))
      refine k_eq hx ⟨by decide, by decide⟩ (fun e1 => heads (Or.inl e1)) (fun n5 => ?_)
      refine k_eq hx ⟨by decide, by decide⟩ (fun e1 => heads (Or.inr e1)) (fun n3 => ?_)
      have nn : ¬ (so x = 5 ∨ so x = 3) := fun z => z.elim n5 n3
      refine k_eq hx ⟨by decide, by decide⟩ (fun e1 => ok_some.mpr ⟨rfl, fun _ => ⟨e, fun z => absurd z nn⟩⟩) (fun n7 => ?_)
      exact ok_bnd.mpr (ok_mono (cmpI vx vy) (fun w r hw => ok_some.mpr ⟨hw.1, fun _ => ⟨e, fun z => absurd z nn⟩⟩))
  · refine ok_some.mpr ⟨rfl, fun z => ?_⟩
    have qx := GT_so hP gx
    have qy := GT_so hP gy
    rw [I_sub, lit0q, I_eq (by omega) (by omega) (by decide) (by decide)] at z
    exact absurd (by omega) e
theorem partsOf_e {k : Int} : hm_Te_partsOf N u t (I k) = some (u, I (k - (if so t = 5 then 1 else if so t = 3 then 2 else 0))) := by
  have hr := so_r t
  unfold hm_Te_partsOf hb_Te_partsOf_0 hb_Te_partsOf_28
  rw [e_tag, bnd_so, I_lit (n := 5), I_lit (n := 3), I_lit (n := 1), I_lit (n := 2), decE hr.1 hr.2 (by decide) (by decide), decE hr.1 hr.2 (by decide) (by decide), I_sub, I_sub]
  by_cases e5 : so t = 5
  · rw [decide_eq_true (show so t = OfNat.ofNat 5 from e5), br_tq, if_pos e5]
  · rw [decide_eq_false (show ¬ so t = OfNat.ofNat 5 from e5), br_fq, if_neg e5]
    by_cases e3 : so t = 3
    · rw [decide_eq_true (show so t = OfNat.ofNat 3 from e3), br_tq, if_pos e3]
    · rw [decide_eq_false (show ¬ so t = OfNat.ofNat 3 from e3), br_fq, if_neg e3]
      congr 3
      omega
theorem blk_same (hF : FVc Fv) (kx : BKc h n ow kd Fv x) (ky : BKc h n ow kd Fv y) (hx : isH x) (e : so x = so y) (e2 : so x = 5 ∨ so x = 3 → va (h (vn x)) = va (h (vn y))) : blk h x = blk h y := by
  unfold blk
  rw [← e]
  rcases hx with z | z | z
  · rw [if_neg (by omega), if_neg (by omega), if_pos z, if_neg (by omega), if_neg (by omega), if_pos z]
    have := hF.2 _ _ _ _ (kx.2.2.1 z).2 (ky.2.2.1 (by omega)).2 (e2 (Or.inr z))
    unfold vn at this ⊢
    rw [this]
  · rw [if_neg (by omega), if_pos z, if_neg (by omega), if_pos z]
    have := e2 (Or.inl z)
    unfold vn at this ⊢
    rw [this]
  · rw [if_pos z, if_pos z]
theorem order_loop {u0 : MS} (hb : b ≠ 45 ∧ b ≠ 46) (hh : u0.2.2.2 b = h) (hn : n ≤ 512) (g : HPc h n ow kd Fv P) (hP : ∀ t, P t → PT u0 t) (hF : FVc Fv) (hA : WDc u0 1) (hN : 200000 ≤ N) : ∀ M : Nat,
    (∀ (w : MS) (top cn : Nat), FR [] [] [] [45, 46] u0 w → top ≤ 2048 → (∀ j, j < top → GT n ow kd P (w.2.2.2 45 j) ∧ GT n ow kd P (w.2.2.2 46 j)) → cn ≤ 1000000000 → (1000000000 - cn) * 600 + 3 ≤ M → OK (fun w _ => FR [] [] [] [45, 46] u0 w) ((hg_Te_order N M).1 w b (I top) (I cn))) ∧
    (∀ (w : MS) (x y : Int64) (top cn : Nat) (i f0 : Int), FR [] [] [] [45, 46] u0 w → top ≤ 2048 → (∀ j, j < top → GT n ow kd P (w.2.2.2 45 j) ∧ GT n ow kd P (w.2.2.2 46 j)) → cn < 1000000000 → (isH x → GT n ow kd P x ∧ GT n ow kd P y ∧ isH y ∧ blk h y = blk h x ∧ (prt x : Int) = f0 ∧ prt y = prt x) → (¬ isH x → i < f0) → 0 ≤ f0 ∧ f0 ≤ 600 → -1 ≤ i → i < blk h x ∨ i < f0 → i ≤ 520 → (1000000000 - cn - 1) * 600 + 4 + (i + 2).toNat ≤ M → OK (fun w _ => FR [] [] [] [45, 46] u0 w) ((hg_Te_order N M).2 w b (I top) (I cn) (I (va x)) (I (va y)) (I f0) (I i))) := by
  intro M
  induction M with
  | zero => exact ⟨fun w top cn _ _ _ _ hM => by omega, fun w x y top cn i f0 _ _ _ _ _ _ _ _ _ _ hM => by omega⟩
  | succ M ih =>
    refine ⟨fun w top cn f ht hst hcn hM => ?_, fun w x y top cn i f0 f ht hst hcn hxy hnx hf0 hi0 hi1 hi2 hM => ?_⟩
    · show OK _ (hb_Te_order_21 N (hg_Te_order N M) w b (I top) (I cn))
      unfold hb_Te_order_21 hb_Te_order_179
      have hw : w.2.2.2 b = h := by rw [FRj f (by simp; omega)]; exact hh
      rw [I_lit (n := 1000000000), m1I, lit0q]
      refine k_le ⟨by decide, by decide⟩ ⟨by omega, by omega⟩ (fun _ => ok_some.mpr f) (fun y => ?_)
      have y : (cn : Int) < 1000000000 := y
      refine k_le ⟨by omega, by omega⟩ ⟨by decide, by decide⟩ (fun _ => ok_some.mpr f) (fun y2 => ?_)
      have e1 : I ((top : Int)) + I (-1) = I (((top - 1 : Nat) : Int)) := by rw [I_add]; congr 1; omega
      rw [e1]
      refine e_in ⟨by omega, by omega⟩ (by decide) (e_in ⟨by omega, by omega⟩ (by decide) ?_)
      rw [tnI (n := top - 1) rfl (by omega)]
      obtain ⟨gx, gy⟩ := hst (top - 1) (by omega)
      have hPw : ∀ t, P t → PT w t := fun t ht => by have := hP t ht; unfold PT at this ⊢; rw [FR.F f (by simp)]; exact this
      refine ok_bnd.mpr (ok_mono (orderAlone_ok (N := N) hw hn g hPw (WDc_fr hA f (by simp) (by simp)) gx gy hN) (fun w2 r hw2 => ?_))
      obtain ⟨e2, hr⟩ := hw2
      subst e2
      refine ok_br.mpr ⟨fun hz => ?_, fun _ => ok_some.mpr f⟩
      obtain ⟨q1, q2⟩ := hr (of_decide_eq_true hz)
      refine e_in ⟨by omega, by omega⟩ (by decide) (e_in ⟨by omega, by omega⟩ (by decide) (e_in ⟨by omega, by omega⟩ (by decide) ?_))
      obtain ⟨x, hxe⟩ : ∃ x, w2.2.2.2 45 (top - 1) = x := ⟨_, rfl⟩
      obtain ⟨yy, hye⟩ : ∃ x, w2.2.2.2 46 (top - 1) = x := ⟨_, rfl⟩
      rw [hxe] at gx q1 q2 ⊢
      rw [hye] at gy q1 q2 ⊢
      by_cases hx : isH x
      · have hy : isH yy := by unfold isH at hx ⊢; rw [← q1]; exact hx
        have bx := (HP_bkc g hx gx).1
        have bY := (HP_bkc g hy gy).1
        have hbs := blk_same hF bx bY hx q1 q2
        have hpp : prt yy = prt x := by unfold prt; rw [q1]
        rw [cellsAt_h hw hn hx bx, bnd_so]
        refine e_in ⟨by omega, by omega⟩ (by decide) ?_
        rw [hxe, partsOf_e, bnd_so, I_sub, valI, valI, lit1q, I_sub]
        have hp := prt_le (h := h) hx
        have hbl := bx.2.2.2.1
        have hpx : (prt x : Int) = (blk h x : Int) - ((blk h x : Int) - (if so x = 5 then 1 else if so x = 3 then 2 else 0)) := by
          unfold isH at hx
          unfold prt
          split <;> split <;> (try split) <;> (try split) <;> omega
        refine ih.2 w2 x yy (top - 1) cn _ _ f (by omega) (fun j hj => hst j (by omega)) (by omega) (fun _ => ⟨gx, gy, hy, hbs.symm, hpx, hpp⟩) (fun z => absurd hx z) (by omega) (by omega) (by omega) (by omega) (by omega)
      · rw [cellsAt_n hx, bnd_so]
        refine e_in ⟨by omega, by omega⟩ (by decide) ?_
        rw [hxe, lit0q, partsOf_e, bnd_so, I_sub, valI, valI, lit1q, I_sub]
        have hnp : (if so x = 5 then (1 : Int) else if so x = 3 then 2 else 0) = 0 := by
          unfold isH at hx
          rw [if_neg (by omega), if_neg (by omega)]
        rw [hnp]
        refine ih.2 w2 x yy (top - 1) cn _ _ f (by omega) (fun j hj => hst j (by omega)) (by omega) (fun z => absurd z hx) (fun _ => by omega) (by omega) (by omega) (by omega) (by omega) (by omega)
    · show OK _ (hb_Te_order_121 N (hg_Te_order N M) w b (I top) (I cn) (I (va x)) (I (va y)) (I f0) (I i))
      unfold hb_Te_order_121 hb_Te_order_173
      have hw : w.2.2.2 b = h := by rw [FRj f (by simp; omega)]; exact hh
      have back : OK (fun w _ => FR [] [] [] [45, 46] u0 w) ((hg_Te_order N M).1 w b (I top) (I cn + 1)) := by
        rw [lit1q, I_add, show ((cn : Nat) : Int) + 1 = ((cn + 1 : Nat) : Int) by omega]
        exact ih.1 w top (cn + 1) f ht hst (by omega) (by omega)
      refine k_lt ⟨by omega, by omega⟩ ⟨by omega, by omega⟩ (fun _ => back) (fun h1 => ?_)
      have hx : isH x := by
        by_cases e : isH x
        · exact e
        · have := hnx e; omega
      obtain ⟨gx, gy, hy, hbs, hpx, hpp⟩ := hxy hx
      rw [I_lit (n := 2048)]
      refine k_le ⟨by decide, by decide⟩ ⟨by omega, by omega⟩ (fun _ => back) (fun h2 => ?_)
      have h2 : (top : Int) < 2048 := h2
      obtain ⟨bx, px⟩ := HP_bkc g hx gx
      obtain ⟨bY, py⟩ := HP_bkc g hy gy
      have b1 := bx.2.2.2.1
      have b2 := bY.2.2.2.1
      obtain ⟨k, rfl⟩ : ∃ k : Nat, i = k := ⟨i.toNat, by omega⟩
      rw [vn_e bx.1, vn_e bY.1, I_add, I_add, show ((vn x : Nat) : Int) + ((k : Nat) : Int) = ((vn x + k : Nat) : Int) by omega, show ((vn y : Nat) : Int) + ((k : Nat) : Int) = ((vn y + k : Nat) : Int) by omega]
      refine e_in ⟨by omega, by omega⟩ (by decide) (e_in ⟨by omega, by omega⟩ (by decide) (ok_lt.mpr ?_))
      rw [tnI (n := top) rfl (by omega), tnI (n := vn x + k) rfl (by omega), wj_e, hw]
      refine e_in ⟨by omega, by omega⟩ (by decide) (e_in ⟨by omega, by omega⟩ (by decide) (ok_lt.mpr ?_))
      rw [tnI (n := vn y + k) rfl (by omega), wj_e, m1I, I_add, lit1q, I_add, show ((top : Nat) : Int) + 1 = ((top + 1 : Nat) : Int) by omega, ← vn_e bx.1, ← vn_e bY.1]
      have hw2 : (wj w 45 top (h (vn x + k))).2.2.2 b = h := by
        rw [show (wj w 45 top (h (vn x + k))).2.2.2 b = w.2.2.2 b from if_neg hb.1]; exact hw
      rw [hw2]
      refine ih.2 _ x y (top + 1) cn _ f0 (FR.wj (FR.wj f (by decide)) (by decide)) (by omega) (fun j hj => ?_) hcn hxy (fun z => absurd hx z) hf0 (by omega) (by omega) (by omega) (by omega)
      rw [wj_row, show (wj (wj w 45 top (h (vn x + k))) 46 top (h (vn y + k))).2.2.2 45 = (wj w 45 top (h (vn x + k))).2.2.2 45 from rfl, wj_row, show (wj w 45 top (h (vn x + k))).2.2.2 46 = w.2.2.2 46 from rfl]
      by_cases e : j = top
      · rw [if_pos e, if_pos e]
        exact ⟨px k (by omega) (by omega), py k (by omega) (by omega)⟩
      · rw [if_neg e, if_neg e]
        exact hst j (by omega)
theorem orderc_ok (hb : b ≠ 45 ∧ b ≠ 46) (hh : u.2.2.2 b = h) (hn : n ≤ 512) (g : HPc h n ow kd Fv P) (hP : ∀ t, P t → PT u t) (hF : FVc Fv) (hA : WDc u 1) (gx : GT n ow kd P x) (gy : GT n ow kd P y) (hN : 600000000010 ≤ N) : OK (fun w _ => FR [] [] [] [45, 46] u w) (hm_Te_order N u b x y) := by
  unfold hm_Te_order hb_Te_order_0
  refine e_in (x := 0) ⟨by decide, by decide⟩ (by decide) (ok_lt.mpr ?_)
  rw [show (0 : Int32).toNatClampNeg = 0 from rfl, wj_e]
  refine e_in (x := 0) ⟨by decide, by decide⟩ (by decide) (ok_lt.mpr ?_)
  rw [wj_e, lit0q, lit1q, show (0 : Int) = ((0 : Nat) : Int) from rfl, show (1 : Int) = ((1 : Nat) : Int) from rfl]
  refine (order_loop (N := N) (u0 := u) (b := b) (ow := ow) (kd := kd) (P := P) hb hh hn g hP hF hA (by omega) N).1 _ 1 0 (FR.wj (FR.wj FR.rf (by decide)) (by decide)) (by omega) (fun j hj => ?_) (by omega) (by omega)
  rw [wj_row, show (wj (wj u 45 0 x) 46 0 y).2.2.2 45 = (wj u 45 0 x).2.2.2 45 from rfl, wj_row, if_pos (by omega), if_pos (by omega)]
  exact ⟨gx, gy⟩
end
end
