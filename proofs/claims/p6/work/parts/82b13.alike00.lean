set_option maxRecDepth 100000
theorem yb_To_append_46 {N : Nat} {o : Option Nat} {c : Nat → Nat} {m : MS} {u : CS} {G : (CS → Nat → Int32 → Int32 → Option (CS × Unit))} {G' : (MS → Int32 → Int32 → Option (MS × Unit))} (hG : ∀ (c : Nat → Nat) (m : MS) (u : CS) (v1 : Int32) (v2 : Int32), RP o c m u → RF 0 o VE c u (G u 4 v1 v2) (G' m v1 v2)) (R : RP o c m u) : RF 0 o VE c u (fb_To_append_46 N G u) (hb_To_append_46 N G' m) := by
  unfold fb_To_append_46 hb_To_append_46
  exact rf_ret R rfl
theorem yb_To_append_3 {N : Nat} {o : Option Nat} {c : Nat → Nat} {m : MS} {u : CS} {G : (CS → Nat → Int32 → Int32 → Option (CS × Unit))} {G' : (MS → Int32 → Int32 → Option (MS × Unit))} (hG : ∀ (c : Nat → Nat) (m : MS) (u : CS) (v1 : Int32) (v2 : Int32), RP o c m u → RF 0 o VE c u (G u 4 v1 v2) (G' m v1 v2)) (R : RP o c m u) {v1 : Int32} {v2 : Int32} : RF 0 o VE c u (fb_To_append_3 N G u 4 v1 v2) (hb_To_append_3 N G' m v1 v2) := by
  unfold fb_To_append_3 hb_To_append_3
  refine rf_br ?_ ?_
  · exact (yb_To_append_46 hG R)
  · refine rf_bo (gx_4_1 R) ?_
    refine rf_br ?_ ?_
    · exact (yb_To_append_46 hG R)
    · refine rf_bo (rx_4_0 R) ?_
      refine rf_bo (gx_4_1 R) ?_
      refine rf_so ?_
      refine rf_wk (sx_5 R) (fun w5' w5 R_w5 => ?_)
      refine rf_bo (gx_4_1 R_w5) ?_
      refine rf_w (px_4_1 R_w5) (fun w7' w7 R_w7 => ?_)
      exact (hG _ _ _ _ _ R_w7)
theorem yb_To_append_0 {N : Nat} {o : Option Nat} {c : Nat → Nat} {m : MS} {u : CS} {G : (CS → Nat → Int32 → Int32 → Option (CS × Unit))} {G' : (MS → Int32 → Int32 → Option (MS × Unit))} (hG : ∀ (c : Nat → Nat) (m : MS) (u : CS) (v1 : Int32) (v2 : Int32), RP o c m u → RF 0 o VE c u (G u 4 v1 v2) (G' m v1 v2)) (R : RP o c m u) {v1 : Int32} : RF 0 o VE c u (fb_To_append_0 N G u 4 v1) (hb_To_append_0 N G' m v1) := by
  unfold fb_To_append_0 hb_To_append_0
  exact (hG _ _ _ _ _ R)
theorem yg_To_append {N : Nat} {o : Option Nat} : ∀ n, (∀ (c : Nat → Nat) (m : MS) (u : CS) (v1 : Int32) (v2 : Int32), RP o c m u → RF 0 o VE c u ((gg_To_append N n) u 4 v1 v2) ((hg_To_append N n) m v1 v2)) := by
  intro n
  induction n with
  | zero => exact fun c m u v1 v2 R => rf_none
  | succ n ih => exact fun c m u v1 v2 R => yb_To_append_3 (N := N) ih R
theorem ym_To_append {N : Nat} {o : Option Nat} {c : Nat → Nat} {m : MS} {u : CS} (R : RP o c m u) {v1 : Int32} : RF 0 o VE c u (fm_To_append N u 4 v1) (hm_To_append N m v1) := yb_To_append_0 (N := N) (yg_To_append (N := N) N) R
theorem yb_H_feed_0 {N : Nat} {c : Nat → Nat} {m : MS} {u : CS} (R : RP none c m u) {v1 : Int32} {v2 : Int32} {v3 : Int32} {v4 : Int32} {v5 : Int32} : RF 0 none VE c u (fb_H_feed_0 N () u 0 v1 v2 v3 v4 v5) (hb_H_feed_0 N () m v1 v2 v3 v4 v5) := by
  unfold fb_H_feed_0 hb_H_feed_0
  refine rf_bo (rx_0_1 R) ?_
  refine rf_so ?_
  refine rf_bo (gx_4_1 R) ?_
  refine rf_br ?_ ?_
  · refine rf_bo (rx_0_1 R) ?_
    refine rf_so ?_
    refine rf_ck (ox_4 R) ?_
    refine rf_bx0 (ym_To_append R) (fun u5' u5 r5 R_u5 => ?_)
    refine rf_bo (rx_0_1 R_u5) ?_
    refine rf_so ?_
    refine rf_ck (ox_4 R_u5) ?_
    refine rf_bx0 (ym_To_append R_u5) (fun u8' u8 r8 R_u8 => ?_)
    refine rf_bo (rx_0_1 R_u8) ?_
    refine rf_so ?_
    refine rf_ck (ox_4 R_u8) ?_
    refine rf_bx0 (ym_To_append R_u8) (fun u11' u11 r11 R_u11 => ?_)
    refine rf_bo (rx_0_1 R_u11) ?_
    refine rf_so ?_
    refine rf_ck (ox_4 R_u11) ?_
    refine rf_bx0 (ym_To_append R_u11) (fun u14' u14 r14 R_u14 => ?_)
    refine rf_bo (rx_0_1 R_u14) ?_
    refine rf_so ?_
    refine rf_ck (ox_4 R_u14) ?_
    refine rf_bx0 (ym_To_append R_u14) (fun u17' u17 r17 R_u17 => ?_)
    refine rf_bo (rx_0_1 R_u17) ?_
    refine rf_so ?_
    refine rf_bo (gx_4_1 R_u17) ?_
    exact rf_ret R_u17 rfl
  · exact rf_ret R rfl
theorem ym_H_feed {N : Nat} {c : Nat → Nat} {m : MS} {u : CS} (R : RP none c m u) {v1 : Int32} {v2 : Int32} {v3 : Int32} {v4 : Int32} {v5 : Int32} : RF 0 none VE c u (fm_H_feed N u 0 v1 v2 v3 v4 v5) (hm_H_feed N m v1 v2 v3 v4 v5) := yb_H_feed_0 (N := N) R
theorem yb_H_back_15 {N : Nat} {c : Nat → Nat} {m : MS} {u : CS} (R : RP none c m u) : RF 0 none VE c u (fb_H_back_15 N () u) (hb_H_back_15 N () m) := by
  unfold fb_H_back_15 hb_H_back_15
  exact rf_ret R rfl
theorem yb_H_back_0 {N : Nat} {c : Nat → Nat} {m : MS} {u : CS} (R : RP none c m u) {v1 : Int32} : RF 0 none VE c u (fb_H_back_0 N () u 0 v1) (hb_H_back_0 N () m v1) := by
  unfold fb_H_back_0 hb_H_back_0
  refine rf_br ?_ ?_
  · exact (yb_H_back_15 R)
  · refine rf_bo (rx_0_1 R) ?_
    refine rf_so ?_
    refine rf_bo (gx_4_1 R) ?_
    refine rf_br ?_ ?_
    · refine rf_bo (rx_0_1 R) ?_
      refine rf_so ?_
      refine rf_bo (gx_4_1 R) ?_
      refine rf_w (px_4_1 R) (fun w7' w7 R_w7 => ?_)
      refine rf_bo (rx_0_1 R_w7) ?_
      refine rf_so ?_
      refine rf_bo (gx_4_1 R_w7) ?_
      exact rf_ret R_w7 rfl
    · exact (yb_H_back_15 R)
theorem ym_H_back {N : Nat} {c : Nat → Nat} {m : MS} {u : CS} (R : RP none c m u) {v1 : Int32} : RF 0 none VE c u (fm_H_back N u 0 v1) (hm_H_back N m v1) := yb_H_back_0 (N := N) R
theorem yb_To_skip_84 {N : Nat} {o : Option Nat} {c : Nat → Nat} {m : MS} {u : CS} {G : (CS → Nat → Int32 → Option (CS × Unit))} {G' : (MS → Int32 → Option (MS × Unit))} (hG : ∀ (c : Nat → Nat) (m : MS) (u : CS) (v1 : Int32), RP o c m u → RF 0 o VE c u (G u 4 v1) (G' m v1)) (R : RP o c m u) {v1 : Int32} {t1 : Int32} {t2 : Int32} : RF 0 o VE c u (fb_To_skip_84 N G u 4 v1 4 t1 t2) (hb_To_skip_84 N G' m v1 t1 t2) := by
  unfold fb_To_skip_84 hb_To_skip_84
  refine rf_w (px_4_10 R) (fun w1' w1 R_w1 => ?_)
  refine rf_bo (gx_4_9 R_w1) ?_
  refine rf_w (px_4_9 R_w1) (fun w3' w3 R_w3 => ?_)
  exact (hG _ _ _ _ R_w3)
theorem yb_To_skip_68 {N : Nat} {o : Option Nat} {c : Nat → Nat} {m : MS} {u : CS} {G : (CS → Nat → Int32 → Option (CS × Unit))} {G' : (MS → Int32 → Option (MS × Unit))} (hG : ∀ (c : Nat → Nat) (m : MS) (u : CS) (v1 : Int32), RP o c m u → RF 0 o VE c u (G u 4 v1) (G' m v1)) (R : RP o c m u) {v1 : Int32} {v2 : Int32} : RF 0 o VE c u (fb_To_skip_68 N G u 4 v1 v2) (hb_To_skip_68 N G' m v1 v2) := by
  unfold fb_To_skip_68 hb_To_skip_68
  refine rf_bo (gx_4_10 R) ?_
  refine rf_br ?_ ?_
  · exact (yb_To_skip_84 hG R)
  · exact (yb_To_skip_84 hG R)
theorem yb_To_skip_44 {N : Nat} {o : Option Nat} {c : Nat → Nat} {m : MS} {u : CS} {G : (CS → Nat → Int32 → Option (CS × Unit))} {G' : (MS → Int32 → Option (MS × Unit))} (hG : ∀ (c : Nat → Nat) (m : MS) (u : CS) (v1 : Int32), RP o c m u → RF 0 o VE c u (G u 4 v1) (G' m v1)) (R : RP o c m u) {v2 : Int32} {t0 : Int32} : RF 0 o VE c u (fb_To_skip_44 N G u 4 v2 t0) (hb_To_skip_44 N G' m v2 t0) := by
  unfold fb_To_skip_44 hb_To_skip_44
  refine rf_br ?_ ?_
  · refine rf_br ?_ ?_
    · exact (yb_To_skip_68 hG R)
    · refine rf_br ?_ ?_
      · exact (yb_To_skip_68 hG R)
      · refine rf_br ?_ ?_
        · exact (yb_To_skip_68 hG R)
        · exact rf_ret R rfl
  · exact (yb_To_skip_68 hG R)
theorem yb_To_skip_43 {N : Nat} {o : Option Nat} {c : Nat → Nat} {m : MS} {u : CS} {G : (CS → Nat → Int32 → Option (CS × Unit))} {G' : (MS → Int32 → Option (MS × Unit))} (hG : ∀ (c : Nat → Nat) (m : MS) (u : CS) (v1 : Int32), RP o c m u → RF 0 o VE c u (G u 4 v1) (G' m v1)) (R : RP o c m u) {v2 : Int32} : RF 0 o VE c u (fb_To_skip_43 N G u 4 v2) (hb_To_skip_43 N G' m v2) := by
  unfold fb_To_skip_43 hb_To_skip_43
  exact (yb_To_skip_44 hG R)
theorem yb_To_skip_39 {N : Nat} {o : Option Nat} {c : Nat → Nat} {m : MS} {u : CS} {G : (CS → Nat → Int32 → Option (CS × Unit))} {G' : (MS → Int32 → Option (MS × Unit))} (hG : ∀ (c : Nat → Nat) (m : MS) (u : CS) (v1 : Int32), RP o c m u → RF 0 o VE c u (G u 4 v1) (G' m v1)) (R : RP o c m u) {v2 : Int32} : RF 0 o VE c u (fb_To_skip_39 N G u 4 v2) (hb_To_skip_39 N G' m v2) := by
  unfold fb_To_skip_39 hb_To_skip_39
  exact (yb_To_skip_44 hG R)
theorem yb_To_skip_2 {N : Nat} {o : Option Nat} {c : Nat → Nat} {m : MS} {u : CS} {G : (CS → Nat → Int32 → Option (CS × Unit))} {G' : (MS → Int32 → Option (MS × Unit))} (hG : ∀ (c : Nat → Nat) (m : MS) (u : CS) (v1 : Int32), RP o c m u → RF 0 o VE c u (G u 4 v1) (G' m v1)) (R : RP o c m u) {v1 : Int32} : RF 0 o VE c u (fb_To_skip_2 N G u 4 v1) (hb_To_skip_2 N G' m v1) := by
  unfold fb_To_skip_2 hb_To_skip_2
  refine rf_bo (gx_4_9 R) ?_
  refine rf_bo (gx_4_1 R) ?_
  refine rf_br ?_ ?_
  · exact rf_ret R rfl
  · refine rf_bo (rx_4_0 R) ?_
    refine rf_bo (gx_4_9 R) ?_
    refine rf_so ?_
    refine rf_ai (ax_5 R) ?_
    refine rf_br ?_ ?_
    · exact (yb_To_skip_43 hG R)
    · refine rf_br ?_ ?_
      · refine rf_br ?_ ?_
        · exact (yb_To_skip_39 hG R)
        · exact (yb_To_skip_43 hG R)
      · exact (yb_To_skip_39 hG R)
theorem yb_To_skip_0 {N : Nat} {o : Option Nat} {c : Nat → Nat} {m : MS} {u : CS} {G : (CS → Nat → Int32 → Option (CS × Unit))} {G' : (MS → Int32 → Option (MS × Unit))} (hG : ∀ (c : Nat → Nat) (m : MS) (u : CS) (v1 : Int32), RP o c m u → RF 0 o VE c u (G u 4 v1) (G' m v1)) (R : RP o c m u) : RF 0 o VE c u (fb_To_skip_0 N G u 4) (hb_To_skip_0 N G' m) := by
  unfold fb_To_skip_0 hb_To_skip_0
  exact (hG _ _ _ _ R)
theorem yg_To_skip {N : Nat} {o : Option Nat} : ∀ n, (∀ (c : Nat → Nat) (m : MS) (u : CS) (v1 : Int32), RP o c m u → RF 0 o VE c u ((gg_To_skip N n) u 4 v1) ((hg_To_skip N n) m v1)) := by
  intro n
  induction n with
  | zero => exact fun c m u v1 R => rf_none
  | succ n ih => exact fun c m u v1 R => yb_To_skip_2 (N := N) ih R
theorem ym_To_skip {N : Nat} {o : Option Nat} {c : Nat → Nat} {m : MS} {u : CS} (R : RP o c m u) : RF 0 o VE c u (fm_To_skip N u 4) (hm_To_skip N m) := yb_To_skip_0 (N := N) (yg_To_skip (N := N) N) R
theorem yb_To_signAt_26 {N : Nat} {o : Option Nat} {c : Nat → Nat} {m : MS} {u : CS} (R : RP o c m u) {t0 : Int32} : RF 0 o VE c u (fb_To_signAt_26 N () u t0) (hb_To_signAt_26 N () m t0) := by
  unfold fb_To_signAt_26 hb_To_signAt_26
  exact rf_ret R rfl
theorem yb_To_signAt_12 {N : Nat} {o : Option Nat} {c : Nat → Nat} {m : MS} {u : CS} (R : RP o c m u) : RF 0 o VE c u (fb_To_signAt_12 N () u) (hb_To_signAt_12 N () m) := by
  unfold fb_To_signAt_12 hb_To_signAt_12
  exact (yb_To_signAt_26 R)
theorem yb_To_signAt_0 {N : Nat} {o : Option Nat} {c : Nat → Nat} {m : MS} {u : CS} (R : RP o c m u) {v1 : Int32} : RF 0 o VE c u (fb_To_signAt_0 N () u 4 v1) (hb_To_signAt_0 N () m v1) := by
  unfold fb_To_signAt_0 hb_To_signAt_0
  refine rf_br ?_ ?_
  · exact (yb_To_signAt_12 R)
  · refine rf_bo (gx_4_1 R) ?_
    refine rf_br ?_ ?_
    · refine rf_bo (rx_4_0 R) ?_
      refine rf_so ?_
      refine rf_ai (ax_5 R) ?_
      exact (yb_To_signAt_26 R)
    · exact (yb_To_signAt_12 R)
theorem ym_To_signAt {N : Nat} {o : Option Nat} {c : Nat → Nat} {m : MS} {u : CS} (R : RP o c m u) {v1 : Int32} : RF 0 o VE c u (fm_To_signAt N u 4 v1) (hm_To_signAt N m v1) := yb_To_signAt_0 (N := N) R
theorem yb_To_isDigit_17 {N : Nat} {o : Option Nat} {c : Nat → Nat} {m : MS} {u : CS} (R : RP o c m u) {t0 : Int32} : RF 0 o VE c u (fb_To_isDigit_17 N () u t0) (hb_To_isDigit_17 N () m t0) := by
  unfold fb_To_isDigit_17 hb_To_isDigit_17
  refine rf_ckk ?_
  exact rf_ret R rfl
theorem yb_To_isDigit_16 {N : Nat} {o : Option Nat} {c : Nat → Nat} {m : MS} {u : CS} (R : RP o c m u) : RF 0 o VE c u (fb_To_isDigit_16 N () u) (hb_To_isDigit_16 N () m) := by
  unfold fb_To_isDigit_16 hb_To_isDigit_16
  exact (yb_To_isDigit_17 R)
theorem yb_To_isDigit_0 {N : Nat} {o : Option Nat} {c : Nat → Nat} {m : MS} {u : CS} (R : RP o c m u) {v0 : Int32} : RF 0 o VE c u (fb_To_isDigit_0 N () u v0) (hb_To_isDigit_0 N () m v0) := by
  unfold fb_To_isDigit_0 hb_To_isDigit_0
  refine rf_br ?_ ?_
  · exact (yb_To_isDigit_16 R)
  · refine rf_br ?_ ?_
    · exact (yb_To_isDigit_16 R)
    · exact (yb_To_isDigit_17 R)
theorem ym_To_isDigit {N : Nat} {o : Option Nat} {c : Nat → Nat} {m : MS} {u : CS} (R : RP o c m u) {v0 : Int32} : RF 0 o VE c u (fm_To_isDigit N u v0) (hm_To_isDigit N m v0) := yb_To_isDigit_0 (N := N) R
theorem yb_To_isWordly_42 {N : Nat} {o : Option Nat} {c : Nat → Nat} {m : MS} {u : CS} (R : RP o c m u) {t0 : Int32} : RF 0 o VE c u (fb_To_isWordly_42 N () u t0) (hb_To_isWordly_42 N () m t0) := by
  unfold fb_To_isWordly_42 hb_To_isWordly_42
  refine rf_ckk ?_
  exact rf_ret R rfl
theorem yb_To_isWordly_37 {N : Nat} {o : Option Nat} {c : Nat → Nat} {m : MS} {u : CS} (R : RP o c m u) : RF 0 o VE c u (fb_To_isWordly_37 N () u) (hb_To_isWordly_37 N () m) := by
  unfold fb_To_isWordly_37 hb_To_isWordly_37
  exact (yb_To_isWordly_42 R)
theorem yb_To_isWordly_31 {N : Nat} {o : Option Nat} {c : Nat → Nat} {m : MS} {u : CS} (R : RP o c m u) {v0 : Int32} : RF 0 o VE c u (fb_To_isWordly_31 N () u v0) (hb_To_isWordly_31 N () m v0) := by
  unfold fb_To_isWordly_31 hb_To_isWordly_31
  refine rf_br ?_ ?_
  · exact (yb_To_isWordly_37 R)
  · exact (yb_To_isWordly_42 R)
theorem yb_To_isWordly_19 {N : Nat} {o : Option Nat} {c : Nat → Nat} {m : MS} {u : CS} (R : RP o c m u) {v0 : Int32} : RF 0 o VE c u (fb_To_isWordly_19 N () u v0) (hb_To_isWordly_19 N () m v0) := by
  unfold fb_To_isWordly_19 hb_To_isWordly_19
  refine rf_br ?_ ?_
  · exact (yb_To_isWordly_31 R)
  · refine rf_br ?_ ?_
    · exact (yb_To_isWordly_37 R)
    · exact (yb_To_isWordly_31 R)
theorem yb_To_isWordly_0 {N : Nat} {o : Option Nat} {c : Nat → Nat} {m : MS} {u : CS} (R : RP o c m u) {v0 : Int32} : RF 0 o VE c u (fb_To_isWordly_0 N () u v0) (hb_To_isWordly_0 N () m v0) := by
  unfold fb_To_isWordly_0 hb_To_isWordly_0
  refine rf_bx0 (ym_To_isDigit R) (fun u1' u1 r1 R_u1 => ?_)
  refine rf_br ?_ ?_
  · refine rf_br ?_ ?_
    · exact (yb_To_isWordly_19 R_u1)
    · refine rf_br ?_ ?_
      · exact (yb_To_isWordly_37 R_u1)
      · exact (yb_To_isWordly_19 R_u1)
  · exact (yb_To_isWordly_37 R_u1)
theorem ym_To_isWordly {N : Nat} {o : Option Nat} {c : Nat → Nat} {m : MS} {u : CS} (R : RP o c m u) {v0 : Int32} : RF 0 o VE c u (fm_To_isWordly N u v0) (hm_To_isWordly N m v0) := yb_To_isWordly_0 (N := N) R
theorem yb_Wo_isSame_12 {N : Nat} {o : Option Nat} {c : Nat → Nat} {m : MS} {u : CS} {G : (CS → Nat → Int32 → Option Nat → Int32 → Int32 → Int32 → Option (CS × Int32))} {G' : (MS → Nat → Int32 → Nat → Int32 → Int32 → Int32 → Option (MS × Int32))} (hG : ∀ (c : Nat → Nat) (m : MS) (u : CS) (v0 : Nat) (v1 : Int32) (v2 : Nat) (v3 : Int32) (v4 : Int32) (v5 : Int32), RP o c m u → isWd v0 → isBy v2 → RF 0 o VE c u (G u v0 v1 (some v2) v3 v4 v5) (G' m v0 v1 v2 v3 v4 v5)) (R : RP o c m u) {v0 : Nat} {v1 : Int32} {v2 : Nat} {v3 : Int32} {v4 : Int32} {v5 : Int32} (h_v0 : isWd v0) (h_v2 : isBy v2) : RF 0 o VE c u (fb_Wo_isSame_12 N G u v0 v1 (some v2) v3 v4 v5) (hb_Wo_isSame_12 N G' m v0 v1 v2 v3 v4 v5) := by
  unfold fb_Wo_isSame_12 hb_Wo_isSame_12
  refine rf_bo (gr_W1 R h_v0) ?_
  refine rf_so ?_
  refine rf_ai (ai_W R h_v0) ?_
  refine rf_br ?_ ?_
  · refine rf_ckk ?_
    exact rf_ret R rfl
  · refine rf_bo (gr_W0 R h_v0) ?_
    refine rf_so ?_
    refine rf_ai (ai_B R (By_w h_v0)) ?_
    refine rf_so ?_
    refine rf_ai (ai_B R h_v2) ?_
    refine rf_br ?_ ?_
    · exact (hG _ _ _ _ _ _ _ _ _ R h_v0 h_v2)
    · refine rf_ckk ?_
      exact rf_ret R rfl
theorem yb_Wo_isSame_0 {N : Nat} {o : Option Nat} {c : Nat → Nat} {m : MS} {u : CS} {G : (CS → Nat → Int32 → Option Nat → Int32 → Int32 → Int32 → Option (CS × Int32))} {G' : (MS → Nat → Int32 → Nat → Int32 → Int32 → Int32 → Option (MS × Int32))} (hG : ∀ (c : Nat → Nat) (m : MS) (u : CS) (v0 : Nat) (v1 : Int32) (v2 : Nat) (v3 : Int32) (v4 : Int32) (v5 : Int32), RP o c m u → isWd v0 → isBy v2 → RF 0 o VE c u (G u v0 v1 (some v2) v3 v4 v5) (G' m v0 v1 v2 v3 v4 v5)) (R : RP o c m u) {v0 : Nat} {v1 : Int32} {v2 : Nat} {v3 : Int32} (h_v0 : isWd v0) (h_v2 : isBy v2) : RF 0 o VE c u (fb_Wo_isSame_0 N G u v0 v1 (some v2) v3) (hb_Wo_isSame_0 N G' m v0 v1 v2 v3) := by
  unfold fb_Wo_isSame_0 hb_Wo_isSame_0
  refine rf_bo (gr_W1 R h_v0) ?_
  refine rf_so ?_
  refine rf_ai (ai_W R h_v0) ?_
  exact (hG _ _ _ _ _ _ _ _ _ R h_v0 h_v2)
theorem yg_Wo_isSame {N : Nat} {o : Option Nat} : ∀ n, (∀ (c : Nat → Nat) (m : MS) (u : CS) (v0 : Nat) (v1 : Int32) (v2 : Nat) (v3 : Int32) (v4 : Int32) (v5 : Int32), RP o c m u → isWd v0 → isBy v2 → RF 0 o VE c u ((gg_Wo_isSame N n) u v0 v1 (some v2) v3 v4 v5) ((hg_Wo_isSame N n) m v0 v1 v2 v3 v4 v5)) := by
  intro n
  induction n with
  | zero => exact fun c m u v0 v1 v2 v3 v4 v5 R h_v0 h_v2 => rf_none
  | succ n ih => exact fun c m u v0 v1 v2 v3 v4 v5 R h_v0 h_v2 => yb_Wo_isSame_12 (N := N) ih R h_v0 h_v2
theorem ym_Wo_isSame {N : Nat} {o : Option Nat} {c : Nat → Nat} {m : MS} {u : CS} (R : RP o c m u) {v0 : Nat} {v1 : Int32} {v2 : Nat} {v3 : Int32} (h_v0 : isWd v0) (h_v2 : isBy v2) : RF 0 o VE c u (fm_Wo_isSame N u v0 v1 (some v2) v3) (hm_Wo_isSame N m v0 v1 v2 v3) := yb_Wo_isSame_0 (N := N) (yg_Wo_isSame (N := N) N) R h_v0 h_v2
theorem yb_Wo_seek_47 {N : Nat} {o : Option Nat} {c : Nat → Nat} {m : MS} {u : CS} {G : (CS → Nat → Option Nat → Int32 → Int32 → Int32 → Option (CS × Int32))} {G' : (MS → Nat → Nat → Int32 → Int32 → Int32 → Option (MS × Int32))} (hG : ∀ (c : Nat → Nat) (m : MS) (u : CS) (v0 : Nat) (v1 : Nat) (v2 : Int32) (v3 : Int32) (v4 : Int32), RP o c m u → isWd v0 → isBy v1 → RF 0 o VE c u (G u v0 (some v1) v2 v3 v4) (G' m v0 v1 v2 v3 v4)) (R : RP o c m u) {v0 : Nat} {v1 : Nat} {v2 : Int32} {v3 : Int32} {v4 : Int32} (h_v0 : isWd v0) (h_v1 : isBy v1) : RF 0 o VE c u (fb_Wo_seek_47 N G u v0 (some v1) v2 v3 v4) (hb_Wo_seek_47 N G' m v0 v1 v2 v3 v4) := by
  unfold fb_Wo_seek_47 hb_Wo_seek_47
  exact (hG _ _ _ _ _ _ _ _ R h_v0 h_v1)
theorem yb_Wo_seek_3 {N : Nat} {o : Option Nat} {c : Nat → Nat} {m : MS} {u : CS} {G : (CS → Nat → Option Nat → Int32 → Int32 → Int32 → Option (CS × Int32))} {G' : (MS → Nat → Nat → Int32 → Int32 → Int32 → Option (MS × Int32))} (hG : ∀ (c : Nat → Nat) (m : MS) (u : CS) (v0 : Nat) (v1 : Nat) (v2 : Int32) (v3 : Int32) (v4 : Int32), RP o c m u → isWd v0 → isBy v1 → RF 0 o VE c u (G u v0 (some v1) v2 v3 v4) (G' m v0 v1 v2 v3 v4)) (R : RP o c m u) {v0 : Nat} {v1 : Nat} {v2 : Int32} {v3 : Int32} {v4 : Int32} (h_v0 : isWd v0) (h_v1 : isBy v1) : RF 0 o VE c u (fb_Wo_seek_3 N G u v0 (some v1) v2 v3 v4) (hb_Wo_seek_3 N G' m v0 v1 v2 v3 v4) := by
  unfold fb_Wo_seek_3 hb_Wo_seek_3
  refine rf_bo (gi_W2 R h_v0) ?_
  refine rf_br ?_ ?_
  · exact rf_ret R rfl
  · refine rf_bo (gr_W1 R h_v0) ?_
    refine rf_so ?_
    refine rf_ai (ai_W R h_v0) ?_
    refine rf_bo (gr_W1 R h_v0) ?_
    refine rf_so ?_
    refine rf_ai (ai_W R h_v0) ?_
    refine rf_br ?_ ?_
    · refine rf_ck (io_W R h_v0) ?_
      refine rf_bx0 (ym_Wo_isSame R h_v0 h_v1) (fun u8' u8 r8 R_u8 => ?_)
      refine rf_br ?_ ?_
      · exact (yb_Wo_seek_47 hG R_u8 h_v0 h_v1)
      · exact rf_ret R_u8 rfl
    · exact (yb_Wo_seek_47 hG R h_v0 h_v1)
theorem yb_Wo_seek_0 {N : Nat} {o : Option Nat} {c : Nat → Nat} {m : MS} {u : CS} {G : (CS → Nat → Option Nat → Int32 → Int32 → Int32 → Option (CS × Int32))} {G' : (MS → Nat → Nat → Int32 → Int32 → Int32 → Option (MS × Int32))} (hG : ∀ (c : Nat → Nat) (m : MS) (u : CS) (v0 : Nat) (v1 : Nat) (v2 : Int32) (v3 : Int32) (v4 : Int32), RP o c m u → isWd v0 → isBy v1 → RF 0 o VE c u (G u v0 (some v1) v2 v3 v4) (G' m v0 v1 v2 v3 v4)) (R : RP o c m u) {v0 : Nat} {v1 : Nat} {v2 : Int32} {v3 : Int32} (h_v0 : isWd v0) (h_v1 : isBy v1) : RF 0 o VE c u (fb_Wo_seek_0 N G u v0 (some v1) v2 v3) (hb_Wo_seek_0 N G' m v0 v1 v2 v3) := by
  unfold fb_Wo_seek_0 hb_Wo_seek_0
  exact (hG _ _ _ _ _ _ _ _ R h_v0 h_v1)
theorem yg_Wo_seek {N : Nat} {o : Option Nat} : ∀ n, (∀ (c : Nat → Nat) (m : MS) (u : CS) (v0 : Nat) (v1 : Nat) (v2 : Int32) (v3 : Int32) (v4 : Int32), RP o c m u → isWd v0 → isBy v1 → RF 0 o VE c u ((gg_Wo_seek N n) u v0 (some v1) v2 v3 v4) ((hg_Wo_seek N n) m v0 v1 v2 v3 v4)) := by
  intro n
  induction n with
  | zero => exact fun c m u v0 v1 v2 v3 v4 R h_v0 h_v1 => rf_none
  | succ n ih => exact fun c m u v0 v1 v2 v3 v4 R h_v0 h_v1 => yb_Wo_seek_3 (N := N) ih R h_v0 h_v1
theorem ym_Wo_seek {N : Nat} {o : Option Nat} {c : Nat → Nat} {m : MS} {u : CS} (R : RP o c m u) {v0 : Nat} {v1 : Nat} {v2 : Int32} {v3 : Int32} (h_v0 : isWd v0) (h_v1 : isBy v1) : RF 0 o VE c u (fm_Wo_seek N u v0 (some v1) v2 v3) (hm_Wo_seek N m v0 v1 v2 v3) := yb_Wo_seek_0 (N := N) (yg_Wo_seek (N := N) N) R h_v0 h_v1
theorem yb_To_string_70 {N : Nat} {o : Option Nat} {c : Nat → Nat} {m : MS} {u : CS} {G : (CS → Nat → Int32 → Option (CS × Int32))} {G' : (MS → Int32 → Option (MS × Int32))} (hG : ∀ (c : Nat → Nat) (m : MS) (u : CS) (v1 : Int32), RP o c m u → RF 0 o VE c u (G u 4 v1) (G' m v1)) (R : RP o c m u) : RF 0 o VE c u (fb_To_string_70 N G u) (hb_To_string_70 N G' m) := by
  unfold fb_To_string_70 hb_To_string_70
  exact rf_ret R rfl
theorem yb_To_string_25 {N : Nat} {o : Option Nat} {c : Nat → Nat} {m : MS} {u : CS} {G : (CS → Nat → Int32 → Option (CS × Int32))} {G' : (MS → Int32 → Option (MS × Int32))} (hG : ∀ (c : Nat → Nat) (m : MS) (u : CS) (v1 : Int32), RP o c m u → RF 0 o VE c u (G u 4 v1) (G' m v1)) (R : RP o c m u) {v1 : Int32} : RF 0 o VE c u (fb_To_string_25 N G u 4 v1) (hb_To_string_25 N G' m v1) := by
  unfold fb_To_string_25 hb_To_string_25
  refine rf_br ?_ ?_
  · exact rf_ret R rfl
  · refine rf_bo (gx_4_9 R) ?_
    refine rf_ck (ox_4 R) ?_
    refine rf_bx0 (ym_To_signAt R) (fun u2' u2 r2 R_u2 => ?_)
    refine rf_bo (gx_4_9 R_u2) ?_
    refine rf_w (px_4_9 R_u2) (fun w4' w4 R_w4 => ?_)
    refine rf_br ?_ ?_
    · exact rf_ret R_w4 rfl
    · refine rf_br ?_ ?_
      · exact (yb_To_string_70 hG R_w4)
      · refine rf_br ?_ ?_
        · exact (hG _ _ _ _ R_w4)
        · exact (yb_To_string_70 hG R_w4)
theorem yb_To_string_0 {N : Nat} {o : Option Nat} {c : Nat → Nat} {m : MS} {u : CS} {G : (CS → Nat → Int32 → Option (CS × Int32))} {G' : (MS → Int32 → Option (MS × Int32))} (hG : ∀ (c : Nat → Nat) (m : MS) (u : CS) (v1 : Int32), RP o c m u → RF 0 o VE c u (G u 4 v1) (G' m v1)) (R : RP o c m u) : RF 0 o VE c u (fb_To_string_0 N G u 4) (hb_To_string_0 N G' m) := by
  unfold fb_To_string_0 hb_To_string_0
  refine rf_bo (gx_4_9 R) ?_
  refine rf_w (px_4_9 R) (fun w6' w6 R_w6 => ?_)
  refine rf_bo (rx_4_3 R_w6) ?_
  refine rf_bo (gx_4_5 R_w6) ?_
  refine rf_bo (gx_4_9 R_w6) ?_
  refine rf_so ?_
  refine rf_wk (sx_7 R_w6) (fun w11' w11 R_w11 => ?_)
  exact (hG _ _ _ _ R_w11)
theorem yg_To_string {N : Nat} {o : Option Nat} : ∀ n, (∀ (c : Nat → Nat) (m : MS) (u : CS) (v1 : Int32), RP o c m u → RF 0 o VE c u ((gg_To_string N n) u 4 v1) ((hg_To_string N n) m v1)) := by
  intro n
  induction n with
  | zero => exact fun c m u v1 R => rf_none
  | succ n ih => exact fun c m u v1 R => yb_To_string_25 (N := N) ih R
theorem ym_To_string {N : Nat} {o : Option Nat} {c : Nat → Nat} {m : MS} {u : CS} (R : RP o c m u) : RF 0 o VE c u (fm_To_string N u 4) (hm_To_string N m) := yb_To_string_0 (N := N) (yg_To_string (N := N) N) R
theorem yb_Tr_clear_0 {N : Nat} {o : Option Nat} {c : Nat → Nat} {m : MS} {u : CS} (R : RP o c m u) : RF 0 o VE c u (fb_Tr_clear_0 N () u 15) (hb_Tr_clear_0 N () m) := by
  unfold fb_Tr_clear_0 hb_Tr_clear_0
  refine rf_w (px_15_6 R) (fun w1' w1 R_w1 => ?_)
  exact rf_ret R_w1 rfl
theorem ym_Tr_clear {N : Nat} {o : Option Nat} {c : Nat → Nat} {m : MS} {u : CS} (R : RP o c m u) : RF 0 o VE c u (fm_Tr_clear N u 15) (hm_Tr_clear N m) := yb_Tr_clear_0 (N := N) R
theorem yb_Co_clear_0 {N : Nat} {o : Option Nat} {c : Nat → Nat} {m : MS} {u : CS} (R : RP o c m u) : RF 0 o VE c u (fb_Co_clear_0 N () u 22) (hb_Co_clear_0 N () m) := by
  unfold fb_Co_clear_0 hb_Co_clear_0
  refine rf_w (px_22_1 R) (fun w1' w1 R_w1 => ?_)
  refine rf_w (px_22_2 R_w1) (fun w2' w2 R_w2 => ?_)
  refine rf_w (px_22_9 R_w2) (fun w3' w3 R_w3 => ?_)
  exact rf_ret R_w3 rfl
theorem ym_Co_clear {N : Nat} {o : Option Nat} {c : Nat → Nat} {m : MS} {u : CS} (R : RP o c m u) : RF 0 o VE c u (fm_Co_clear N u 22) (hm_Co_clear N m) := yb_Co_clear_0 (N := N) R
theorem yb_Pa_beginsPattern_0 {N : Nat} {o : Option Nat} {c : Nat → Nat} {m : MS} {u : CS} (R : RP o c m u) {v0 : Int32} : RF 0 o VE c u (fb_Pa_beginsPattern_0 N () u v0) (hb_Pa_beginsPattern_0 N () m v0) := by
  unfold fb_Pa_beginsPattern_0 hb_Pa_beginsPattern_0
  refine rf_br ?_ ?_
  · refine rf_ckk ?_
    exact rf_ret R rfl
  · refine rf_br ?_ ?_
    · refine rf_ckk ?_
      exact rf_ret R rfl
    · refine rf_br ?_ ?_
      · refine rf_ckk ?_
        exact rf_ret R rfl
      · refine rf_br ?_ ?_
        · refine rf_ckk ?_
          exact rf_ret R rfl
        · refine rf_br ?_ ?_
          · refine rf_ckk ?_
            exact rf_ret R rfl
          · refine rf_br ?_ ?_
            · refine rf_ckk ?_
              exact rf_ret R rfl
            · refine rf_br ?_ ?_
              · refine rf_ckk ?_
                exact rf_ret R rfl
              · refine rf_br ?_ ?_
                · refine rf_ckk ?_
                  exact rf_ret R rfl
                · refine rf_ckk ?_
                  exact rf_ret R rfl
theorem ym_Pa_beginsPattern {N : Nat} {o : Option Nat} {c : Nat → Nat} {m : MS} {u : CS} (R : RP o c m u) {v0 : Int32} : RF 0 o VE c u (fm_Pa_beginsPattern N u v0) (hm_Pa_beginsPattern N m v0) := yb_Pa_beginsPattern_0 (N := N) R
theorem yb_Tr_add_0 {N : Nat} {o : Option Nat} {c : Nat → Nat} {m : MS} {u : CS} (R : RP o c m u) {v1 : Int32} {v2 : Int32} {v3 : Int32} {v4 : Int32} {v5 : Int32} : RF 0 o VE c u (fb_Tr_add_0 N () u 15 v1 v2 v3 v4 v5) (hb_Tr_add_0 N () m v1 v2 v3 v4 v5) := by
  unfold fb_Tr_add_0 hb_Tr_add_0
  refine rf_bo (gx_15_6 R) ?_
  refine rf_br ?_ ?_
  · refine rf_bo (gx_15_6 R) ?_
    refine rf_w (px_15_6 R) (fun w3' w3 R_w3 => ?_)
    refine rf_bo (rx_15_0 R_w3) ?_
    refine rf_bo (gx_15_6 R_w3) ?_
    refine rf_so ?_
    refine rf_wk (sx_16 R_w3) (fun w7' w7 R_w7 => ?_)
    refine rf_bo (rx_15_1 R_w7) ?_
    refine rf_bo (gx_15_6 R_w7) ?_
    refine rf_so ?_
    refine rf_wk (sx_17 R_w7) (fun w11' w11 R_w11 => ?_)
    refine rf_bo (rx_15_2 R_w11) ?_
    refine rf_bo (gx_15_6 R_w11) ?_
    refine rf_so ?_
    refine rf_wk (sx_18 R_w11) (fun w15' w15 R_w15 => ?_)
    refine rf_bo (rx_15_3 R_w15) ?_
    refine rf_bo (gx_15_6 R_w15) ?_
    refine rf_so ?_
    refine rf_wk (sx_19 R_w15) (fun w19' w19 R_w19 => ?_)
    refine rf_bo (rx_15_4 R_w19) ?_
    refine rf_bo (gx_15_6 R_w19) ?_
    refine rf_so ?_
    refine rf_wk (sx_20 R_w19) (fun w23' w23 R_w23 => ?_)
    refine rf_bo (rx_15_5 R_w23) ?_
    refine rf_bo (gx_15_6 R_w23) ?_
    refine rf_so ?_
    refine rf_wk (sx_21 R_w23) (fun w27' w27 R_w27 => ?_)
    refine rf_bo (gx_15_6 R_w27) ?_
    exact rf_ret R_w27 rfl
  · exact rf_ret R rfl
theorem ym_Tr_add {N : Nat} {o : Option Nat} {c : Nat → Nat} {m : MS} {u : CS} (R : RP o c m u) {v1 : Int32} {v2 : Int32} {v3 : Int32} {v4 : Int32} {v5 : Int32} : RF 0 o VE c u (fm_Tr_add N u 15 v1 v2 v3 v4 v5) (hm_Tr_add N m v1 v2 v3 v4 v5) := yb_Tr_add_0 (N := N) R
theorem yb_Tr_length_4 {N : Nat} {o : Option Nat} {c : Nat → Nat} {m : MS} {u : CS} {G : (CS → Nat → Int32 → Int32 → Option (CS × Int32))} {G' : (MS → Int32 → Int32 → Option (MS × Int32))} (hG : ∀ (c : Nat → Nat) (m : MS) (u : CS) (v2 : Int32) (v3 : Int32), RP o c m u → RF 0 o VE c u (G u 15 v2 v3) (G' m v2 v3)) (R : RP o c m u) {v2 : Int32} {v3 : Int32} : RF 0 o VE c u (fb_Tr_length_4 N G u 15 v2 v3) (hb_Tr_length_4 N G' m v2 v3) := by
  unfold fb_Tr_length_4 hb_Tr_length_4
  refine rf_br ?_ ?_
  · exact rf_ret R rfl
  · refine rf_bo (rx_15_5 R) ?_
    refine rf_so ?_
    refine rf_ai (ax_21 R) ?_
    exact (hG _ _ _ _ _ R)
theorem yb_Tr_length_0 {N : Nat} {o : Option Nat} {c : Nat → Nat} {m : MS} {u : CS} {G : (CS → Nat → Int32 → Int32 → Option (CS × Int32))} {G' : (MS → Int32 → Int32 → Option (MS × Int32))} (hG : ∀ (c : Nat → Nat) (m : MS) (u : CS) (v2 : Int32) (v3 : Int32), RP o c m u → RF 0 o VE c u (G u 15 v2 v3) (G' m v2 v3)) (R : RP o c m u) {v1 : Int32} : RF 0 o VE c u (fb_Tr_length_0 N G u 15 v1) (hb_Tr_length_0 N G' m v1) := by
  unfold fb_Tr_length_0 hb_Tr_length_0
  exact (hG _ _ _ _ _ R)
theorem yg_Tr_length {N : Nat} {o : Option Nat} : ∀ n, (∀ (c : Nat → Nat) (m : MS) (u : CS) (v2 : Int32) (v3 : Int32), RP o c m u → RF 0 o VE c u ((gg_Tr_length N n) u 15 v2 v3) ((hg_Tr_length N n) m v2 v3)) := by
  intro n
  induction n with
  | zero => exact fun c m u v2 v3 R => rf_none
  | succ n ih => exact fun c m u v2 v3 R => yb_Tr_length_4 (N := N) ih R
theorem ym_Tr_length {N : Nat} {o : Option Nat} {c : Nat → Nat} {m : MS} {u : CS} (R : RP o c m u) {v1 : Int32} : RF 0 o VE c u (fm_Tr_length N u 15 v1) (hm_Tr_length N m v1) := yb_Tr_length_0 (N := N) (yg_Tr_length (N := N) N) R
theorem yb_Pa_beginsUnit_0 {N : Nat} {o : Option Nat} {c : Nat → Nat} {m : MS} {u : CS} (R : RP o c m u) {v0 : Int32} : RF 0 o VE c u (fb_Pa_beginsUnit_0 N () u v0) (hb_Pa_beginsUnit_0 N () m v0) := by
  unfold fb_Pa_beginsUnit_0 hb_Pa_beginsUnit_0
  refine rf_br ?_ ?_
  · refine rf_ckk ?_
    exact rf_ret R rfl
  · refine rf_br ?_ ?_
    · refine rf_ckk ?_
      exact rf_ret R rfl
    · refine rf_br ?_ ?_
      · refine rf_ckk ?_
        exact rf_ret R rfl
      · refine rf_br ?_ ?_
        · refine rf_ckk ?_
          exact rf_ret R rfl
        · refine rf_br ?_ ?_
          · refine rf_ckk ?_
            exact rf_ret R rfl
          · refine rf_br ?_ ?_
            · refine rf_ckk ?_
              exact rf_ret R rfl
            · refine rf_br ?_ ?_
              · refine rf_ckk ?_
                exact rf_ret R rfl
              · refine rf_br ?_ ?_
                · refine rf_ckk ?_
                  exact rf_ret R rfl
                · refine rf_br ?_ ?_
                  · refine rf_ckk ?_
                    exact rf_ret R rfl
                  · refine rf_br ?_ ?_
                    · refine rf_ckk ?_
                      exact rf_ret R rfl
                    · refine rf_br ?_ ?_
                      · refine rf_ckk ?_
                        exact rf_ret R rfl
                      · refine rf_br ?_ ?_
                        · refine rf_ckk ?_
                          exact rf_ret R rfl
                        · refine rf_br ?_ ?_
                          · refine rf_ckk ?_
                            exact rf_ret R rfl
                          · refine rf_br ?_ ?_
                            · refine rf_ckk ?_
                              exact rf_ret R rfl
                            · refine rf_br ?_ ?_
                              · refine rf_ckk ?_
                                exact rf_ret R rfl
                              · refine rf_br ?_ ?_
                                · refine rf_ckk ?_
                                  exact rf_ret R rfl
                                · refine rf_br ?_ ?_
                                  · refine rf_ckk ?_
                                    exact rf_ret R rfl
                                  · refine rf_br ?_ ?_
                                    · refine rf_ckk ?_
                                      exact rf_ret R rfl
                                    · refine rf_br ?_ ?_
                                      · refine rf_ckk ?_
                                        exact rf_ret R rfl
                                      · refine rf_br ?_ ?_
                                        · refine rf_ckk ?_
                                          exact rf_ret R rfl
                                        · refine rf_br ?_ ?_
                                          · refine rf_ckk ?_
                                            exact rf_ret R rfl
                                          · refine rf_br ?_ ?_
                                            · refine rf_ckk ?_
                                              exact rf_ret R rfl
                                            · refine rf_br ?_ ?_
                                              · refine rf_ckk ?_
                                                exact rf_ret R rfl
                                              · refine rf_br ?_ ?_
                                                · refine rf_ckk ?_
                                                  exact rf_ret R rfl
                                                · refine rf_br ?_ ?_
                                                  · refine rf_ckk ?_
                                                    exact rf_ret R rfl
                                                  · refine rf_br ?_ ?_
                                                    · refine rf_ckk ?_
                                                      exact rf_ret R rfl
                                                    · refine rf_br ?_ ?_
                                                      · refine rf_ckk ?_
                                                        exact rf_ret R rfl
                                                      · refine rf_br ?_ ?_
                                                        · refine rf_ckk ?_
                                                          exact rf_ret R rfl
                                                        · refine rf_br ?_ ?_
                                                          · refine rf_ckk ?_
                                                            exact rf_ret R rfl
                                                          · refine rf_br ?_ ?_
                                                            · refine rf_ckk ?_
                                                              exact rf_ret R rfl
                                                            · refine rf_br ?_ ?_
                                                              · refine rf_ckk ?_
                                                                exact rf_ret R rfl
                                                              · refine rf_br ?_ ?_
                                                                · refine rf_ckk ?_
                                                                  exact rf_ret R rfl
                                                                · refine rf_br ?_ ?_
                                                                  · refine rf_ckk ?_
                                                                    exact rf_ret R rfl
                                                                  · refine rf_br ?_ ?_
                                                                    · refine rf_ckk ?_
                                                                      exact rf_ret R rfl
                                                                    · refine rf_ckk ?_
                                                                      exact rf_ret R rfl
theorem ym_Pa_beginsUnit {N : Nat} {o : Option Nat} {c : Nat → Nat} {m : MS} {u : CS} (R : RP o c m u) {v0 : Int32} : RF 0 o VE c u (fm_Pa_beginsUnit N u v0) (hm_Pa_beginsUnit N m v0) := yb_Pa_beginsUnit_0 (N := N) R
theorem yb_Pa_leaf_0 {N : Nat} {o : Option Nat} {c : Nat → Nat} {m : MS} {u : CS} (R : RP o c m u) : RF 0 o VE c u (fb_Pa_leaf_0 N () u 33) (hb_Pa_leaf_0 N () m) := by
  unfold fb_Pa_leaf_0 hb_Pa_leaf_0
  refine rf_bo (rx_33_1 R) ?_
  refine rf_bo (rx_33_0 R) ?_
  refine rf_so ?_
  refine rf_bo (rx_4_2 R) ?_
  refine rf_bo (gx_33_5 R) ?_
  refine rf_so ?_
  refine rf_ai (ax_6 R) ?_
  refine rf_bo (gx_33_5 R) ?_
  refine rf_bo (rx_33_0 R) ?_
  refine rf_so ?_
  refine rf_bo (rx_4_3 R) ?_
  refine rf_bo (gx_33_5 R) ?_
  refine rf_so ?_
  refine rf_ai (ax_7 R) ?_
  refine rf_so ?_
  refine rf_ck (ox_15 R) ?_
  refine rf_bx0 (ym_Tr_add R) (fun u15' u15 r15 R_u15 => ?_)
  refine rf_bo (gx_33_5 R_u15) ?_
  refine rf_w (px_33_5 R_u15) (fun w18' w18 R_w18 => ?_)
  exact rf_ret R_w18 rfl
theorem ym_Pa_leaf {N : Nat} {o : Option Nat} {c : Nat → Nat} {m : MS} {u : CS} (R : RP o c m u) : RF 0 o VE c u (fm_Pa_leaf N u 33) (hm_Pa_leaf N m) := yb_Pa_leaf_0 (N := N) R
theorem yb_Pa_chain_0 {N : Nat} {o : Option Nat} {c : Nat → Nat} {m : MS} {u : CS} (R : RP o c m u) {v1 : Int32} {v2 : Int32} : RF 0 o VE c u (fb_Pa_chain_0 N () u 33 v1 v2) (hb_Pa_chain_0 N () m v1 v2) := by
  unfold fb_Pa_chain_0 hb_Pa_chain_0
  refine rf_bo (rx_33_1 R) ?_
  refine rf_so ?_
  refine rf_bo (rx_15_5 R) ?_
  refine rf_so ?_
  refine rf_wk (sx_21 R) (fun w5' w5 R_w5 => ?_)
  exact rf_ret R_w5 rfl
theorem ym_Pa_chain {N : Nat} {o : Option Nat} {c : Nat → Nat} {m : MS} {u : CS} (R : RP o c m u) {v1 : Int32} {v2 : Int32} : RF 0 o VE c u (fm_Pa_chain N u 33 v1 v2) (hm_Pa_chain N m v1 v2) := yb_Pa_chain_0 (N := N) R
theorem yb_Co_addPlace_0 {N : Nat} {o : Option Nat} {c : Nat → Nat} {m : MS} {u : CS} (R : RP o c m u) : RF 0 o VE c u (fb_Co_addPlace_0 N () u 22) (hb_Co_addPlace_0 N () m) := by
  unfold fb_Co_addPlace_0 hb_Co_addPlace_0
  refine rf_bo (gx_22_9 R) ?_
  refine rf_br ?_ ?_
  · refine rf_bo (gx_22_9 R) ?_
    refine rf_w (px_22_9 R) (fun w3' w3 R_w3 => ?_)
    refine rf_bo (gx_22_9 R_w3) ?_
    exact rf_ret R_w3 rfl
  · exact rf_ret R rfl
theorem ym_Co_addPlace {N : Nat} {o : Option Nat} {c : Nat → Nat} {m : MS} {u : CS} (R : RP o c m u) : RF 0 o VE c u (fm_Co_addPlace N u 22) (hm_Co_addPlace N m) := yb_Co_addPlace_0 (N := N) R
theorem yb_Pa_rank_0 {N : Nat} {o : Option Nat} {c : Nat → Nat} {m : MS} {u : CS} (R : RP o c m u) {v0 : Int32} : RF 0 o VE c u (fb_Pa_rank_0 N () u v0) (hb_Pa_rank_0 N () m v0) := by
  unfold fb_Pa_rank_0 hb_Pa_rank_0
  refine rf_br ?_ ?_
  · exact rf_ret R rfl
  · refine rf_br ?_ ?_
    · exact rf_ret R rfl
    · refine rf_br ?_ ?_
      · exact rf_ret R rfl
      · refine rf_br ?_ ?_
        · exact rf_ret R rfl
        · refine rf_br ?_ ?_
          · exact rf_ret R rfl
          · refine rf_br ?_ ?_
            · exact rf_ret R rfl
            · refine rf_br ?_ ?_
              · exact rf_ret R rfl
              · refine rf_br ?_ ?_
                · exact rf_ret R rfl
                · refine rf_br ?_ ?_
                  · exact rf_ret R rfl
                  · refine rf_br ?_ ?_
                    · exact rf_ret R rfl
                    · refine rf_br ?_ ?_
                      · exact rf_ret R rfl
                      · refine rf_br ?_ ?_
                        · exact rf_ret R rfl
                        · refine rf_br ?_ ?_
                          · exact rf_ret R rfl
                          · refine rf_br ?_ ?_
                            · exact rf_ret R rfl
                            · refine rf_br ?_ ?_
                              · exact rf_ret R rfl
                              · refine rf_br ?_ ?_
                                · exact rf_ret R rfl
                                · refine rf_br ?_ ?_
                                  · exact rf_ret R rfl
                                  · refine rf_br ?_ ?_
                                    · exact rf_ret R rfl
                                    · refine rf_br ?_ ?_
                                      · exact rf_ret R rfl
                                      · refine rf_br ?_ ?_
                                        · exact rf_ret R rfl
                                        · refine rf_br ?_ ?_
                                          · exact rf_ret R rfl
                                          · refine rf_br ?_ ?_
                                            · exact rf_ret R rfl
                                            · refine rf_br ?_ ?_
                                              · exact rf_ret R rfl
                                              · refine rf_br ?_ ?_
                                                · exact rf_ret R rfl
                                                · refine rf_br ?_ ?_
                                                  · exact rf_ret R rfl
                                                  · refine rf_br ?_ ?_
                                                    · exact rf_ret R rfl
                                                    · refine rf_br ?_ ?_
                                                      · exact rf_ret R rfl
                                                      · refine rf_br ?_ ?_
                                                        · exact rf_ret R rfl
                                                        · refine rf_br ?_ ?_
                                                          · exact rf_ret R rfl
                                                          · refine rf_br ?_ ?_
                                                            · exact rf_ret R rfl
                                                            · refine rf_br ?_ ?_
                                                              · exact rf_ret R rfl
                                                              · refine rf_br ?_ ?_
                                                                · exact rf_ret R rfl
                                                                · refine rf_br ?_ ?_
                                                                  · exact rf_ret R rfl
                                                                  · refine rf_br ?_ ?_
                                                                    · exact rf_ret R rfl
                                                                    · refine rf_br ?_ ?_
                                                                      · exact rf_ret R rfl
                                                                      · refine rf_br ?_ ?_
                                                                        · exact rf_ret R rfl
                                                                        · refine rf_br ?_ ?_
                                                                          · exact rf_ret R rfl
                                                                          · refine rf_br ?_ ?_
                                                                            · exact rf_ret R rfl
                                                                            · refine rf_br ?_ ?_
                                                                              · exact rf_ret R rfl
                                                                              · exact rf_ret R rfl
theorem ym_Pa_rank {N : Nat} {o : Option Nat} {c : Nat → Nat} {m : MS} {u : CS} (R : RP o c m u) {v0 : Int32} : RF 0 o VE c u (fm_Pa_rank N u v0) (hm_Pa_rank N m v0) := yb_Pa_rank_0 (N := N) R
theorem yb_Co_addFunction_0 {N : Nat} {o : Option Nat} {c : Nat → Nat} {m : MS} {u : CS} (R : RP o c m u) {v1 : Int32} {v2 : Int32} {v3 : Int32} {v4 : Int32} {v5 : Int32} : RF 0 o VE c u (fb_Co_addFunction_0 N () u 22 v1 v2 v3 v4 v5) (hb_Co_addFunction_0 N () m v1 v2 v3 v4 v5) := by
  unfold fb_Co_addFunction_0 hb_Co_addFunction_0
  refine rf_bo (gx_22_2 R) ?_
  refine rf_br ?_ ?_
  · refine rf_bo (rx_22_3 R) ?_
    refine rf_bo (gx_22_2 R) ?_
    refine rf_so ?_
    refine rf_wk (sx_24 R) (fun w5' w5 R_w5 => ?_)
    refine rf_bo (rx_22_4 R_w5) ?_
    refine rf_bo (gx_22_2 R_w5) ?_
    refine rf_so ?_
    refine rf_wk (sx_25 R_w5) (fun w9' w9 R_w9 => ?_)
    refine rf_bo (rx_22_5 R_w9) ?_
    refine rf_bo (gx_22_2 R_w9) ?_
    refine rf_so ?_
    refine rf_wk (sx_26 R_w9) (fun w13' w13 R_w13 => ?_)
    refine rf_bo (rx_22_6 R_w13) ?_
    refine rf_bo (gx_22_2 R_w13) ?_
    refine rf_so ?_
    refine rf_wk (sx_27 R_w13) (fun w17' w17 R_w17 => ?_)
    refine rf_bo (rx_22_7 R_w17) ?_
    refine rf_bo (gx_22_2 R_w17) ?_
    refine rf_so ?_
    refine rf_wk (sx_28 R_w17) (fun w21' w21 R_w21 => ?_)
    refine rf_bo (gx_22_2 R_w21) ?_
    refine rf_w (px_22_2 R_w21) (fun w23' w23 R_w23 => ?_)
    exact rf_ret R_w23 rfl
  · exact rf_ret R rfl
theorem ym_Co_addFunction {N : Nat} {o : Option Nat} {c : Nat → Nat} {m : MS} {u : CS} (R : RP o c m u) {v1 : Int32} {v2 : Int32} {v3 : Int32} {v4 : Int32} {v5 : Int32} : RF 0 o VE c u (fm_Co_addFunction N u 22 v1 v2 v3 v4 v5) (hm_Co_addFunction N m v1 v2 v3 v4 v5) := yb_Co_addFunction_0 (N := N) R
theorem yb_Co_seek_32 {N : Nat} {o : Option Nat} {c : Nat → Nat} {m : MS} {u : CS} {G : (CS → Nat → Int32 → Int32 → Int32 → Option (CS × Int32))} {G' : (MS → Int32 → Int32 → Int32 → Option (MS × Int32))} (hG : ∀ (c : Nat → Nat) (m : MS) (u : CS) (v1 : Int32) (v2 : Int32) (v3 : Int32), RP o c m u → RF 0 o VE c u (G u 22 v1 v2 v3) (G' m v1 v2 v3)) (R : RP o c m u) {v1 : Int32} {v2 : Int32} {v3 : Int32} : RF 0 o VE c u (fb_Co_seek_32 N G u 22 v1 v2 v3) (hb_Co_seek_32 N G' m v1 v2 v3) := by
  unfold fb_Co_seek_32 hb_Co_seek_32
  exact (hG _ _ _ _ _ _ R)
theorem yb_Co_seek_2 {N : Nat} {o : Option Nat} {c : Nat → Nat} {m : MS} {u : CS} {G : (CS → Nat → Int32 → Int32 → Int32 → Option (CS × Int32))} {G' : (MS → Int32 → Int32 → Int32 → Option (MS × Int32))} (hG : ∀ (c : Nat → Nat) (m : MS) (u : CS) (v1 : Int32) (v2 : Int32) (v3 : Int32), RP o c m u → RF 0 o VE c u (G u 22 v1 v2 v3) (G' m v1 v2 v3)) (R : RP o c m u) {v1 : Int32} {v2 : Int32} {v3 : Int32} : RF 0 o VE c u (fb_Co_seek_2 N G u 22 v1 v2 v3) (hb_Co_seek_2 N G' m v1 v2 v3) := by
  unfold fb_Co_seek_2 hb_Co_seek_2
  refine rf_bo (gx_22_2 R) ?_
  refine rf_br ?_ ?_
  · exact rf_ret R rfl
  · refine rf_bo (rx_22_3 R) ?_
    refine rf_so ?_
    refine rf_ai (ax_24 R) ?_
    refine rf_br ?_ ?_
    · refine rf_bo (rx_22_4 R) ?_
      refine rf_so ?_
      refine rf_ai (ax_25 R) ?_
      refine rf_br ?_ ?_
      · exact rf_ret R rfl
      · exact (yb_Co_seek_32 hG R)
    · exact (yb_Co_seek_32 hG R)
theorem yb_Co_seek_0 {N : Nat} {o : Option Nat} {c : Nat → Nat} {m : MS} {u : CS} {G : (CS → Nat → Int32 → Int32 → Int32 → Option (CS × Int32))} {G' : (MS → Int32 → Int32 → Int32 → Option (MS × Int32))} (hG : ∀ (c : Nat → Nat) (m : MS) (u : CS) (v1 : Int32) (v2 : Int32) (v3 : Int32), RP o c m u → RF 0 o VE c u (G u 22 v1 v2 v3) (G' m v1 v2 v3)) (R : RP o c m u) {v1 : Int32} {v2 : Int32} : RF 0 o VE c u (fb_Co_seek_0 N G u 22 v1 v2) (hb_Co_seek_0 N G' m v1 v2) := by
  unfold fb_Co_seek_0 hb_Co_seek_0
  exact (hG _ _ _ _ _ _ R)
theorem yg_Co_seek {N : Nat} {o : Option Nat} : ∀ n, (∀ (c : Nat → Nat) (m : MS) (u : CS) (v1 : Int32) (v2 : Int32) (v3 : Int32), RP o c m u → RF 0 o VE c u ((gg_Co_seek N n) u 22 v1 v2 v3) ((hg_Co_seek N n) m v1 v2 v3)) := by
  intro n
  induction n with
  | zero => exact fun c m u v1 v2 v3 R => rf_none
  | succ n ih => exact fun c m u v1 v2 v3 R => yb_Co_seek_2 (N := N) ih R
theorem ym_Co_seek {N : Nat} {o : Option Nat} {c : Nat → Nat} {m : MS} {u : CS} (R : RP o c m u) {v1 : Int32} {v2 : Int32} : RF 0 o VE c u (fm_Co_seek N u 22 v1 v2) (hm_Co_seek N m v1 v2) := yb_Co_seek_0 (N := N) (yg_Co_seek (N := N) N) R
theorem yb_Wo_seekIn_45 {N : Nat} {o : Option Nat} {c : Nat → Nat} {m : MS} {u : CS} (R : RP o c m u) {t0 : Int32} : RF 0 o VE c u (fb_Wo_seekIn_45 N () u t0) (hb_Wo_seekIn_45 N () m t0) := by
  unfold fb_Wo_seekIn_45 hb_Wo_seekIn_45
  exact rf_ret R rfl
theorem yb_Wo_seekIn_12 {N : Nat} {o : Option Nat} {c : Nat → Nat} {m : MS} {u : CS} (R : RP o c m u) : RF 0 o VE c u (fb_Wo_seekIn_12 N () u) (hb_Wo_seekIn_12 N () m) := by
  unfold fb_Wo_seekIn_12 hb_Wo_seekIn_12
  exact (yb_Wo_seekIn_45 R)
theorem yb_Wo_seekIn_0 {N : Nat} {o : Option Nat} {c : Nat → Nat} {m : MS} {u : CS} (R : RP o c m u) {v0 : Nat} {v1 : Nat} {v2 : Int32} (h_v0 : isWd v0) (h_v1 : isWd v1) : RF 0 o VE c u (fb_Wo_seekIn_0 N () u v0 (some v1) v2) (hb_Wo_seekIn_0 N () m v0 v1 v2) := by
  unfold fb_Wo_seekIn_0 hb_Wo_seekIn_0
  refine rf_br ?_ ?_
  · exact (yb_Wo_seekIn_12 R)
  · refine rf_bo (gi_W2 R h_v0) ?_
    refine rf_br ?_ ?_
    · refine rf_bo (gr_W0 R h_v0) ?_
      refine rf_bo (gr_W1 R h_v0) ?_
      refine rf_so ?_
      refine rf_ai (ai_W R h_v0) ?_
      refine rf_bo (gr_W1 R h_v0) ?_
      refine rf_so ?_
      refine rf_ai (ai_W R h_v0) ?_
      refine rf_bo (gr_W1 R h_v0) ?_
      refine rf_so ?_
      refine rf_ai (ai_W R h_v0) ?_
      refine rf_so ?_
      refine rf_ck (io_W R h_v1) ?_
      refine rf_bx0 (ym_Wo_seek R h_v1 (By_w h_v0)) (fun u12' u12 r12 R_u12 => ?_)
      exact (yb_Wo_seekIn_45 R_u12)
    · exact (yb_Wo_seekIn_12 R)
theorem ym_Wo_seekIn {N : Nat} {o : Option Nat} {c : Nat → Nat} {m : MS} {u : CS} (R : RP o c m u) {v0 : Nat} {v1 : Nat} {v2 : Int32} (h_v0 : isWd v0) (h_v1 : isWd v1) : RF 0 o VE c u (fm_Wo_seekIn N u v0 (some v1) v2) (hm_Wo_seekIn N m v0 v1 v2) := yb_Wo_seekIn_0 (N := N) R h_v0 h_v1
theorem yb_Co_put_30 {N : Nat} {o : Option Nat} {c : Nat → Nat} {m : MS} {u : CS} (R : RP o c m u) : RF 0 o VE c u (fb_Co_put_30 N () u) (hb_Co_put_30 N () m) := by
  unfold fb_Co_put_30 hb_Co_put_30
  exact rf_ret R rfl
theorem yb_Co_put_0 {N : Nat} {o : Option Nat} {c : Nat → Nat} {m : MS} {u : CS} (R : RP o c m u) {v1 : Int32} : RF 0 o VE c u (fb_Co_put_0 N () u 22 v1) (hb_Co_put_0 N () m v1) := by
  unfold fb_Co_put_0 hb_Co_put_0
  refine rf_bo (gx_22_1 R) ?_
  refine rf_br ?_ ?_
  · exact (yb_Co_put_30 R)
  · refine rf_bo (rx_22_0 R) ?_
    refine rf_bo (gx_22_1 R) ?_
    refine rf_so ?_
    refine rf_wk (sx_23 R) (fun w5' w5 R_w5 => ?_)
    refine rf_bo (gx_22_1 R_w5) ?_
    refine rf_w (px_22_1 R_w5) (fun w7' w7 R_w7 => ?_)
    exact (yb_Co_put_30 R_w7)
theorem ym_Co_put {N : Nat} {o : Option Nat} {c : Nat → Nat} {m : MS} {u : CS} (R : RP o c m u) {v1 : Int32} : RF 0 o VE c u (fm_Co_put N u 22 v1) (hm_Co_put N m v1) := yb_Co_put_0 (N := N) R
theorem yb_Co_hook_0 {N : Nat} {o : Option Nat} {c : Nat → Nat} {m : MS} {u : CS} (R : RP o c m u) {v1 : Int32} : RF 0 o VE c u (fb_Co_hook_0 N () u 22 v1) (hb_Co_hook_0 N () m v1) := by
  unfold fb_Co_hook_0 hb_Co_hook_0
  refine rf_ck (ox_22 R) ?_
  refine rf_bx0 (ym_Co_put R) (fun u1' u1 r1 R_u1 => ?_)
  refine rf_bo (gx_22_1 R_u1) ?_
  exact rf_ret R_u1 rfl
theorem ym_Co_hook {N : Nat} {o : Option Nat} {c : Nat → Nat} {m : MS} {u : CS} (R : RP o c m u) {v1 : Int32} : RF 0 o VE c u (fm_Co_hook N u 22 v1) (hm_Co_hook N m v1) := yb_Co_hook_0 (N := N) R
theorem yb_Cm_term_0 {N : Nat} {o : Option Nat} {c : Nat → Nat} {m : MS} {u : CS} (R : RP o c m u) {v1 : Int32} {v2 : Int32} : RF 0 o VE c u (fb_Cm_term_0 N () u 35 v1 v2) (hb_Cm_term_0 N () m v1 v2) := by
  unfold fb_Cm_term_0 hb_Cm_term_0
  refine rf_bo (rx_35_2 R) ?_
  refine rf_so ?_
  refine rf_ck (ox_22 R) ?_
  refine rf_bx0 (ym_Co_put R) (fun u2' u2 r2 R_u2 => ?_)
  refine rf_bo (rx_35_2 R_u2) ?_
  refine rf_so ?_
  refine rf_ck (ox_22 R_u2) ?_
  refine rf_bx0 (ym_Co_put R_u2) (fun u5' u5 r5 R_u5 => ?_)
  exact rf_ret R_u5 rfl
theorem ym_Cm_term {N : Nat} {o : Option Nat} {c : Nat → Nat} {m : MS} {u : CS} (R : RP o c m u) {v1 : Int32} {v2 : Int32} : RF 0 o VE c u (fm_Cm_term N u 35 v1 v2) (hm_Cm_term N m v1 v2) := yb_Cm_term_0 (N := N) R
theorem yb_Cm_string_50 {N : Nat} {o : Option Nat} {c : Nat → Nat} {m : MS} {u : CS} {G : (CS → Nat → Int32 → Int32 → Option (CS × Unit)) × (CS → Nat → Int32 → Int32 → Int32 → Option (CS × Unit))} {G' : (MS → Int32 → Int32 → Option (MS × Unit)) × (MS → Int32 → Int32 → Int32 → Option (MS × Unit))} (hG1 : ∀ (c : Nat → Nat) (m : MS) (u : CS) (v2 : Int32) (v3 : Int32), RP o c m u → RF 0 o VE c u (G.1 u 35 v2 v3) (G'.1 m v2 v3)) (hG2 : ∀ (c : Nat → Nat) (m : MS) (u : CS) (v2 : Int32) (v3 : Int32) (v4 : Int32), RP o c m u → RF 0 o VE c u (G.2 u 35 v2 v3 v4) (G'.2 m v2 v3 v4)) (R : RP o c m u) {v2 : Int32} {v3 : Int32} {v4 : Int32} : RF 0 o VE c u (fb_Cm_string_50 N G u 35 v2 v3 v4) (hb_Cm_string_50 N G' m v2 v3 v4) := by
  unfold fb_Cm_string_50 hb_Cm_string_50
  refine rf_br ?_ ?_
  · exact rf_ret R rfl
  · refine rf_bo (rx_35_2 R) ?_
    refine rf_bo (rx_35_0 R) ?_
    refine rf_so ?_
    refine rf_ck (ox_4 R) ?_
    refine rf_bx0 (ym_To_signAt R) (fun u3' u3 r3 R_u3 => ?_)
    refine rf_so ?_
    refine rf_ck (ox_22 R_u3) ?_
    refine rf_bx0 (ym_Co_put R_u3) (fun u5' u5 r5 R_u5 => ?_)
    exact (hG2 _ _ _ _ _ _ R_u5)
theorem yb_Cm_string_39 {N : Nat} {o : Option Nat} {c : Nat → Nat} {m : MS} {u : CS} {G : (CS → Nat → Int32 → Int32 → Option (CS × Unit)) × (CS → Nat → Int32 → Int32 → Int32 → Option (CS × Unit))} {G' : (MS → Int32 → Int32 → Option (MS × Unit)) × (MS → Int32 → Int32 → Int32 → Option (MS × Unit))} (hG1 : ∀ (c : Nat → Nat) (m : MS) (u : CS) (v2 : Int32) (v3 : Int32), RP o c m u → RF 0 o VE c u (G.1 u 35 v2 v3) (G'.1 m v2 v3)) (hG2 : ∀ (c : Nat → Nat) (m : MS) (u : CS) (v2 : Int32) (v3 : Int32) (v4 : Int32), RP o c m u → RF 0 o VE c u (G.2 u 35 v2 v3 v4) (G'.2 m v2 v3 v4)) (R : RP o c m u) {v2 : Int32} {v3 : Int32} : RF 0 o VE c u (fb_Cm_string_39 N G u 35 v2 v3) (hb_Cm_string_39 N G' m v2 v3) := by
  unfold fb_Cm_string_39 hb_Cm_string_39
  refine rf_bo (rx_35_2 R) ?_
  refine rf_so ?_
  refine rf_ck (ox_22 R) ?_
  refine rf_bx0 (ym_Co_put R) (fun u8' u8 r8 R_u8 => ?_)
  exact (hG2 _ _ _ _ _ _ R_u8)
theorem yb_Cm_string_12 {N : Nat} {o : Option Nat} {c : Nat → Nat} {m : MS} {u : CS} {G : (CS → Nat → Int32 → Int32 → Option (CS × Unit)) × (CS → Nat → Int32 → Int32 → Int32 → Option (CS × Unit))} {G' : (MS → Int32 → Int32 → Option (MS × Unit)) × (MS → Int32 → Int32 → Int32 → Option (MS × Unit))} (hG1 : ∀ (c : Nat → Nat) (m : MS) (u : CS) (v2 : Int32) (v3 : Int32), RP o c m u → RF 0 o VE c u (G.1 u 35 v2 v3) (G'.1 m v2 v3)) (hG2 : ∀ (c : Nat → Nat) (m : MS) (u : CS) (v2 : Int32) (v3 : Int32) (v4 : Int32), RP o c m u → RF 0 o VE c u (G.2 u 35 v2 v3 v4) (G'.2 m v2 v3 v4)) (R : RP o c m u) {v2 : Int32} {v3 : Int32} : RF 0 o VE c u (fb_Cm_string_12 N G u 35 v2 v3) (hb_Cm_string_12 N G' m v2 v3) := by
  unfold fb_Cm_string_12 hb_Cm_string_12
  refine rf_br ?_ ?_
  · exact (yb_Cm_string_39 hG1 hG2 R)
  · refine rf_bo (rx_35_0 R) ?_
    refine rf_so ?_
    refine rf_ck (ox_4 R) ?_
    refine rf_bx0 (ym_To_signAt R) (fun u11' u11 r11 R_u11 => ?_)
    refine rf_br ?_ ?_
    · exact (yb_Cm_string_39 hG1 hG2 R_u11)
    · exact (hG1 _ _ _ _ _ R_u11)
theorem yb_Cm_string_0 {N : Nat} {o : Option Nat} {c : Nat → Nat} {m : MS} {u : CS} {G : (CS → Nat → Int32 → Int32 → Option (CS × Unit)) × (CS → Nat → Int32 → Int32 → Int32 → Option (CS × Unit))} {G' : (MS → Int32 → Int32 → Option (MS × Unit)) × (MS → Int32 → Int32 → Int32 → Option (MS × Unit))} (hG1 : ∀ (c : Nat → Nat) (m : MS) (u : CS) (v2 : Int32) (v3 : Int32), RP o c m u → RF 0 o VE c u (G.1 u 35 v2 v3) (G'.1 m v2 v3)) (hG2 : ∀ (c : Nat → Nat) (m : MS) (u : CS) (v2 : Int32) (v3 : Int32) (v4 : Int32), RP o c m u → RF 0 o VE c u (G.2 u 35 v2 v3 v4) (G'.2 m v2 v3 v4)) (R : RP o c m u) {v1 : Int32} : RF 0 o VE c u (fb_Cm_string_0 N G u 35 v1) (hb_Cm_string_0 N G' m v1) := by
  unfold fb_Cm_string_0 hb_Cm_string_0
  refine rf_bo (rx_35_1 R) ?_
  refine rf_so ?_
  refine rf_bo (rx_15_2 R) ?_
  refine rf_so ?_
  refine rf_ai (ax_18 R) ?_
  exact (hG1 _ _ _ _ _ R)
theorem yg_Cm_string {N : Nat} {o : Option Nat} : ∀ n, (∀ (c : Nat → Nat) (m : MS) (u : CS) (v2 : Int32) (v3 : Int32), RP o c m u → RF 0 o VE c u ((gg_Cm_string N n).1 u 35 v2 v3) ((hg_Cm_string N n).1 m v2 v3)) ∧ (∀ (c : Nat → Nat) (m : MS) (u : CS) (v2 : Int32) (v3 : Int32) (v4 : Int32), RP o c m u → RF 0 o VE c u ((gg_Cm_string N n).2 u 35 v2 v3 v4) ((hg_Cm_string N n).2 m v2 v3 v4)) := by
  intro n
  induction n with
  | zero => exact ⟨fun c m u v2 v3 R => rf_none, fun c m u v2 v3 v4 R => rf_none⟩
  | succ n ih => exact ⟨fun c m u v2 v3 R => yb_Cm_string_12 (N := N) ih.1 ih.2 R, fun c m u v2 v3 v4 R => yb_Cm_string_50 (N := N) ih.1 ih.2 R⟩
theorem ym_Cm_string {N : Nat} {o : Option Nat} {c : Nat → Nat} {m : MS} {u : CS} (R : RP o c m u) {v1 : Int32} : RF 0 o VE c u (fm_Cm_string N u 35 v1) (hm_Cm_string N m v1) := yb_Cm_string_0 (N := N) (yg_Cm_string (N := N) N).1 (yg_Cm_string (N := N) N).2 R
theorem yb_Cm_isBound_54 {N : Nat} {o : Option Nat} {c : Nat → Nat} {m : MS} {u : CS} {G : (CS → Nat → Int32 → Int32 → Int32 → Int32 → Option (CS × Int32)) × (CS → Nat → Int32 → Int32 → Int32 → Option (CS × Int32))} {G' : (MS → Int32 → Int32 → Int32 → Int32 → Option (MS × Int32)) × (MS → Int32 → Int32 → Int32 → Option (MS × Int32))} (hG1 : ∀ (c : Nat → Nat) (m : MS) (u : CS) (v1 : Int32) (v2 : Int32) (v3 : Int32) (v4 : Int32), RP o c m u → RF 0 o VE c u (G.1 u 35 v1 v2 v3 v4) (G'.1 m v1 v2 v3 v4)) (hG2 : ∀ (c : Nat → Nat) (m : MS) (u : CS) (v2 : Int32) (v4 : Int32) (v5 : Int32), RP o c m u → RF 0 o VE c u (G.2 u 35 v2 v4 v5) (G'.2 m v2 v4 v5)) (R : RP o c m u) {v2 : Int32} {v5 : Int32} : RF 0 o VE c u (fb_Cm_isBound_54 N G u 35 v2 v5) (hb_Cm_isBound_54 N G' m v2 v5) := by
  unfold fb_Cm_isBound_54 hb_Cm_isBound_54
  refine rf_bo (rx_35_10 R) ?_
  refine rf_so ?_
  refine rf_wk (sx_42 R) (fun w3' w3 R_w3 => ?_)
  refine rf_ckk ?_
  exact rf_ret R_w3 rfl
theorem yb_Cm_isBound_31 {N : Nat} {o : Option Nat} {c : Nat → Nat} {m : MS} {u : CS} {G : (CS → Nat → Int32 → Int32 → Int32 → Int32 → Option (CS × Int32)) × (CS → Nat → Int32 → Int32 → Int32 → Option (CS × Int32))} {G' : (MS → Int32 → Int32 → Int32 → Int32 → Option (MS × Int32)) × (MS → Int32 → Int32 → Int32 → Option (MS × Int32))} (hG1 : ∀ (c : Nat → Nat) (m : MS) (u : CS) (v1 : Int32) (v2 : Int32) (v3 : Int32) (v4 : Int32), RP o c m u → RF 0 o VE c u (G.1 u 35 v1 v2 v3 v4) (G'.1 m v1 v2 v3 v4)) (hG2 : ∀ (c : Nat → Nat) (m : MS) (u : CS) (v2 : Int32) (v4 : Int32) (v5 : Int32), RP o c m u → RF 0 o VE c u (G.2 u 35 v2 v4 v5) (G'.2 m v2 v4 v5)) (R : RP o c m u) {v2 : Int32} {v4 : Int32} {v5 : Int32} : RF 0 o VE c u (fb_Cm_isBound_31 N G u 35 v2 v4 v5) (hb_Cm_isBound_31 N G' m v2 v4 v5) := by
  unfold fb_Cm_isBound_31 hb_Cm_isBound_31
  refine rf_br ?_ ?_
  · exact (yb_Cm_isBound_54 hG1 hG2 R)
  · refine rf_bo (rx_35_7 R) ?_
    refine rf_so ?_
    refine rf_ai (ax_40 R) ?_
    refine rf_br ?_ ?_
    · exact (yb_Cm_isBound_54 hG1 hG2 R)
    · exact (hG2 _ _ _ _ _ _ R)
theorem yb_Cm_isBound_8 {N : Nat} {o : Option Nat} {c : Nat → Nat} {m : MS} {u : CS} {G : (CS → Nat → Int32 → Int32 → Int32 → Int32 → Option (CS × Int32)) × (CS → Nat → Int32 → Int32 → Int32 → Option (CS × Int32))} {G' : (MS → Int32 → Int32 → Int32 → Int32 → Option (MS × Int32)) × (MS → Int32 → Int32 → Int32 → Option (MS × Int32))} (hG1 : ∀ (c : Nat → Nat) (m : MS) (u : CS) (v1 : Int32) (v2 : Int32) (v3 : Int32) (v4 : Int32), RP o c m u → RF 0 o VE c u (G.1 u 35 v1 v2 v3 v4) (G'.1 m v1 v2 v3 v4)) (hG2 : ∀ (c : Nat → Nat) (m : MS) (u : CS) (v2 : Int32) (v4 : Int32) (v5 : Int32), RP o c m u → RF 0 o VE c u (G.2 u 35 v2 v4 v5) (G'.2 m v2 v4 v5)) (R : RP o c m u) {v1 : Int32} {v2 : Int32} {v3 : Int32} {v4 : Int32} : RF 0 o VE c u (fb_Cm_isBound_8 N G u 35 v1 v2 v3 v4) (hb_Cm_isBound_8 N G' m v1 v2 v3 v4) := by
  unfold fb_Cm_isBound_8 hb_Cm_isBound_8
  refine rf_br ?_ ?_
  · refine rf_ckk ?_
    exact rf_ret R rfl
  · refine rf_bo (rx_35_5 R) ?_
    refine rf_so ?_
    refine rf_ai (ax_39 R) ?_
    refine rf_br ?_ ?_
    · refine rf_bo (gx_35_9 R) ?_
      exact (hG2 _ _ _ _ _ _ R)
    · exact (hG1 _ _ _ _ _ _ _ R)
theorem yb_Cm_isBound_0 {N : Nat} {o : Option Nat} {c : Nat → Nat} {m : MS} {u : CS} {G : (CS → Nat → Int32 → Int32 → Int32 → Int32 → Option (CS × Int32)) × (CS → Nat → Int32 → Int32 → Int32 → Option (CS × Int32))} {G' : (MS → Int32 → Int32 → Int32 → Int32 → Option (MS × Int32)) × (MS → Int32 → Int32 → Int32 → Option (MS × Int32))} (hG1 : ∀ (c : Nat → Nat) (m : MS) (u : CS) (v1 : Int32) (v2 : Int32) (v3 : Int32) (v4 : Int32), RP o c m u → RF 0 o VE c u (G.1 u 35 v1 v2 v3 v4) (G'.1 m v1 v2 v3 v4)) (hG2 : ∀ (c : Nat → Nat) (m : MS) (u : CS) (v2 : Int32) (v4 : Int32) (v5 : Int32), RP o c m u → RF 0 o VE c u (G.2 u 35 v2 v4 v5) (G'.2 m v2 v4 v5)) (R : RP o c m u) {v1 : Int32} {v2 : Int32} {v3 : Int32} : RF 0 o VE c u (fb_Cm_isBound_0 N G u 35 v1 v2 v3) (hb_Cm_isBound_0 N G' m v1 v2 v3) := by
  unfold fb_Cm_isBound_0 hb_Cm_isBound_0
  refine rf_bo (gx_35_6 R) ?_
  exact (hG1 _ _ _ _ _ _ _ R)
theorem yg_Cm_isBound {N : Nat} {o : Option Nat} : ∀ n, (∀ (c : Nat → Nat) (m : MS) (u : CS) (v1 : Int32) (v2 : Int32) (v3 : Int32) (v4 : Int32), RP o c m u → RF 0 o VE c u ((gg_Cm_isBound N n).1 u 35 v1 v2 v3 v4) ((hg_Cm_isBound N n).1 m v1 v2 v3 v4)) ∧ (∀ (c : Nat → Nat) (m : MS) (u : CS) (v2 : Int32) (v4 : Int32) (v5 : Int32), RP o c m u → RF 0 o VE c u ((gg_Cm_isBound N n).2 u 35 v2 v4 v5) ((hg_Cm_isBound N n).2 m v2 v4 v5)) := by
  intro n
  induction n with
  | zero => exact ⟨fun c m u v1 v2 v3 v4 R => rf_none, fun c m u v2 v4 v5 R => rf_none⟩
  | succ n ih => exact ⟨fun c m u v1 v2 v3 v4 R => yb_Cm_isBound_8 (N := N) ih.1 ih.2 R, fun c m u v2 v4 v5 R => yb_Cm_isBound_31 (N := N) ih.1 ih.2 R⟩
theorem ym_Cm_isBound {N : Nat} {o : Option Nat} {c : Nat → Nat} {m : MS} {u : CS} (R : RP o c m u) {v1 : Int32} {v2 : Int32} {v3 : Int32} : RF 0 o VE c u (fm_Cm_isBound N u 35 v1 v2 v3) (hm_Cm_isBound N m v1 v2 v3) := yb_Cm_isBound_0 (N := N) (yg_Cm_isBound (N := N) N).1 (yg_Cm_isBound (N := N) N).2 R
theorem yb_Cm_forget_30 {N : Nat} {o : Option Nat} {c : Nat → Nat} {m : MS} {u : CS} (R : RP o c m u) {v1 : Int32} : RF 0 o VE c u (fb_Cm_forget_30 N () u 35 v1) (hb_Cm_forget_30 N () m v1) := by
  unfold fb_Cm_forget_30 hb_Cm_forget_30
  refine rf_w (px_35_6 R) (fun w1' w1 R_w1 => ?_)
  exact rf_ret R_w1 rfl
theorem yb_Cm_forget_0 {N : Nat} {o : Option Nat} {c : Nat → Nat} {m : MS} {u : CS} (R : RP o c m u) {v1 : Int32} : RF 0 o VE c u (fb_Cm_forget_0 N () u 35 v1) (hb_Cm_forget_0 N () m v1) := by
  unfold fb_Cm_forget_0 hb_Cm_forget_0
  refine rf_bo (gx_35_6 R) ?_
  refine rf_br ?_ ?_
  · exact (yb_Cm_forget_30 R)
  · refine rf_bo (rx_35_2 R) ?_
    refine rf_so ?_
    refine rf_ck (ox_22 R) ?_
    refine rf_bx0 (ym_Co_put R) (fun u4' u4 r4 R_u4 => ?_)
    refine rf_bo (rx_35_2 R_u4) ?_
    refine rf_bo (gx_35_6 R_u4) ?_
    refine rf_so ?_
    refine rf_ck (ox_22 R_u4) ?_
    refine rf_bx0 (ym_Co_put R_u4) (fun u8' u8 r8 R_u8 => ?_)
    exact (yb_Cm_forget_30 R_u8)
theorem ym_Cm_forget {N : Nat} {o : Option Nat} {c : Nat → Nat} {m : MS} {u : CS} (R : RP o c m u) {v1 : Int32} : RF 0 o VE c u (fm_Cm_forget N u 35 v1) (hm_Cm_forget N m v1) := yb_Cm_forget_0 (N := N) R
