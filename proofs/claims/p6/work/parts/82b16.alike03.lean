set_option maxRecDepth 100000
theorem yb_To_signs_81 {N : Nat} {o : Option Nat} {c : Nat → Nat} {m : MS} {u : CS} {G : (CS → Nat → Int32 → Int32 → Int32 → Option (CS × Int32)) × (CS → Int32 → Int32 → Option (CS × Int32))} {G' : (MS → Int32 → Int32 → Int32 → Option (MS × Int32)) × (MS → Int32 → Int32 → Option (MS × Int32))} (hG1 : ∀ (c : Nat → Nat) (m : MS) (u : CS) (v1 : Int32) (v2 : Int32) (v3 : Int32), RP o c m u → RF 0 o VE c u (G.1 u 4 v1 v2 v3) (G'.1 m v1 v2 v3)) (hG2 : ∀ (c : Nat → Nat) (m : MS) (u : CS) (v1 : Int32) (v3 : Int32), RP o c m u → RF 0 o VE c u (G.2 u v1 v3) (G'.2 m v1 v3)) (R : RP o c m u) {v1 : Int32} {v3 : Int32} : RF 0 o VE c u (fb_To_signs_81 N G u v1 v3) (hb_To_signs_81 N G' m v1 v3) := by
  unfold fb_To_signs_81 hb_To_signs_81
  refine rf_ckk ?_
  refine rf_bx0 (ym_JS_length R) (fun u1' u1 r1 R_u1 => ?_)
  refine rf_br ?_ ?_
  · exact rf_ret R_u1 rfl
  · refine rf_ckk ?_
    refine rf_bx0 (ym_JS_charAt R_u1) (fun u2' u2 r2 R_u2 => ?_)
    refine rf_br ?_ ?_
    · exact rf_ret R_u2 rfl
    · exact (hG2 _ _ _ _ _ R_u2)
theorem yb_To_signs_63 {N : Nat} {o : Option Nat} {c : Nat → Nat} {m : MS} {u : CS} {G : (CS → Nat → Int32 → Int32 → Int32 → Option (CS × Int32)) × (CS → Int32 → Int32 → Option (CS × Int32))} {G' : (MS → Int32 → Int32 → Int32 → Option (MS × Int32)) × (MS → Int32 → Int32 → Option (MS × Int32))} (hG1 : ∀ (c : Nat → Nat) (m : MS) (u : CS) (v1 : Int32) (v2 : Int32) (v3 : Int32), RP o c m u → RF 0 o VE c u (G.1 u 4 v1 v2 v3) (G'.1 m v1 v2 v3)) (hG2 : ∀ (c : Nat → Nat) (m : MS) (u : CS) (v1 : Int32) (v3 : Int32), RP o c m u → RF 0 o VE c u (G.2 u v1 v3) (G'.2 m v1 v3)) (R : RP o c m u) {v1 : Int32} {v2 : Int32} {v3 : Int32} : RF 0 o VE c u (fb_To_signs_63 N G u 4 v1 v2 v3) (hb_To_signs_63 N G' m v1 v2 v3) := by
  unfold fb_To_signs_63 hb_To_signs_63
  exact (hG1 _ _ _ _ _ _ R)
theorem yb_To_signs_13 {N : Nat} {o : Option Nat} {c : Nat → Nat} {m : MS} {u : CS} {G : (CS → Nat → Int32 → Int32 → Int32 → Option (CS × Int32)) × (CS → Int32 → Int32 → Option (CS × Int32))} {G' : (MS → Int32 → Int32 → Int32 → Option (MS × Int32)) × (MS → Int32 → Int32 → Option (MS × Int32))} (hG1 : ∀ (c : Nat → Nat) (m : MS) (u : CS) (v1 : Int32) (v2 : Int32) (v3 : Int32), RP o c m u → RF 0 o VE c u (G.1 u 4 v1 v2 v3) (G'.1 m v1 v2 v3)) (hG2 : ∀ (c : Nat → Nat) (m : MS) (u : CS) (v1 : Int32) (v3 : Int32), RP o c m u → RF 0 o VE c u (G.2 u v1 v3) (G'.2 m v1 v3)) (R : RP o c m u) {v1 : Int32} {v2 : Int32} {v3 : Int32} : RF 0 o VE c u (fb_To_signs_13 N G u 4 v1 v2 v3) (hb_To_signs_13 N G' m v1 v2 v3) := by
  unfold fb_To_signs_13 hb_To_signs_13
  refine rf_ckk ?_
  refine rf_bx0 (ym_JS_length R) (fun u3' u3 r3 R_u3 => ?_)
  refine rf_br ?_ ?_
  · refine rf_bo (gx_4_9 R_u3) ?_
    refine rf_w (px_4_9 R_u3) (fun w5' w5 R_w5 => ?_)
    exact (hG2 _ _ _ _ _ R_w5)
  · refine rf_ckk ?_
    refine rf_bx0 (ym_JS_charAt R_u3) (fun u6' u6 r6 R_u6 => ?_)
    refine rf_br ?_ ?_
    · refine rf_ckk ?_
      refine rf_bx0 (ym_JS_charAt R_u6) (fun u7' u7 r7 R_u7 => ?_)
      refine rf_br ?_ ?_
      · refine rf_bo (gx_4_9 R_u7) ?_
        refine rf_w (px_4_9 R_u7) (fun w9' w9 R_w9 => ?_)
        exact rf_ret R_w9 rfl
      · exact (yb_To_signs_63 hG1 hG2 R_u7)
    · exact (yb_To_signs_63 hG1 hG2 R_u6)
theorem yb_To_signs_0 {N : Nat} {o : Option Nat} {c : Nat → Nat} {m : MS} {u : CS} {G : (CS → Nat → Int32 → Int32 → Int32 → Option (CS × Int32)) × (CS → Int32 → Int32 → Option (CS × Int32))} {G' : (MS → Int32 → Int32 → Int32 → Option (MS × Int32)) × (MS → Int32 → Int32 → Option (MS × Int32))} (hG1 : ∀ (c : Nat → Nat) (m : MS) (u : CS) (v1 : Int32) (v2 : Int32) (v3 : Int32), RP o c m u → RF 0 o VE c u (G.1 u 4 v1 v2 v3) (G'.1 m v1 v2 v3)) (hG2 : ∀ (c : Nat → Nat) (m : MS) (u : CS) (v1 : Int32) (v3 : Int32), RP o c m u → RF 0 o VE c u (G.2 u v1 v3) (G'.2 m v1 v3)) (R : RP o c m u) {v1 : Int32} : RF 0 o VE c u (fb_To_signs_0 N G u 4 v1) (hb_To_signs_0 N G' m v1) := by
  unfold fb_To_signs_0 hb_To_signs_0
  refine rf_bo (gx_4_9 R) ?_
  refine rf_ck (ox_4 R) ?_
  refine rf_bx0 (ym_To_signAt R) (fun u11' u11 r11 R_u11 => ?_)
  exact (hG1 _ _ _ _ _ _ R_u11)
theorem yg_To_signs {N : Nat} {o : Option Nat} : ∀ n, (∀ (c : Nat → Nat) (m : MS) (u : CS) (v1 : Int32) (v2 : Int32) (v3 : Int32), RP o c m u → RF 0 o VE c u ((gg_To_signs N n).1 u 4 v1 v2 v3) ((hg_To_signs N n).1 m v1 v2 v3)) ∧ (∀ (c : Nat → Nat) (m : MS) (u : CS) (v1 : Int32) (v3 : Int32), RP o c m u → RF 0 o VE c u ((gg_To_signs N n).2 u v1 v3) ((hg_To_signs N n).2 m v1 v3)) := by
  intro n
  induction n with
  | zero => exact ⟨fun c m u v1 v2 v3 R => rf_none, fun c m u v1 v3 R => rf_none⟩
  | succ n ih => exact ⟨fun c m u v1 v2 v3 R => yb_To_signs_13 (N := N) ih.1 ih.2 R, fun c m u v1 v3 R => yb_To_signs_81 (N := N) ih.1 ih.2 R⟩
theorem ym_To_signs {N : Nat} {o : Option Nat} {c : Nat → Nat} {m : MS} {u : CS} (R : RP o c m u) {v1 : Int32} : RF 0 o VE c u (fm_To_signs N u 4 v1) (hm_To_signs N m v1) := yb_To_signs_0 (N := N) (yg_To_signs (N := N) N).1 (yg_To_signs (N := N) N).2 R
theorem yb_To_scan_61 {N : Nat} {o : Option Nat} {c : Nat → Nat} {m : MS} {u : CS} (R : RP o c m u) {t0 : Int32} : RF 0 o VE c u (fb_To_scan_61 N () u t0) (hb_To_scan_61 N () m t0) := by
  unfold fb_To_scan_61 hb_To_scan_61
  exact rf_ret R rfl
theorem yb_To_scan_42 {N : Nat} {o : Option Nat} {c : Nat → Nat} {m : MS} {u : CS} (R : RP o c m u) {t0 : Int32} : RF 0 o VE c u (fb_To_scan_42 N () u t0) (hb_To_scan_42 N () m t0) := by
  unfold fb_To_scan_42 hb_To_scan_42
  exact rf_ret R rfl
theorem yb_To_scan_0 {N : Nat} {o : Option Nat} {c : Nat → Nat} {m : MS} {u : CS} (R : RP o c m u) : RF 0 o VE c u (fb_To_scan_0 N () u 4) (hb_To_scan_0 N () m) := by
  unfold fb_To_scan_0 hb_To_scan_0
  refine rf_bo (gx_4_9 R) ?_
  refine rf_ck (ox_4 R) ?_
  refine rf_bx0 (ym_To_signAt R) (fun u2' u2 r2 R_u2 => ?_)
  refine rf_br ?_ ?_
  · exact rf_ret R_u2 rfl
  · refine rf_bx0 (ym_To_isWordly R_u2) (fun u3' u3 r3 R_u3 => ?_)
    refine rf_br ?_ ?_
    · refine rf_br ?_ ?_
      · refine rf_ck (ox_4 R_u3) ?_
        refine rf_bx0 (ym_To_string R_u3) (fun u5' u5 r5 R_u5 => ?_)
        exact (yb_To_scan_61 R_u5)
      · refine rf_ck (ox_4 R_u3) ?_
        refine rf_bx0 (ym_To_signs R_u3) (fun u4' u4 r4 R_u4 => ?_)
        exact (yb_To_scan_61 R_u4)
    · refine rf_bx0 (ym_To_isDigit R_u3) (fun u6' u6 r6 R_u6 => ?_)
      refine rf_br ?_ ?_
      · refine rf_ck (ox_4 R_u6) ?_
        refine rf_bx0 (ym_To_word R_u6) (fun u7' u7 r7 R_u7 => ?_)
        exact (yb_To_scan_42 R_u7)
      · refine rf_ck (ox_4 R_u6) ?_
        refine rf_bx0 (ym_To_number R_u6) (fun u8' u8 r8 R_u8 => ?_)
        exact (yb_To_scan_42 R_u8)
theorem ym_To_scan {N : Nat} {o : Option Nat} {c : Nat → Nat} {m : MS} {u : CS} (R : RP o c m u) : RF 0 o VE c u (fm_To_scan N u 4) (hm_To_scan N m) := yb_To_scan_0 (N := N) R
theorem yb_To_scanAll_107 {N : Nat} {o : Option Nat} {c : Nat → Nat} {m : MS} {u : CS} {G : (CS → Nat → Int32 → Option (CS × Unit))} {G' : (MS → Int32 → Option (MS × Unit))} (hG : ∀ (c : Nat → Nat) (m : MS) (u : CS) (v1 : Int32), RP o c m u → RF 0 o VE c u (G u 4 v1) (G' m v1)) (R : RP o c m u) : RF 0 o VE c u (fb_To_scanAll_107 N G u) (hb_To_scanAll_107 N G' m) := by
  unfold fb_To_scanAll_107 hb_To_scanAll_107
  exact rf_ret R rfl
theorem yb_To_scanAll_34 {N : Nat} {o : Option Nat} {c : Nat → Nat} {m : MS} {u : CS} {G : (CS → Nat → Int32 → Option (CS × Unit))} {G' : (MS → Int32 → Option (MS × Unit))} (hG : ∀ (c : Nat → Nat) (m : MS) (u : CS) (v1 : Int32), RP o c m u → RF 0 o VE c u (G u 4 v1) (G' m v1)) (R : RP o c m u) {v1 : Int32} : RF 0 o VE c u (fb_To_scanAll_34 N G u 4 v1) (hb_To_scanAll_34 N G' m v1) := by
  unfold fb_To_scanAll_34 hb_To_scanAll_34
  refine rf_br ?_ ?_
  · exact rf_ret R rfl
  · refine rf_ck (ox_4 R) ?_
    refine rf_bx0 (ym_To_skip R) (fun u1' u1 r1 R_u1 => ?_)
    refine rf_bo (rx_4_4 R_u1) ?_
    refine rf_bo (gx_4_5 R_u1) ?_
    refine rf_bo (gx_4_10 R_u1) ?_
    refine rf_so ?_
    refine rf_wk (sx_8 R_u1) (fun w6' w6 R_w6 => ?_)
    refine rf_bo (rx_4_3 R_w6) ?_
    refine rf_bo (gx_4_5 R_w6) ?_
    refine rf_so ?_
    refine rf_wk (sx_7 R_w6) (fun w10' w10 R_w10 => ?_)
    refine rf_bo (rx_4_2 R_w10) ?_
    refine rf_bo (gx_4_5 R_w10) ?_
    refine rf_ck (ox_4 R_w10) ?_
    refine rf_bx0 (ym_To_scan R_w10) (fun u13' u13 r13 R_u13 => ?_)
    refine rf_so ?_
    refine rf_wk (sx_6 R_u13) (fun w15' w15 R_w15 => ?_)
    refine rf_bo (rx_4_2 R_w15) ?_
    refine rf_bo (gx_4_5 R_w15) ?_
    refine rf_so ?_
    refine rf_ai (ax_6 R_w15) ?_
    refine rf_br ?_ ?_
    · exact (yb_To_scanAll_107 hG R_w15)
    · refine rf_bo (rx_4_2 R_w15) ?_
      refine rf_bo (gx_4_5 R_w15) ?_
      refine rf_so ?_
      refine rf_ai (ax_6 R_w15) ?_
      refine rf_br ?_ ?_
      · exact (yb_To_scanAll_107 hG R_w15)
      · refine rf_bo (gx_4_5 R_w15) ?_
        refine rf_w (px_4_5 R_w15) (fun w25' w25 R_w25 => ?_)
        exact (hG _ _ _ _ R_w25)
theorem yb_To_scanAll_0 {N : Nat} {o : Option Nat} {c : Nat → Nat} {m : MS} {u : CS} {G : (CS → Nat → Int32 → Option (CS × Unit))} {G' : (MS → Int32 → Option (MS × Unit))} (hG : ∀ (c : Nat → Nat) (m : MS) (u : CS) (v1 : Int32), RP o c m u → RF 0 o VE c u (G u 4 v1) (G' m v1)) (R : RP o c m u) : RF 0 o VE c u (fb_To_scanAll_0 N G u 4) (hb_To_scanAll_0 N G' m) := by
  unfold fb_To_scanAll_0 hb_To_scanAll_0
  refine rf_bo (rx_4_7 R) ?_
  refine rf_so ?_
  refine rf_w (px_1_2 R) (fun w28' w28 R_w28 => ?_)
  refine rf_bo (rx_4_8 R_w28) ?_
  refine rf_so ?_
  refine rf_w (px_12_2 R_w28) (fun w31' w31 R_w31 => ?_)
  refine rf_w (px_4_9 R_w31) (fun w32' w32 R_w32 => ?_)
  refine rf_w (px_4_10 R_w32) (fun w33' w33 R_w33 => ?_)
  refine rf_w (px_4_5 R_w33) (fun w34' w34 R_w34 => ?_)
  exact (hG _ _ _ _ R_w34)
theorem yg_To_scanAll {N : Nat} {o : Option Nat} : ∀ n, (∀ (c : Nat → Nat) (m : MS) (u : CS) (v1 : Int32), RP o c m u → RF 0 o VE c u ((gg_To_scanAll N n) u 4 v1) ((hg_To_scanAll N n) m v1)) := by
  intro n
  induction n with
  | zero => exact fun c m u v1 R => rf_none
  | succ n ih => exact fun c m u v1 R => yb_To_scanAll_34 (N := N) ih R
theorem ym_To_scanAll {N : Nat} {o : Option Nat} {c : Nat → Nat} {m : MS} {u : CS} (R : RP o c m u) : RF 0 o VE c u (fm_To_scanAll N u 4) (hm_To_scanAll N m) := yb_To_scanAll_0 (N := N) (yg_To_scanAll (N := N) N) R
theorem yb_Pa_refuse_0 {N : Nat} {o : Option Nat} {c : Nat → Nat} {m : MS} {u : CS} (R : RP o c m u) {v1 : Int32} : RF 0 o VE c u (fb_Pa_refuse_0 N () u 33 v1) (hb_Pa_refuse_0 N () m v1) := by
  unfold fb_Pa_refuse_0 hb_Pa_refuse_0
  refine rf_bo (rx_33_0 R) ?_
  refine rf_so ?_
  refine rf_bo (rx_4_4 R) ?_
  refine rf_bo (gx_33_5 R) ?_
  refine rf_so ?_
  refine rf_ai (ax_8 R) ?_
  refine rf_w (px_33_7 R) (fun w7' w7 R_w7 => ?_)
  exact rf_ret R_w7 rfl
theorem ym_Pa_refuse {N : Nat} {o : Option Nat} {c : Nat → Nat} {m : MS} {u : CS} (R : RP o c m u) {v1 : Int32} : RF 0 o VE c u (fm_Pa_refuse N u 33 v1) (hm_Pa_refuse N m v1) := yb_Pa_refuse_0 (N := N) R
theorem yb_Pa_look_22 {N : Nat} {o : Option Nat} {c : Nat → Nat} {m : MS} {u : CS} (R : RP o c m u) : RF 0 o VE c u (fb_Pa_look_22 N () u 33) (hb_Pa_look_22 N () m) := by
  unfold fb_Pa_look_22 hb_Pa_look_22
  refine rf_bo (rx_33_0 R) ?_
  refine rf_so ?_
  refine rf_bo (rx_4_2 R) ?_
  refine rf_bo (gx_33_5 R) ?_
  refine rf_so ?_
  refine rf_ai (ax_6 R) ?_
  exact rf_ret R rfl
theorem yb_Pa_look_0 {N : Nat} {o : Option Nat} {c : Nat → Nat} {m : MS} {u : CS} (R : RP o c m u) : RF 0 o VE c u (fb_Pa_look_0 N () u 33) (hb_Pa_look_0 N () m) := by
  unfold fb_Pa_look_0 hb_Pa_look_0
  refine rf_bo (rx_33_0 R) ?_
  refine rf_so ?_
  refine rf_bo (rx_4_2 R) ?_
  refine rf_bo (gx_33_5 R) ?_
  refine rf_so ?_
  refine rf_ai (ax_6 R) ?_
  refine rf_br ?_ ?_
  · refine rf_ck (ox_33 R) ?_
    refine rf_bT (ym_Pa_refuse R) (fun u13' u13 r13 R_u13 => ?_)
    exact (yb_Pa_look_22 R_u13)
  · exact (yb_Pa_look_22 R)
theorem ym_Pa_look {N : Nat} {o : Option Nat} {c : Nat → Nat} {m : MS} {u : CS} (R : RP o c m u) : RF 0 o VE c u (fm_Pa_look N u 33) (hm_Pa_look N m) := yb_Pa_look_0 (N := N) R
theorem yb_Pa_need_13 {N : Nat} {o : Option Nat} {c : Nat → Nat} {m : MS} {u : CS} (R : RP o c m u) : RF 0 o VE c u (fb_Pa_need_13 N () u 33) (hb_Pa_need_13 N () m) := by
  unfold fb_Pa_need_13 hb_Pa_need_13
  refine rf_bo (gx_33_5 R) ?_
  refine rf_w (px_33_5 R) (fun w2' w2 R_w2 => ?_)
  refine rf_bo (gx_33_5 R_w2) ?_
  exact rf_ret R_w2 rfl
theorem yb_Pa_need_0 {N : Nat} {o : Option Nat} {c : Nat → Nat} {m : MS} {u : CS} (R : RP o c m u) {v1 : Int32} : RF 0 o VE c u (fb_Pa_need_0 N () u 33 v1) (hb_Pa_need_0 N () m v1) := by
  unfold fb_Pa_need_0 hb_Pa_need_0
  refine rf_ck (ox_33 R) ?_
  refine rf_bT (ym_Pa_look R) (fun u4' u4 r4 R_u4 => ?_)
  refine rf_br ?_ ?_
  · exact (yb_Pa_need_13 R_u4)
  · refine rf_ck (ox_33 R_u4) ?_
    refine rf_bT (ym_Pa_refuse R_u4) (fun u5' u5 r5 R_u5 => ?_)
    exact (yb_Pa_need_13 R_u5)
theorem ym_Pa_need {N : Nat} {o : Option Nat} {c : Nat → Nat} {m : MS} {u : CS} (R : RP o c m u) {v1 : Int32} : RF 0 o VE c u (fm_Pa_need N u 33 v1) (hm_Pa_need N m v1) := yb_Pa_need_0 (N := N) R
theorem yb_Pa_opens_23 {N : Nat} {o : Option Nat} {c : Nat → Nat} {m : MS} {u : CS} (R : RP o c m u) : RF 0 o VE c u (fb_Pa_opens_23 N () u 33) (hb_Pa_opens_23 N () m) := by
  unfold fb_Pa_opens_23 hb_Pa_opens_23
  refine rf_bo (gx_33_6 R) ?_
  refine rf_w (px_33_6 R) (fun w2' w2 R_w2 => ?_)
  exact rf_ret R_w2 rfl
theorem yb_Pa_opens_9 {N : Nat} {o : Option Nat} {c : Nat → Nat} {m : MS} {u : CS} (R : RP o c m u) : RF 0 o VE c u (fb_Pa_opens_9 N () u 33) (hb_Pa_opens_9 N () m) := by
  unfold fb_Pa_opens_9 hb_Pa_opens_9
  refine rf_bo (gx_33_6 R) ?_
  refine rf_br ?_ ?_
  · exact (yb_Pa_opens_23 R)
  · refine rf_ck (ox_33 R) ?_
    refine rf_bT (ym_Pa_refuse R) (fun u4' u4 r4 R_u4 => ?_)
    exact (yb_Pa_opens_23 R_u4)
theorem yb_Pa_opens_0 {N : Nat} {o : Option Nat} {c : Nat → Nat} {m : MS} {u : CS} (R : RP o c m u) {v1 : Int32} : RF 0 o VE c u (fb_Pa_opens_0 N () u 33 v1) (hb_Pa_opens_0 N () m v1) := by
  unfold fb_Pa_opens_0 hb_Pa_opens_0
  refine rf_br ?_ ?_
  · refine rf_ck (ox_33 R) ?_
    refine rf_bT (ym_Pa_refuse R) (fun u5' u5 r5 R_u5 => ?_)
    exact (yb_Pa_opens_9 R_u5)
  · exact (yb_Pa_opens_9 R)
theorem ym_Pa_opens {N : Nat} {o : Option Nat} {c : Nat → Nat} {m : MS} {u : CS} (R : RP o c m u) {v1 : Int32} : RF 0 o VE c u (fm_Pa_opens N u 33 v1) (hm_Pa_opens N m v1) := yb_Pa_opens_0 (N := N) R
theorem yb_Pa_closeSigns_79 {N : Nat} {o : Option Nat} {c : Nat → Nat} {m : MS} {u : CS} {G : (CS → Nat → Int32 → Int32 → Int32 → Option (CS × (Int32 ⊕ Nat)))} {G' : (MS → Int32 → Int32 → Int32 → Option (MS × (Int32 ⊕ Nat)))} (hG : ∀ (c : Nat → Nat) (m : MS) (u : CS) (v1 : Int32) (v2 : Int32) (v4 : Int32), RP o c m u → RF 0 o VE c u (G u 33 v1 v2 v4) (G' m v1 v2 v4)) (R : RP o c m u) {v1 : Int32} {v2 : Int32} {v4 : Int32} {v5 : Int32} {v6 : Int32} : RF 0 o VE c u (fb_Pa_closeSigns_79 N G u 33 v1 v2 v4 v5 v6) (hb_Pa_closeSigns_79 N G' m v1 v2 v4 v5 v6) := by
  unfold fb_Pa_closeSigns_79 hb_Pa_closeSigns_79
  refine rf_bo (rx_33_1 R) ?_
  refine rf_so ?_
  refine rf_ck (ox_15 R) ?_
  refine rf_bx0 (ym_Tr_add R) (fun u2' u2 r2 R_u2 => ?_)
  refine rf_ck (ox_33 R_u2) ?_
  refine rf_bx0 (ym_Pa_chain R_u2) (fun u4' u4 r4 R_u4 => ?_)
  refine rf_bo (gx_33_4 R_u4) ?_
  refine rf_w (px_33_4 R_u4) (fun w6' w6 R_w6 => ?_)
  exact (hG _ _ _ _ _ _ R_w6)
theorem yb_Pa_closeSigns_63 {N : Nat} {o : Option Nat} {c : Nat → Nat} {m : MS} {u : CS} {G : (CS → Nat → Int32 → Int32 → Int32 → Option (CS × (Int32 ⊕ Nat)))} {G' : (MS → Int32 → Int32 → Int32 → Option (MS × (Int32 ⊕ Nat)))} (hG : ∀ (c : Nat → Nat) (m : MS) (u : CS) (v1 : Int32) (v2 : Int32) (v4 : Int32), RP o c m u → RF 0 o VE c u (G u 33 v1 v2 v4) (G' m v1 v2 v4)) (R : RP o c m u) {v1 : Int32} {v2 : Int32} {v4 : Int32} {v5 : Int32} {v6 : Int32} {v7 : Int32} : RF 0 o VE c u (fb_Pa_closeSigns_63 N G u 33 v1 v2 v4 v5 v6 v7) (hb_Pa_closeSigns_63 N G' m v1 v2 v4 v5 v6 v7) := by
  unfold fb_Pa_closeSigns_63 hb_Pa_closeSigns_63
  refine rf_br ?_ ?_
  · refine rf_br ?_ ?_
    · refine rf_ck (ox_33 R) ?_
      refine rf_bT (ym_Pa_refuse R) (fun u7' u7 r7 R_u7 => ?_)
      exact (yb_Pa_closeSigns_79 hG R_u7)
    · exact (yb_Pa_closeSigns_79 hG R)
  · exact (yb_Pa_closeSigns_79 hG R)
theorem yb_Pa_closeSigns_60 {N : Nat} {o : Option Nat} {c : Nat → Nat} {m : MS} {u : CS} {G : (CS → Nat → Int32 → Int32 → Int32 → Option (CS × (Int32 ⊕ Nat)))} {G' : (MS → Int32 → Int32 → Int32 → Option (MS × (Int32 ⊕ Nat)))} (hG : ∀ (c : Nat → Nat) (m : MS) (u : CS) (v1 : Int32) (v2 : Int32) (v4 : Int32), RP o c m u → RF 0 o VE c u (G u 33 v1 v2 v4) (G' m v1 v2 v4)) (R : RP o c m u) {v4 : Int32} : RF 0 o VE c u (fb_Pa_closeSigns_60 N G u v4) (hb_Pa_closeSigns_60 N G' m v4) := by
  unfold fb_Pa_closeSigns_60 hb_Pa_closeSigns_60
  exact rf_ret R rfl
theorem yb_Pa_closeSigns_3 {N : Nat} {o : Option Nat} {c : Nat → Nat} {m : MS} {u : CS} {G : (CS → Nat → Int32 → Int32 → Int32 → Option (CS × (Int32 ⊕ Nat)))} {G' : (MS → Int32 → Int32 → Int32 → Option (MS × (Int32 ⊕ Nat)))} (hG : ∀ (c : Nat → Nat) (m : MS) (u : CS) (v1 : Int32) (v2 : Int32) (v4 : Int32), RP o c m u → RF 0 o VE c u (G u 33 v1 v2 v4) (G' m v1 v2 v4)) (R : RP o c m u) {v1 : Int32} {v2 : Int32} {v4 : Int32} : RF 0 o VE c u (fb_Pa_closeSigns_3 N G u 33 v1 v2 v4) (hb_Pa_closeSigns_3 N G' m v1 v2 v4) := by
  unfold fb_Pa_closeSigns_3 hb_Pa_closeSigns_3
  refine rf_bo (gx_33_4 R) ?_
  refine rf_br ?_ ?_
  · exact rf_ret R rfl
  · refine rf_bo (rx_33_3 R) ?_
    refine rf_bo (gx_33_4 R) ?_
    refine rf_so ?_
    refine rf_ai (ax_34 R) ?_
    refine rf_bo (rx_33_0 R) ?_
    refine rf_so ?_
    refine rf_bo (rx_4_2 R) ?_
    refine rf_so ?_
    refine rf_ai (ax_6 R) ?_
    refine rf_bx0 (ym_Pa_rank R) (fun u18' u18 r18 R_u18 => ?_)
    refine rf_br ?_ ?_
    · exact (yb_Pa_closeSigns_60 hG R_u18)
    · refine rf_br ?_ ?_
      · refine rf_br ?_ ?_
        · exact (yb_Pa_closeSigns_60 hG R_u18)
        · exact (yb_Pa_closeSigns_63 hG R_u18)
      · exact (yb_Pa_closeSigns_63 hG R_u18)
theorem yb_Pa_closeSigns_0 {N : Nat} {o : Option Nat} {c : Nat → Nat} {m : MS} {u : CS} {G : (CS → Nat → Int32 → Int32 → Int32 → Option (CS × (Int32 ⊕ Nat)))} {G' : (MS → Int32 → Int32 → Int32 → Option (MS × (Int32 ⊕ Nat)))} (hG : ∀ (c : Nat → Nat) (m : MS) (u : CS) (v1 : Int32) (v2 : Int32) (v4 : Int32), RP o c m u → RF 0 o VE c u (G u 33 v1 v2 v4) (G' m v1 v2 v4)) (R : RP o c m u) {v1 : Int32} {v2 : Int32} {v3 : Int32} : RF 0 o VE c u (fb_Pa_closeSigns_0 N G u 33 v1 v2 v3) (hb_Pa_closeSigns_0 N G' m v1 v2 v3) := by
  unfold fb_Pa_closeSigns_0 hb_Pa_closeSigns_0
  exact (hG _ _ _ _ _ _ R)
theorem yg_Pa_closeSigns {N : Nat} {o : Option Nat} : ∀ n, (∀ (c : Nat → Nat) (m : MS) (u : CS) (v1 : Int32) (v2 : Int32) (v4 : Int32), RP o c m u → RF 0 o VE c u ((gg_Pa_closeSigns N n) u 33 v1 v2 v4) ((hg_Pa_closeSigns N n) m v1 v2 v4)) := by
  intro n
  induction n with
  | zero => exact fun c m u v1 v2 v4 R => rf_none
  | succ n ih => exact fun c m u v1 v2 v4 R => yb_Pa_closeSigns_3 (N := N) ih R
theorem ym_Pa_closeSigns {N : Nat} {o : Option Nat} {c : Nat → Nat} {m : MS} {u : CS} (R : RP o c m u) {v1 : Int32} {v2 : Int32} {v3 : Int32} : RF 0 o VE c u (fm_Pa_closeSigns N u 33 v1 v2 v3) (hm_Pa_closeSigns N m v1 v2 v3) := yb_Pa_closeSigns_0 (N := N) (yg_Pa_closeSigns (N := N) N) R
def SC_Tr_isPattern (o : Option Nat) (S : SG_Tr_isPattern) (S' : SF_Tr_isPattern) : Prop := (∀ (c : Nat → Nat) (m : MS) (u : CS) (v1 : Int32), RP o c m u → RF 0 o VE c u (S u 15 v1) (S' m v1))
theorem yb_Tr_isPattern_191 {N : Nat} {o : Option Nat} {c : Nat → Nat} {m : MS} {u : CS} {S : SG_Tr_isPattern} {S' : SF_Tr_isPattern} {G : (CS → Nat → Int32 → Int32 → Option (CS × Int32))} {G' : (MS → Int32 → Int32 → Option (MS × Int32))} (hS : SC_Tr_isPattern o S S') (hG : ∀ (c : Nat → Nat) (m : MS) (u : CS) (v1 : Int32) (v2 : Int32), RP o c m u → RF 0 o VE c u (G u 15 v1 v2) (G' m v1 v2)) (R : RP o c m u) {t0 : Int32} : RF 0 o VE c u (fb_Tr_isPattern_191 N S G u t0) (hb_Tr_isPattern_191 N S' G' m t0) := by
  unfold fb_Tr_isPattern_191 hb_Tr_isPattern_191
  refine rf_ckk ?_
  exact rf_ret R rfl
theorem yb_Tr_isPattern_186 {N : Nat} {o : Option Nat} {c : Nat → Nat} {m : MS} {u : CS} {S : SG_Tr_isPattern} {S' : SF_Tr_isPattern} {G : (CS → Nat → Int32 → Int32 → Option (CS × Int32))} {G' : (MS → Int32 → Int32 → Option (MS × Int32))} (hS : SC_Tr_isPattern o S S') (hG : ∀ (c : Nat → Nat) (m : MS) (u : CS) (v1 : Int32) (v2 : Int32), RP o c m u → RF 0 o VE c u (G u 15 v1 v2) (G' m v1 v2)) (R : RP o c m u) : RF 0 o VE c u (fb_Tr_isPattern_186 N S G u) (hb_Tr_isPattern_186 N S' G' m) := by
  unfold fb_Tr_isPattern_186 hb_Tr_isPattern_186
  exact (yb_Tr_isPattern_191 hS hG R)
theorem yb_Tr_isPattern_129 {N : Nat} {o : Option Nat} {c : Nat → Nat} {m : MS} {u : CS} {S : SG_Tr_isPattern} {S' : SF_Tr_isPattern} {G : (CS → Nat → Int32 → Int32 → Option (CS × Int32))} {G' : (MS → Int32 → Int32 → Option (MS × Int32))} (hS : SC_Tr_isPattern o S S') (hG : ∀ (c : Nat → Nat) (m : MS) (u : CS) (v1 : Int32) (v2 : Int32), RP o c m u → RF 0 o VE c u (G u 15 v1 v2) (G' m v1 v2)) (R : RP o c m u) {v1 : Int32} {v2 : Int32} : RF 0 o VE c u (fb_Tr_isPattern_129 N S G u 15 v1 v2) (hb_Tr_isPattern_129 N S' G' m v1 v2) := by
  unfold fb_Tr_isPattern_129 hb_Tr_isPattern_129
  refine rf_br ?_ ?_
  · refine rf_bo (rx_15_0 R) ?_
    refine rf_so ?_
    refine rf_ai (ax_16 R) ?_
    refine rf_br ?_ ?_
    · exact (yb_Tr_isPattern_186 hS hG R)
    · refine rf_bo (rx_15_4 R) ?_
      refine rf_so ?_
      refine rf_ai (ax_20 R) ?_
      refine rf_br ?_ ?_
      · exact (yb_Tr_isPattern_186 hS hG R)
      · refine rf_bo (rx_15_4 R) ?_
        refine rf_so ?_
        refine rf_ai (ax_20 R) ?_
        refine rf_ck (ox_15 R) ?_
        refine rf_bx0 (hS _ _ _ _ R) (fun u10' u10 r10 R_u10 => ?_)
        refine rf_br ?_ ?_
        · exact (yb_Tr_isPattern_191 hS hG R_u10)
        · exact (yb_Tr_isPattern_186 hS hG R_u10)
  · refine rf_ck (ox_15 R) ?_
    refine rf_bx0 (hS _ _ _ _ R) (fun u11' u11 r11 R_u11 => ?_)
    refine rf_br ?_ ?_
    · refine rf_ckk ?_
      exact rf_ret R_u11 rfl
    · refine rf_bo (rx_15_5 R_u11) ?_
      refine rf_so ?_
      refine rf_ai (ax_21 R_u11) ?_
      exact (hG _ _ _ _ _ R_u11)
theorem yb_Tr_isPattern_110 {N : Nat} {o : Option Nat} {c : Nat → Nat} {m : MS} {u : CS} {S : SG_Tr_isPattern} {S' : SF_Tr_isPattern} {G : (CS → Nat → Int32 → Int32 → Option (CS × Int32))} {G' : (MS → Int32 → Int32 → Option (MS × Int32))} (hS : SC_Tr_isPattern o S S') (hG : ∀ (c : Nat → Nat) (m : MS) (u : CS) (v1 : Int32) (v2 : Int32), RP o c m u → RF 0 o VE c u (G u 15 v1 v2) (G' m v1 v2)) (R : RP o c m u) {t0 : Int32} : RF 0 o VE c u (fb_Tr_isPattern_110 N S G u t0) (hb_Tr_isPattern_110 N S' G' m t0) := by
  unfold fb_Tr_isPattern_110 hb_Tr_isPattern_110
  refine rf_ckk ?_
  exact rf_ret R rfl
theorem yb_Tr_isPattern_0 {N : Nat} {o : Option Nat} {c : Nat → Nat} {m : MS} {u : CS} {S : SG_Tr_isPattern} {S' : SF_Tr_isPattern} {G : (CS → Nat → Int32 → Int32 → Option (CS × Int32))} {G' : (MS → Int32 → Int32 → Option (MS × Int32))} (hS : SC_Tr_isPattern o S S') (hG : ∀ (c : Nat → Nat) (m : MS) (u : CS) (v1 : Int32) (v2 : Int32), RP o c m u → RF 0 o VE c u (G u 15 v1 v2) (G' m v1 v2)) (R : RP o c m u) {v1 : Int32} : RF 0 o VE c u (fb_Tr_isPattern_0 N S G u 15 v1) (hb_Tr_isPattern_0 N S' G' m v1) := by
  unfold fb_Tr_isPattern_0 hb_Tr_isPattern_0
  refine rf_bo (rx_15_0 R) ?_
  refine rf_so ?_
  refine rf_ai (ax_16 R) ?_
  refine rf_br ?_ ?_
  · refine rf_ckk ?_
    exact rf_ret R rfl
  · refine rf_br ?_ ?_
    · refine rf_ckk ?_
      exact rf_ret R rfl
    · refine rf_br ?_ ?_
      · refine rf_ckk ?_
        exact rf_ret R rfl
      · refine rf_br ?_ ?_
        · refine rf_ckk ?_
          exact rf_ret R rfl
        · refine rf_br ?_ ?_
          · refine rf_bo (rx_15_2 R) ?_
            refine rf_so ?_
            refine rf_ai (ax_18 R) ?_
            refine rf_ck (ox_15 R) ?_
            refine rf_bx0 (hS _ _ _ _ R) (fun u21' u21 r21 R_u21 => ?_)
            refine rf_ckk ?_
            exact rf_ret R_u21 rfl
          · refine rf_br ?_ ?_
            · refine rf_bo (rx_15_2 R) ?_
              refine rf_so ?_
              refine rf_ai (ax_18 R) ?_
              exact (hG _ _ _ _ _ R)
            · refine rf_br ?_ ?_
              · refine rf_bo (rx_15_2 R) ?_
                refine rf_so ?_
                refine rf_ai (ax_18 R) ?_
                exact (hG _ _ _ _ _ R)
              · refine rf_br ?_ ?_
                · refine rf_ckk ?_
                  exact rf_ret R rfl
                · refine rf_br ?_ ?_
                  · refine rf_ckk ?_
                    exact rf_ret R rfl
                  · refine rf_br ?_ ?_
                    · refine rf_ckk ?_
                      exact rf_ret R rfl
                    · refine rf_br ?_ ?_
                      · refine rf_ckk ?_
                        exact rf_ret R rfl
                      · refine rf_br ?_ ?_
                        · refine rf_ckk ?_
                          exact rf_ret R rfl
                        · refine rf_br ?_ ?_
                          · refine rf_ckk ?_
                            exact rf_ret R rfl
                          · refine rf_br ?_ ?_
                            · refine rf_ckk ?_
                              exact rf_ret R rfl
                            · refine rf_br ?_ ?_
                              · refine rf_ckk ?_
                                exact rf_ret R rfl
                              · refine rf_br ?_ ?_
                                · refine rf_ckk ?_
                                  exact rf_ret R rfl
                                · refine rf_br ?_ ?_
                                  · refine rf_bo (rx_15_0 R) ?_
                                    refine rf_bo (rx_15_2 R) ?_
                                    refine rf_so ?_
                                    refine rf_ai (ax_18 R) ?_
                                    refine rf_so ?_
                                    refine rf_ai (ax_16 R) ?_
                                    refine rf_br ?_ ?_
                                    · exact (yb_Tr_isPattern_110 hS hG R)
                                    · exact (yb_Tr_isPattern_110 hS hG R)
                                  · refine rf_ckk ?_
                                    exact rf_ret R rfl
theorem yg_Tr_isPattern {N : Nat} {o : Option Nat} {S : SG_Tr_isPattern} {S' : SF_Tr_isPattern} (hS : SC_Tr_isPattern o S S') : ∀ n, (∀ (c : Nat → Nat) (m : MS) (u : CS) (v1 : Int32) (v2 : Int32), RP o c m u → RF 0 o VE c u ((gg_Tr_isPattern N S n) u 15 v1 v2) ((hg_Tr_isPattern N S' n) m v1 v2)) := by
  intro n
  induction n with
  | zero => exact fun c m u v1 v2 R => rf_none
  | succ n ih => exact fun c m u v1 v2 R => yb_Tr_isPattern_129 (N := N) hS ih R
theorem ym_Tr_isPattern {N : Nat} {o : Option Nat} {c : Nat → Nat} {m : MS} {u : CS} {S : SG_Tr_isPattern} {S' : SF_Tr_isPattern} (hS : SC_Tr_isPattern o S S') (R : RP o c m u) {v1 : Int32} : RF 0 o VE c u (fm_Tr_isPattern N S u 15 v1) (hm_Tr_isPattern N S' m v1) := yb_Tr_isPattern_0 (N := N) hS (yg_Tr_isPattern (N := N) hS N) R
theorem yrc_Tr_isPattern {N : Nat} {o : Option Nat} : ∀ d, SC_Tr_isPattern o (rc_Tr_isPattern N d) (hrc_Tr_isPattern N d) := by
  intro d
  induction d with
  | zero => exact fun c m u v1 R => rf_none
  | succ d ih => exact fun c m u v1 R => ym_Tr_isPattern (N := N) ih R
theorem yr_Tr_isPattern {N : Nat} {o : Option Nat} {c : Nat → Nat} {m : MS} {u : CS} (R : RP o c m u) {v1 : Int32} : RF 0 o VE c u (fr_Tr_isPattern N u 15 v1) (hr_Tr_isPattern N m v1) := (yrc_Tr_isPattern (N := N) 300) _ _ _ _ R
def SC_Pa_matched (o : Option Nat) (S : SG_Pa_matched) (S' : SF_Pa_matched) : Prop := (∀ (c : Nat → Nat) (m : MS) (u : CS) (v1 : Int32), RP o c m u → RF 0 o VE c u (S.1 u 33 v1) (S'.1 m v1)) ∧ (∀ (c : Nat → Nat) (m : MS) (u : CS) (v1 : Int32), RP o c m u → RF 0 o VE c u (S.2.1 u 33 v1) (S'.2.1 m v1)) ∧ (∀ (c : Nat → Nat) (m : MS) (u : CS), RP o c m u → RF 0 o VE c u (S.2.2.1 u 33) (S'.2.2.1 m)) ∧ (∀ (c : Nat → Nat) (m : MS) (u : CS), RP o c m u → RF 0 o VE c u (S.2.2.2.1 u 33) (S'.2.2.2.1 m)) ∧ (∀ (c : Nat → Nat) (m : MS) (u : CS), RP o c m u → RF 0 o VE c u (S.2.2.2.2.1 u 33) (S'.2.2.2.2.1 m)) ∧ (∀ (c : Nat → Nat) (m : MS) (u : CS) (v1 : Int32) (v2 : Int32), RP o c m u → RF 0 o VE c u (S.2.2.2.2.2.1 u 33 v1 v2) (S'.2.2.2.2.2.1 m v1 v2)) ∧ (∀ (c : Nat → Nat) (m : MS) (u : CS), RP o c m u → RF 0 o VE c u (S.2.2.2.2.2.2.1 u 33) (S'.2.2.2.2.2.2.1 m)) ∧ (∀ (c : Nat → Nat) (m : MS) (u : CS) (v1 : Int32), RP o c m u → RF 0 o VE c u (S.2.2.2.2.2.2.2.1 u 33 v1) (S'.2.2.2.2.2.2.2.1 m v1)) ∧ (∀ (c : Nat → Nat) (m : MS) (u : CS), RP o c m u → RF 0 o VE c u (S.2.2.2.2.2.2.2.2.1 u 33) (S'.2.2.2.2.2.2.2.2.1 m)) ∧ (∀ (c : Nat → Nat) (m : MS) (u : CS), RP o c m u → RF 0 o VE c u (S.2.2.2.2.2.2.2.2.2.1 u 33) (S'.2.2.2.2.2.2.2.2.2.1 m)) ∧ (∀ (c : Nat → Nat) (m : MS) (u : CS), RP o c m u → RF 0 o VE c u (S.2.2.2.2.2.2.2.2.2.2.1 u 33) (S'.2.2.2.2.2.2.2.2.2.2.1 m)) ∧ (∀ (c : Nat → Nat) (m : MS) (u : CS), RP o c m u → RF 0 o VE c u (S.2.2.2.2.2.2.2.2.2.2.2.1 u 33) (S'.2.2.2.2.2.2.2.2.2.2.2.1 m)) ∧ (∀ (c : Nat → Nat) (m : MS) (u : CS), RP o c m u → RF 0 o VE c u (S.2.2.2.2.2.2.2.2.2.2.2.2.1 u 33) (S'.2.2.2.2.2.2.2.2.2.2.2.2.1 m)) ∧ (∀ (c : Nat → Nat) (m : MS) (u : CS), RP o c m u → RF 0 o VE c u (S.2.2.2.2.2.2.2.2.2.2.2.2.2.1 u 33) (S'.2.2.2.2.2.2.2.2.2.2.2.2.2.1 m)) ∧ (∀ (c : Nat → Nat) (m : MS) (u : CS) (v1 : Int32), RP o c m u → RF 0 o VE c u (S.2.2.2.2.2.2.2.2.2.2.2.2.2.2.1 u 33 v1) (S'.2.2.2.2.2.2.2.2.2.2.2.2.2.2.1 m v1)) ∧ (∀ (c : Nat → Nat) (m : MS) (u : CS) (v1 : Int32), RP o c m u → RF 0 o VE c u (S.2.2.2.2.2.2.2.2.2.2.2.2.2.2.2.1 u 33 v1) (S'.2.2.2.2.2.2.2.2.2.2.2.2.2.2.2.1 m v1)) ∧ (∀ (c : Nat → Nat) (m : MS) (u : CS) (v1 : Int32), RP o c m u → RF 0 o VE c u (S.2.2.2.2.2.2.2.2.2.2.2.2.2.2.2.2.1 u 33 v1) (S'.2.2.2.2.2.2.2.2.2.2.2.2.2.2.2.2.1 m v1)) ∧ (∀ (c : Nat → Nat) (m : MS) (u : CS), RP o c m u → RF 0 o VE c u (S.2.2.2.2.2.2.2.2.2.2.2.2.2.2.2.2.2.1 u 33) (S'.2.2.2.2.2.2.2.2.2.2.2.2.2.2.2.2.2.1 m)) ∧ (∀ (c : Nat → Nat) (m : MS) (u : CS) (v1 : Int32) (v2 : Int32), RP o c m u → RF 0 o VE c u (S.2.2.2.2.2.2.2.2.2.2.2.2.2.2.2.2.2.2.1 u 33 v1 v2) (S'.2.2.2.2.2.2.2.2.2.2.2.2.2.2.2.2.2.2.1 m v1 v2)) ∧ (∀ (c : Nat → Nat) (m : MS) (u : CS) (v1 : Int32) (v2 : Int32) (v3 : Int32), RP o c m u → RF 0 o VE c u (S.2.2.2.2.2.2.2.2.2.2.2.2.2.2.2.2.2.2.2 u 33 v1 v2 v3) (S'.2.2.2.2.2.2.2.2.2.2.2.2.2.2.2.2.2.2.2 m v1 v2 v3))
theorem yb_Pa_matched_69 {N : Nat} {o : Option Nat} {c : Nat → Nat} {m : MS} {u : CS} {S : SG_Pa_matched} {S' : SF_Pa_matched} (hS : SC_Pa_matched o S S') (R : RP o c m u) {v1 : Int32} {v3 : Int32} {t0 : Int32} : RF 0 o VE c u (fb_Pa_matched_69 N S () u 33 v1 v3 t0) (hb_Pa_matched_69 N S' () m v1 v3 t0) := by
  unfold fb_Pa_matched_69 hb_Pa_matched_69
  refine rf_bo (rx_33_1 R) ?_
  refine rf_ck (ox_33 R) ?_
  refine rf_bT (hS.2.2.2.2.2.2.2.2.2.2.2.2.2.2.1 _ _ _ _ R) (fun u2' u2 r2 R_u2 => ?_)
  refine rf_so ?_
  refine rf_ck (ox_15 R_u2) ?_
  refine rf_bx0 (ym_Tr_add R_u2) (fun u3' u3 r3 R_u3 => ?_)
  exact rf_ret R_u3 rfl
theorem yb_Pa_matched_41 {N : Nat} {o : Option Nat} {c : Nat → Nat} {m : MS} {u : CS} {S : SG_Pa_matched} {S' : SF_Pa_matched} (hS : SC_Pa_matched o S S') (R : RP o c m u) {v1 : Int32} {v2 : Int32} : RF 0 o VE c u (fb_Pa_matched_41 N S () u 33 v1 v2) (hb_Pa_matched_41 N S' () m v1 v2) := by
  unfold fb_Pa_matched_41 hb_Pa_matched_41
  refine rf_bo (gx_33_5 R) ?_
  refine rf_bo (gx_33_5 R) ?_
  refine rf_w (px_33_5 R) (fun w7' w7 R_w7 => ?_)
  refine rf_br ?_ ?_
  · exact (yb_Pa_matched_69 hS R_w7)
  · exact (yb_Pa_matched_69 hS R_w7)
theorem yb_Pa_matched_19 {N : Nat} {o : Option Nat} {c : Nat → Nat} {m : MS} {u : CS} {S : SG_Pa_matched} {S' : SF_Pa_matched} (hS : SC_Pa_matched o S S') (R : RP o c m u) {v1 : Int32} {v2 : Int32} : RF 0 o VE c u (fb_Pa_matched_19 N S () u 33 v1 v2) (hb_Pa_matched_19 N S' () m v1 v2) := by
  unfold fb_Pa_matched_19 hb_Pa_matched_19
  refine rf_br ?_ ?_
  · refine rf_bo (rx_33_1 R) ?_
    refine rf_so ?_
    refine rf_ck (ox_15 R) ?_
    refine rf_bx0 (yr_Tr_isPattern R) (fun u9' u9 r9 R_u9 => ?_)
    refine rf_br ?_ ?_
    · refine rf_ck (ox_33 R_u9) ?_
      refine rf_bT (ym_Pa_refuse R_u9) (fun u11' u11 r11 R_u11 => ?_)
      exact (yb_Pa_matched_41 hS R_u11)
    · exact (yb_Pa_matched_41 hS R_u9)
  · exact (yb_Pa_matched_41 hS R)
theorem yb_Pa_matched_0 {N : Nat} {o : Option Nat} {c : Nat → Nat} {m : MS} {u : CS} {S : SG_Pa_matched} {S' : SF_Pa_matched} (hS : SC_Pa_matched o S S') (R : RP o c m u) {v1 : Int32} : RF 0 o VE c u (fb_Pa_matched_0 N S () u 33 v1) (hb_Pa_matched_0 N S' () m v1) := by
  unfold fb_Pa_matched_0 hb_Pa_matched_0
  refine rf_ck (ox_33 R) ?_
  refine rf_bT (ym_Pa_look R) (fun u12' u12 r12 R_u12 => ?_)
  refine rf_br ?_ ?_
  · exact (yb_Pa_matched_19 hS R_u12)
  · refine rf_br ?_ ?_
    · exact (yb_Pa_matched_19 hS R_u12)
    · exact rf_ret R_u12 rfl
theorem ym_Pa_matched {N : Nat} {o : Option Nat} {c : Nat → Nat} {m : MS} {u : CS} {S : SG_Pa_matched} {S' : SF_Pa_matched} (hS : SC_Pa_matched o S S') (R : RP o c m u) {v1 : Int32} : RF 0 o VE c u (fm_Pa_matched N S u 33 v1) (hm_Pa_matched N S' m v1) := yb_Pa_matched_0 (N := N) hS R
theorem yb_Pa_applied_145 {N : Nat} {o : Option Nat} {c : Nat → Nat} {m : MS} {u : CS} {S : SG_Pa_matched} {S' : SF_Pa_matched} {G : (CS → Nat → Int32 → Int32 → Int32 → Option (CS × (Int32 ⊕ Nat)))} {G' : (MS → Int32 → Int32 → Int32 → Option (MS × (Int32 ⊕ Nat)))} (hS : SC_Pa_matched o S S') (hG : ∀ (c : Nat → Nat) (m : MS) (u : CS) (v2 : Int32) (v3 : Int32) (v4 : Int32), RP o c m u → RF 0 o VE c u (G u 33 v2 v3 v4) (G' m v2 v3 v4)) (R : RP o c m u) {v2 : Int32} : RF 0 o VE c u (fb_Pa_applied_145 N S G u v2) (hb_Pa_applied_145 N S' G' m v2) := by
  unfold fb_Pa_applied_145 hb_Pa_applied_145
  exact rf_ret R rfl
theorem yb_Pa_applied_136 {N : Nat} {o : Option Nat} {c : Nat → Nat} {m : MS} {u : CS} {S : SG_Pa_matched} {S' : SF_Pa_matched} {G : (CS → Nat → Int32 → Int32 → Int32 → Option (CS × (Int32 ⊕ Nat)))} {G' : (MS → Int32 → Int32 → Int32 → Option (MS × (Int32 ⊕ Nat)))} (hS : SC_Pa_matched o S S') (hG : ∀ (c : Nat → Nat) (m : MS) (u : CS) (v2 : Int32) (v3 : Int32) (v4 : Int32), RP o c m u → RF 0 o VE c u (G u 33 v2 v3 v4) (G' m v2 v3 v4)) (R : RP o c m u) {v2 : Int32} {v4 : Int32} {v7 : Int32} : RF 0 o VE c u (fb_Pa_applied_136 N S G u 33 v2 v4 v7) (hb_Pa_applied_136 N S' G' m v2 v4 v7) := by
  unfold fb_Pa_applied_136 hb_Pa_applied_136
  exact (hG _ _ _ _ _ _ R)
theorem yb_Pa_applied_38 {N : Nat} {o : Option Nat} {c : Nat → Nat} {m : MS} {u : CS} {S : SG_Pa_matched} {S' : SF_Pa_matched} {G : (CS → Nat → Int32 → Int32 → Int32 → Option (CS × (Int32 ⊕ Nat)))} {G' : (MS → Int32 → Int32 → Int32 → Option (MS × (Int32 ⊕ Nat)))} (hS : SC_Pa_matched o S S') (hG : ∀ (c : Nat → Nat) (m : MS) (u : CS) (v2 : Int32) (v3 : Int32) (v4 : Int32), RP o c m u → RF 0 o VE c u (G u 33 v2 v3 v4) (G' m v2 v3 v4)) (R : RP o c m u) {v2 : Int32} {v3 : Int32} {v4 : Int32} : RF 0 o VE c u (fb_Pa_applied_38 N S G u 33 v2 v3 v4) (hb_Pa_applied_38 N S' G' m v2 v3 v4) := by
  unfold fb_Pa_applied_38 hb_Pa_applied_38
  refine rf_br ?_ ?_
  · exact (yb_Pa_applied_145 hS hG R)
  · refine rf_ck (ox_33 R) ?_
    refine rf_bT (ym_Pa_look R) (fun u1' u1 r1 R_u1 => ?_)
    refine rf_br ?_ ?_
    · refine rf_bo (gx_33_5 R_u1) ?_
      refine rf_bo (gx_33_5 R_u1) ?_
      refine rf_w (px_33_5 R_u1) (fun w4' w4 R_w4 => ?_)
      refine rf_ck (ox_33 R_w4) ?_
      refine rf_bT (hS.2.2.2.2.2.2.2.2.2.2.2.2.2.2.2.2.2.2.2 _ _ _ _ _ _ R_w4) (fun u5' u5 r5 R_u5 => ?_)
      refine rf_bo (rx_33_1 R_u5) ?_
      refine rf_bo (rx_33_1 R_u5) ?_
      refine rf_so ?_
      refine rf_ck (ox_15 R_u5) ?_
      refine rf_bx0 (ym_Tr_length R_u5) (fun u8' u8 r8 R_u8 => ?_)
      refine rf_so ?_
      refine rf_ck (ox_15 R_u8) ?_
      refine rf_bx0 (ym_Tr_add R_u8) (fun u10' u10 r10 R_u10 => ?_)
      refine rf_br ?_ ?_
      · refine rf_bo (rx_33_1 R_u10) ?_
        refine rf_so ?_
        refine rf_bo (rx_15_3 R_u10) ?_
        refine rf_so ?_
        refine rf_wk (sx_19 R_u10) (fun w21' w21 R_w21 => ?_)
        exact (yb_Pa_applied_136 hS hG R_w21)
      · refine rf_bo (rx_33_1 R_u10) ?_
        refine rf_so ?_
        refine rf_bo (rx_15_5 R_u10) ?_
        refine rf_so ?_
        refine rf_wk (sx_21 R_u10) (fun w16' w16 R_w16 => ?_)
        exact (yb_Pa_applied_136 hS hG R_w16)
    · exact (yb_Pa_applied_145 hS hG R_u1)
theorem yb_Pa_applied_0 {N : Nat} {o : Option Nat} {c : Nat → Nat} {m : MS} {u : CS} {S : SG_Pa_matched} {S' : SF_Pa_matched} {G : (CS → Nat → Int32 → Int32 → Int32 → Option (CS × (Int32 ⊕ Nat)))} {G' : (MS → Int32 → Int32 → Int32 → Option (MS × (Int32 ⊕ Nat)))} (hS : SC_Pa_matched o S S') (hG : ∀ (c : Nat → Nat) (m : MS) (u : CS) (v2 : Int32) (v3 : Int32) (v4 : Int32), RP o c m u → RF 0 o VE c u (G u 33 v2 v3 v4) (G' m v2 v3 v4)) (R : RP o c m u) {v1 : Int32} : RF 0 o VE c u (fb_Pa_applied_0 N S G u 33 v1) (hb_Pa_applied_0 N S' G' m v1) := by
  unfold fb_Pa_applied_0 hb_Pa_applied_0
  refine rf_ck (ox_33 R) ?_
  refine rf_bT (ym_Pa_look R) (fun u22' u22 r22 R_u22 => ?_)
  refine rf_br ?_ ?_
  · refine rf_bo (rx_33_1 R_u22) ?_
    refine rf_bo (rx_33_1 R_u22) ?_
    refine rf_so ?_
    refine rf_bo (rx_15_1 R_u22) ?_
    refine rf_so ?_
    refine rf_ai (ax_17 R_u22) ?_
    refine rf_so ?_
    refine rf_ck (ox_15 R_u22) ?_
    refine rf_bx0 (ym_Tr_add R_u22) (fun u29' u29 r29 R_u29 => ?_)
    exact (hG _ _ _ _ _ _ R_u29)
  · exact rf_ret R_u22 rfl
theorem yg_Pa_applied {N : Nat} {o : Option Nat} {S : SG_Pa_matched} {S' : SF_Pa_matched} (hS : SC_Pa_matched o S S') : ∀ n, (∀ (c : Nat → Nat) (m : MS) (u : CS) (v2 : Int32) (v3 : Int32) (v4 : Int32), RP o c m u → RF 0 o VE c u ((gg_Pa_applied N S n) u 33 v2 v3 v4) ((hg_Pa_applied N S' n) m v2 v3 v4)) := by
  intro n
  induction n with
  | zero => exact fun c m u v2 v3 v4 R => rf_none
  | succ n ih => exact fun c m u v2 v3 v4 R => yb_Pa_applied_38 (N := N) hS ih R
theorem ym_Pa_applied {N : Nat} {o : Option Nat} {c : Nat → Nat} {m : MS} {u : CS} {S : SG_Pa_matched} {S' : SF_Pa_matched} (hS : SC_Pa_matched o S S') (R : RP o c m u) {v1 : Int32} : RF 0 o VE c u (fm_Pa_applied N S u 33 v1) (hm_Pa_applied N S' m v1) := yb_Pa_applied_0 (N := N) hS (yg_Pa_applied (N := N) hS N) R
theorem yb_Pa_fun_0 {N : Nat} {o : Option Nat} {c : Nat → Nat} {m : MS} {u : CS} {S : SG_Pa_matched} {S' : SF_Pa_matched} (hS : SC_Pa_matched o S S') (R : RP o c m u) : RF 0 o VE c u (fb_Pa_fun_0 N S () u 33) (hb_Pa_fun_0 N S' () m) := by
  unfold fb_Pa_fun_0 hb_Pa_fun_0
  refine rf_bo (gx_33_5 R) ?_
  refine rf_bo (gx_33_5 R) ?_
  refine rf_w (px_33_5 R) (fun w3' w3 R_w3 => ?_)
  refine rf_ck (ox_33 R_w3) ?_
  refine rf_bT (ym_Pa_look R_w3) (fun u4' u4 r4 R_u4 => ?_)
  refine rf_br ?_ ?_
  · refine rf_bo (gx_33_5 R_u4) ?_
    refine rf_bo (gx_33_5 R_u4) ?_
    refine rf_w (px_33_5 R_u4) (fun w17' w17 R_w17 => ?_)
    refine rf_ck (ox_33 R_w17) ?_
    refine rf_bT (ym_Pa_need R_w17) (fun u18' u18 r18 R_u18 => ?_)
    refine rf_ck (ox_33 R_u18) ?_
    refine rf_bT (ym_Pa_need R_u18) (fun u19' u19 r19 R_u19 => ?_)
    refine rf_bo (rx_33_1 R_u19) ?_
    refine rf_bo (rx_33_0 R_u19) ?_
    refine rf_so ?_
    refine rf_bo (rx_4_3 R_u19) ?_
    refine rf_so ?_
    refine rf_ai (ax_7 R_u19) ?_
    refine rf_bo (rx_33_0 R_u19) ?_
    refine rf_so ?_
    refine rf_bo (rx_4_3 R_u19) ?_
    refine rf_so ?_
    refine rf_ai (ax_7 R_u19) ?_
    refine rf_so ?_
    refine rf_ck (ox_15 R_u19) ?_
    refine rf_bx0 (ym_Tr_add R_u19) (fun u31' u31 r31 R_u31 => ?_)
    exact rf_ret R_u31 rfl
  · refine rf_ck (ox_33 R_u4) ?_
    refine rf_bT (ym_Pa_need R_u4) (fun u5' u5 r5 R_u5 => ?_)
    refine rf_bo (rx_33_2 R_u5) ?_
    refine rf_so ?_
    refine rf_ck (ox_22 R_u5) ?_
    refine rf_bx0 (ym_Co_addPlace R_u5) (fun u7' u7 r7 R_u7 => ?_)
    refine rf_ck (ox_33 R_u7) ?_
    refine rf_bT (hS.2.2.2.2.2.2.2.2.2.2.2.2.2.2.2.2.2.2.2 _ _ _ _ _ _ R_u7) (fun u9' u9 r9 R_u9 => ?_)
    refine rf_ck (ox_33 R_u9) ?_
    refine rf_bT (hS.2.2.2.2.2.1 _ _ _ _ _ R_u9) (fun u10' u10 r10 R_u10 => ?_)
    refine rf_ck (ox_33 R_u10) ?_
    refine rf_bT (ym_Pa_need R_u10) (fun u11' u11 r11 R_u11 => ?_)
    refine rf_bo (rx_33_1 R_u11) ?_
    refine rf_so ?_
    refine rf_ck (ox_15 R_u11) ?_
    refine rf_bx0 (ym_Tr_add R_u11) (fun u13' u13 r13 R_u13 => ?_)
    exact rf_ret R_u13 rfl
theorem ym_Pa_fun {N : Nat} {o : Option Nat} {c : Nat → Nat} {m : MS} {u : CS} {S : SG_Pa_matched} {S' : SF_Pa_matched} (hS : SC_Pa_matched o S S') (R : RP o c m u) : RF 0 o VE c u (fm_Pa_fun N S u 33) (hm_Pa_fun N S' m) := yb_Pa_fun_0 (N := N) hS R
theorem yb_Pa_receive_75 {N : Nat} {o : Option Nat} {c : Nat → Nat} {m : MS} {u : CS} {S : SG_Pa_matched} {S' : SF_Pa_matched} (hS : SC_Pa_matched o S S') (R : RP o c m u) {v1 : Int32} {v2 : Int32} {v3 : Int32} {v4 : Int32} : RF 0 o VE c u (fb_Pa_receive_75 N S () u 33 v1 v2 v3 v4) (hb_Pa_receive_75 N S' () m v1 v2 v3 v4) := by
  unfold fb_Pa_receive_75 hb_Pa_receive_75
  refine rf_ck (ox_33 R) ?_
  refine rf_bT (ym_Pa_need R) (fun u1' u1 r1 R_u1 => ?_)
  refine rf_bo (rx_33_1 R_u1) ?_
  refine rf_so ?_
  refine rf_ck (ox_15 R_u1) ?_
  refine rf_bx0 (ym_Tr_add R_u1) (fun u3' u3 r3 R_u3 => ?_)
  exact rf_ret R_u3 rfl
theorem yb_Pa_receive_32 {N : Nat} {o : Option Nat} {c : Nat → Nat} {m : MS} {u : CS} {S : SG_Pa_matched} {S' : SF_Pa_matched} (hS : SC_Pa_matched o S S') (R : RP o c m u) {v1 : Int32} {t0 : Int32} : RF 0 o VE c u (fb_Pa_receive_32 N S () u 33 v1 t0) (hb_Pa_receive_32 N S' () m v1 t0) := by
  unfold fb_Pa_receive_32 hb_Pa_receive_32
  refine rf_ck (ox_33 R) ?_
  refine rf_bT (ym_Pa_look R) (fun u5' u5 r5 R_u5 => ?_)
  refine rf_br ?_ ?_
  · refine rf_bo (gx_33_5 R_u5) ?_
    refine rf_w (px_33_5 R_u5) (fun w7' w7 R_w7 => ?_)
    refine rf_ck (ox_33 R_w7) ?_
    refine rf_bT (hS.2.2.2.2.2.2.2.2.2.2.2.2.2.2.1 _ _ _ _ R_w7) (fun u8' u8 r8 R_u8 => ?_)
    refine rf_ck (ox_33 R_u8) ?_
    refine rf_bT (ym_Pa_need R_u8) (fun u9' u9 r9 R_u9 => ?_)
    refine rf_ck (ox_33 R_u9) ?_
    refine rf_bT (hS.2.2.2.2.2.2.2.2.2.1 _ _ _ R_u9) (fun u10' u10 r10 R_u10 => ?_)
    exact (yb_Pa_receive_75 hS R_u10)
  · exact (yb_Pa_receive_75 hS R_u5)
theorem yb_Pa_receive_0 {N : Nat} {o : Option Nat} {c : Nat → Nat} {m : MS} {u : CS} {S : SG_Pa_matched} {S' : SF_Pa_matched} (hS : SC_Pa_matched o S S') (R : RP o c m u) : RF 0 o VE c u (fb_Pa_receive_0 N S () u 33) (hb_Pa_receive_0 N S' () m) := by
  unfold fb_Pa_receive_0 hb_Pa_receive_0
  refine rf_bo (gx_33_5 R) ?_
  refine rf_bo (gx_33_5 R) ?_
  refine rf_w (px_33_5 R) (fun w13' w13 R_w13 => ?_)
  refine rf_ck (ox_33 R_w13) ?_
  refine rf_bT (ym_Pa_look R_w13) (fun u14' u14 r14 R_u14 => ?_)
  refine rf_br ?_ ?_
  · exact (yb_Pa_receive_32 hS R_u14)
  · refine rf_ck (ox_33 R_u14) ?_
    refine rf_bT (hS.2.2.2.2.2.2.2.1 _ _ _ _ R_u14) (fun u15' u15 r15 R_u15 => ?_)
    exact (yb_Pa_receive_32 hS R_u15)
theorem ym_Pa_receive {N : Nat} {o : Option Nat} {c : Nat → Nat} {m : MS} {u : CS} {S : SG_Pa_matched} {S' : SF_Pa_matched} (hS : SC_Pa_matched o S S') (R : RP o c m u) : RF 0 o VE c u (fm_Pa_receive N S u 33) (hm_Pa_receive N S' m) := yb_Pa_receive_0 (N := N) hS R
theorem yb_Pa_choice_0 {N : Nat} {o : Option Nat} {c : Nat → Nat} {m : MS} {u : CS} {S : SG_Pa_matched} {S' : SF_Pa_matched} (hS : SC_Pa_matched o S S') (R : RP o c m u) : RF 0 o VE c u (fb_Pa_choice_0 N S () u 33) (hb_Pa_choice_0 N S' () m) := by
  unfold fb_Pa_choice_0 hb_Pa_choice_0
  refine rf_bo (gx_33_5 R) ?_
  refine rf_ck (ox_33 R) ?_
  refine rf_bT (hS.2.2.2.2.2.2.2.2.2.2.2.2.2.2.2.2.2.2.1 _ _ _ _ _ R) (fun u2' u2 r2 R_u2 => ?_)
  refine rf_ck (ox_33 R_u2) ?_
  refine rf_bT (ym_Pa_need R_u2) (fun u3' u3 r3 R_u3 => ?_)
  refine rf_bo (rx_33_1 R_u3) ?_
  refine rf_ck (ox_33 R_u3) ?_
  refine rf_bT (hS.2.2.2.2.2.2.2.2.2.1 _ _ _ R_u3) (fun u5' u5 r5 R_u5 => ?_)
  refine rf_so ?_
  refine rf_ck (ox_15 R_u5) ?_
  refine rf_bx0 (ym_Tr_add R_u5) (fun u6' u6 r6 R_u6 => ?_)
  exact rf_ret R_u6 rfl
theorem ym_Pa_choice {N : Nat} {o : Option Nat} {c : Nat → Nat} {m : MS} {u : CS} {S : SG_Pa_matched} {S' : SF_Pa_matched} (hS : SC_Pa_matched o S S') (R : RP o c m u) : RF 0 o VE c u (fm_Pa_choice N S u 33) (hm_Pa_choice N S' m) := yb_Pa_choice_0 (N := N) hS R
theorem yb_Pa_part_30 {N : Nat} {o : Option Nat} {c : Nat → Nat} {m : MS} {u : CS} {S : SG_Pa_matched} {S' : SF_Pa_matched} (hS : SC_Pa_matched o S S') (R : RP o c m u) {v1 : Int32} {v2 : Int32} {v3 : Int32} : RF 0 o VE c u (fb_Pa_part_30 N S () u 33 v1 v2 v3) (hb_Pa_part_30 N S' () m v1 v2 v3) := by
  unfold fb_Pa_part_30 hb_Pa_part_30
  refine rf_ck (ox_33 R) ?_
  refine rf_bT (ym_Pa_need R) (fun u1' u1 r1 R_u1 => ?_)
  refine rf_bo (rx_33_1 R_u1) ?_
  refine rf_ck (ox_33 R_u1) ?_
  refine rf_bT (hS.2.2.2.2.2.2.2.2.2.1 _ _ _ R_u1) (fun u3' u3 r3 R_u3 => ?_)
  refine rf_so ?_
  refine rf_ck (ox_15 R_u3) ?_
  refine rf_bx0 (ym_Tr_add R_u3) (fun u4' u4 r4 R_u4 => ?_)
  exact rf_ret R_u4 rfl
theorem yb_Pa_part_0 {N : Nat} {o : Option Nat} {c : Nat → Nat} {m : MS} {u : CS} {S : SG_Pa_matched} {S' : SF_Pa_matched} (hS : SC_Pa_matched o S S') (R : RP o c m u) {v1 : Int32} {v2 : Int32} : RF 0 o VE c u (fb_Pa_part_0 N S () u 33 v1 v2) (hb_Pa_part_0 N S' () m v1 v2) := by
  unfold fb_Pa_part_0 hb_Pa_part_0
  refine rf_ck (ox_33 R) ?_
  refine rf_bT (ym_Pa_look R) (fun u6' u6 r6 R_u6 => ?_)
  refine rf_br ?_ ?_
  · refine rf_bo (gx_33_5 R_u6) ?_
    refine rf_w (px_33_5 R_u6) (fun w8' w8 R_w8 => ?_)
    refine rf_ck (ox_33 R_w8) ?_
    refine rf_bT (hS.2.2.2.2.2.2.2.2.2.2.2.2.2.2.2.2.2.2.1 _ _ _ _ _ R_w8) (fun u9' u9 r9 R_u9 => ?_)
    exact (yb_Pa_part_30 hS R_u9)
  · exact (yb_Pa_part_30 hS R_u6)
theorem ym_Pa_part {N : Nat} {o : Option Nat} {c : Nat → Nat} {m : MS} {u : CS} {S : SG_Pa_matched} {S' : SF_Pa_matched} (hS : SC_Pa_matched o S S') (R : RP o c m u) {v1 : Int32} {v2 : Int32} : RF 0 o VE c u (fm_Pa_part N S u 33 v1 v2) (hm_Pa_part N S' m v1 v2) := yb_Pa_part_0 (N := N) hS R
theorem yb_Pa_oneCase_0 {N : Nat} {o : Option Nat} {c : Nat → Nat} {m : MS} {u : CS} {S : SG_Pa_matched} {S' : SF_Pa_matched} (hS : SC_Pa_matched o S S') (R : RP o c m u) : RF 0 o VE c u (fb_Pa_oneCase_0 N S () u 33) (hb_Pa_oneCase_0 N S' () m) := by
  unfold fb_Pa_oneCase_0 hb_Pa_oneCase_0
  refine rf_bo (gx_33_5 R) ?_
  refine rf_ck (ox_33 R) ?_
  refine rf_bT (hS.2.2.2.2.2.2.2.2.2.2.2.2.2.2.2.2.2.1 _ _ _ R) (fun u2' u2 r2 R_u2 => ?_)
  refine rf_ck (ox_33 R_u2) ?_
  refine rf_bT (hS.2.2.2.2.2.1 _ _ _ _ _ R_u2) (fun u3' u3 r3 R_u3 => ?_)
  exact rf_ret R_u3 rfl
theorem ym_Pa_oneCase {N : Nat} {o : Option Nat} {c : Nat → Nat} {m : MS} {u : CS} {S : SG_Pa_matched} {S' : SF_Pa_matched} (hS : SC_Pa_matched o S S') (R : RP o c m u) : RF 0 o VE c u (fm_Pa_oneCase N S u 33) (hm_Pa_oneCase N S' m) := yb_Pa_oneCase_0 (N := N) hS R
theorem yb_Pa_parts_75 {N : Nat} {o : Option Nat} {c : Nat → Nat} {m : MS} {u : CS} {S : SG_Pa_matched} {S' : SF_Pa_matched} {G : (CS → Nat → Int32 → Int32 → Int32 → Int32 → Option (CS × (Int32 ⊕ Nat)))} {G' : (MS → Int32 → Int32 → Int32 → Int32 → Option (MS × (Int32 ⊕ Nat)))} (hS : SC_Pa_matched o S S') (hG : ∀ (c : Nat → Nat) (m : MS) (u : CS) (v1 : Int32) (v2 : Int32) (v3 : Int32) (v4 : Int32), RP o c m u → RF 0 o VE c u (G u 33 v1 v2 v3 v4) (G' m v1 v2 v3 v4)) (R : RP o c m u) {v2 : Int32} : RF 0 o VE c u (fb_Pa_parts_75 N S G u v2) (hb_Pa_parts_75 N S' G' m v2) := by
  unfold fb_Pa_parts_75 hb_Pa_parts_75
  exact rf_ret R rfl
theorem yb_Pa_parts_65 {N : Nat} {o : Option Nat} {c : Nat → Nat} {m : MS} {u : CS} {S : SG_Pa_matched} {S' : SF_Pa_matched} {G : (CS → Nat → Int32 → Int32 → Int32 → Int32 → Option (CS × (Int32 ⊕ Nat)))} {G' : (MS → Int32 → Int32 → Int32 → Int32 → Option (MS × (Int32 ⊕ Nat)))} (hS : SC_Pa_matched o S S') (hG : ∀ (c : Nat → Nat) (m : MS) (u : CS) (v1 : Int32) (v2 : Int32) (v3 : Int32) (v4 : Int32), RP o c m u → RF 0 o VE c u (G u 33 v1 v2 v3 v4) (G' m v1 v2 v3 v4)) (R : RP o c m u) {v1 : Int32} {v2 : Int32} {v4 : Int32} {t1 : Int32} {t2 : Int32} : RF 0 o VE c u (fb_Pa_parts_65 N S G u 33 v1 v2 v4 33 t1 t2) (hb_Pa_parts_65 N S' G' m v1 v2 v4 t1 t2) := by
  unfold fb_Pa_parts_65 hb_Pa_parts_65
  refine rf_ck (ox_33 R) ?_
  refine rf_bx0 (ym_Pa_chain R) (fun u1' u1 r1 R_u1 => ?_)
  exact (hG _ _ _ _ _ _ _ R_u1)
theorem yb_Pa_parts_21 {N : Nat} {o : Option Nat} {c : Nat → Nat} {m : MS} {u : CS} {S : SG_Pa_matched} {S' : SF_Pa_matched} {G : (CS → Nat → Int32 → Int32 → Int32 → Int32 → Option (CS × (Int32 ⊕ Nat)))} {G' : (MS → Int32 → Int32 → Int32 → Int32 → Option (MS × (Int32 ⊕ Nat)))} (hS : SC_Pa_matched o S S') (hG : ∀ (c : Nat → Nat) (m : MS) (u : CS) (v1 : Int32) (v2 : Int32) (v3 : Int32) (v4 : Int32), RP o c m u → RF 0 o VE c u (G u 33 v1 v2 v3 v4) (G' m v1 v2 v3 v4)) (R : RP o c m u) {v1 : Int32} {v2 : Int32} {v3 : Int32} {v4 : Int32} : RF 0 o VE c u (fb_Pa_parts_21 N S G u 33 v1 v2 v3 v4) (hb_Pa_parts_21 N S' G' m v1 v2 v3 v4) := by
  unfold fb_Pa_parts_21 hb_Pa_parts_21
  refine rf_br ?_ ?_
  · exact (yb_Pa_parts_75 hS hG R)
  · refine rf_ck (ox_33 R) ?_
    refine rf_bT (ym_Pa_look R) (fun u2' u2 r2 R_u2 => ?_)
    refine rf_br ?_ ?_
    · refine rf_bo (gx_33_5 R_u2) ?_
      refine rf_w (px_33_5 R_u2) (fun w4' w4 R_w4 => ?_)
      refine rf_br ?_ ?_
      · refine rf_ck (ox_33 R_w4) ?_
        refine rf_bT (hS.2.2.2.2.1 _ _ _ R_w4) (fun u5' u5 r5 R_u5 => ?_)
        exact (yb_Pa_parts_65 hS hG R_u5)
      · refine rf_ck (ox_33 R_w4) ?_
        refine rf_bT (hS.2.2.2.2.2.2.1 _ _ _ R_w4) (fun u6' u6 r6 R_u6 => ?_)
        exact (yb_Pa_parts_65 hS hG R_u6)
    · exact (yb_Pa_parts_75 hS hG R_u2)
theorem yb_Pa_parts_15 {N : Nat} {o : Option Nat} {c : Nat → Nat} {m : MS} {u : CS} {S : SG_Pa_matched} {S' : SF_Pa_matched} {G : (CS → Nat → Int32 → Int32 → Int32 → Int32 → Option (CS × (Int32 ⊕ Nat)))} {G' : (MS → Int32 → Int32 → Int32 → Int32 → Option (MS × (Int32 ⊕ Nat)))} (hS : SC_Pa_matched o S S') (hG : ∀ (c : Nat → Nat) (m : MS) (u : CS) (v1 : Int32) (v2 : Int32) (v3 : Int32) (v4 : Int32), RP o c m u → RF 0 o VE c u (G u 33 v1 v2 v3 v4) (G' m v1 v2 v3 v4)) (R : RP o c m u) {v1 : Int32} {t0 : Int32} : RF 0 o VE c u (fb_Pa_parts_15 N S G u 33 v1 t0) (hb_Pa_parts_15 N S' G' m v1 t0) := by
  unfold fb_Pa_parts_15 hb_Pa_parts_15
  exact (hG _ _ _ _ _ _ _ R)
theorem yb_Pa_parts_0 {N : Nat} {o : Option Nat} {c : Nat → Nat} {m : MS} {u : CS} {S : SG_Pa_matched} {S' : SF_Pa_matched} {G : (CS → Nat → Int32 → Int32 → Int32 → Int32 → Option (CS × (Int32 ⊕ Nat)))} {G' : (MS → Int32 → Int32 → Int32 → Int32 → Option (MS × (Int32 ⊕ Nat)))} (hS : SC_Pa_matched o S S') (hG : ∀ (c : Nat → Nat) (m : MS) (u : CS) (v1 : Int32) (v2 : Int32) (v3 : Int32) (v4 : Int32), RP o c m u → RF 0 o VE c u (G u 33 v1 v2 v3 v4) (G' m v1 v2 v3 v4)) (R : RP o c m u) {v1 : Int32} : RF 0 o VE c u (fb_Pa_parts_0 N S G u 33 v1) (hb_Pa_parts_0 N S' G' m v1) := by
  unfold fb_Pa_parts_0 hb_Pa_parts_0
  refine rf_br ?_ ?_
  · refine rf_ck (ox_33 R) ?_
    refine rf_bT (hS.2.2.2.2.1 _ _ _ R) (fun u7' u7 r7 R_u7 => ?_)
    exact (yb_Pa_parts_15 hS hG R_u7)
  · refine rf_ck (ox_33 R) ?_
    refine rf_bT (hS.2.2.2.2.2.2.1 _ _ _ R) (fun u8' u8 r8 R_u8 => ?_)
    exact (yb_Pa_parts_15 hS hG R_u8)
theorem yg_Pa_parts {N : Nat} {o : Option Nat} {S : SG_Pa_matched} {S' : SF_Pa_matched} (hS : SC_Pa_matched o S S') : ∀ n, (∀ (c : Nat → Nat) (m : MS) (u : CS) (v1 : Int32) (v2 : Int32) (v3 : Int32) (v4 : Int32), RP o c m u → RF 0 o VE c u ((gg_Pa_parts N S n) u 33 v1 v2 v3 v4) ((hg_Pa_parts N S' n) m v1 v2 v3 v4)) := by
  intro n
  induction n with
  | zero => exact fun c m u v1 v2 v3 v4 R => rf_none
  | succ n ih => exact fun c m u v1 v2 v3 v4 R => yb_Pa_parts_21 (N := N) hS ih R
theorem ym_Pa_parts {N : Nat} {o : Option Nat} {c : Nat → Nat} {m : MS} {u : CS} {S : SG_Pa_matched} {S' : SF_Pa_matched} (hS : SC_Pa_matched o S S') (R : RP o c m u) {v1 : Int32} : RF 0 o VE c u (fm_Pa_parts N S u 33 v1) (hm_Pa_parts N S' m v1) := yb_Pa_parts_0 (N := N) hS (yg_Pa_parts (N := N) hS N) R
theorem yb_Pa_caseOf_0 {N : Nat} {o : Option Nat} {c : Nat → Nat} {m : MS} {u : CS} {S : SG_Pa_matched} {S' : SF_Pa_matched} (hS : SC_Pa_matched o S S') (R : RP o c m u) : RF 0 o VE c u (fb_Pa_caseOf_0 N S () u 33) (hb_Pa_caseOf_0 N S' () m) := by
  unfold fb_Pa_caseOf_0 hb_Pa_caseOf_0
  refine rf_bo (gx_33_5 R) ?_
  refine rf_bo (gx_33_5 R) ?_
  refine rf_w (px_33_5 R) (fun w3' w3 R_w3 => ?_)
  refine rf_ck (ox_33 R_w3) ?_
  refine rf_bT (hS.2.2.2.2.2.2.2.2.2.2.2.2.2.2.1 _ _ _ _ R_w3) (fun u4' u4 r4 R_u4 => ?_)
  refine rf_ck (ox_33 R_u4) ?_
  refine rf_bT (ym_Pa_need R_u4) (fun u5' u5 r5 R_u5 => ?_)
  refine rf_ck (ox_33 R_u5) ?_
  refine rf_bT (hS.2.2.2.2.2.2.2.1 _ _ _ _ R_u5) (fun u6' u6 r6 R_u6 => ?_)
  refine rf_ck (ox_33 R_u6) ?_
  refine rf_bT (ym_Pa_need R_u6) (fun u7' u7 r7 R_u7 => ?_)
  refine rf_bo (rx_33_1 R_u7) ?_
  refine rf_so ?_
  refine rf_ck (ox_15 R_u7) ?_
  refine rf_bx0 (ym_Tr_add R_u7) (fun u9' u9 r9 R_u9 => ?_)
  exact rf_ret R_u9 rfl
theorem ym_Pa_caseOf {N : Nat} {o : Option Nat} {c : Nat → Nat} {m : MS} {u : CS} {S : SG_Pa_matched} {S' : SF_Pa_matched} (hS : SC_Pa_matched o S S') (R : RP o c m u) : RF 0 o VE c u (fm_Pa_caseOf N S u 33) (hm_Pa_caseOf N S' m) := yb_Pa_caseOf_0 (N := N) hS R
theorem yb_Pa_body_25 {N : Nat} {o : Option Nat} {c : Nat → Nat} {m : MS} {u : CS} {S : SG_Pa_matched} {S' : SF_Pa_matched} (hS : SC_Pa_matched o S S') (R : RP o c m u) {t1 : Int32} : RF 0 o VE c u (fb_Pa_body_25 N S () u 33 33 t1) (hb_Pa_body_25 N S' () m t1) := by
  unfold fb_Pa_body_25 hb_Pa_body_25
  refine rf_ck (ox_33 R) ?_
  refine rf_bT (ym_Pa_opens R) (fun u1' u1 r1 R_u1 => ?_)
  refine rf_ck (ox_33 R_u1) ?_
  refine rf_bT (hS.2.2.2.2.2.2.2.2.2.2.2.2.2.2.2.2.2.2.1 _ _ _ _ _ R_u1) (fun u2' u2 r2 R_u2 => ?_)
  refine rf_bo (gx_33_6 R_u2) ?_
  refine rf_w (px_33_6 R_u2) (fun w4' w4 R_w4 => ?_)
  exact rf_ret R_w4 rfl
theorem yb_Pa_body_20 {N : Nat} {o : Option Nat} {c : Nat → Nat} {m : MS} {u : CS} {S : SG_Pa_matched} {S' : SF_Pa_matched} (hS : SC_Pa_matched o S S') (R : RP o c m u) : RF 0 o VE c u (fb_Pa_body_20 N S () u 33 33) (hb_Pa_body_20 N S' () m) := by
  unfold fb_Pa_body_20 hb_Pa_body_20
  exact (yb_Pa_body_25 hS R)
theorem yb_Pa_body_0 {N : Nat} {o : Option Nat} {c : Nat → Nat} {m : MS} {u : CS} {S : SG_Pa_matched} {S' : SF_Pa_matched} (hS : SC_Pa_matched o S S') (R : RP o c m u) : RF 0 o VE c u (fb_Pa_body_0 N S () u 33) (hb_Pa_body_0 N S' () m) := by
  unfold fb_Pa_body_0 hb_Pa_body_0
  refine rf_ck (ox_33 R) ?_
  refine rf_bT (ym_Pa_look R) (fun u5' u5 r5 R_u5 => ?_)
  refine rf_bx0 (ym_Pa_beginsUnit R_u5) (fun u6' u6 r6 R_u6 => ?_)
  refine rf_br ?_ ?_
  · refine rf_ck (ox_33 R_u6) ?_
    refine rf_bT (ym_Pa_look R_u6) (fun u7' u7 r7 R_u7 => ?_)
    refine rf_br ?_ ?_
    · exact (yb_Pa_body_20 hS R_u7)
    · exact (yb_Pa_body_25 hS R_u7)
  · exact (yb_Pa_body_20 hS R_u6)
theorem ym_Pa_body {N : Nat} {o : Option Nat} {c : Nat → Nat} {m : MS} {u : CS} {S : SG_Pa_matched} {S' : SF_Pa_matched} (hS : SC_Pa_matched o S S') (R : RP o c m u) : RF 0 o VE c u (fm_Pa_body N S u 33) (hm_Pa_body N S' m) := yb_Pa_body_0 (N := N) hS R
theorem yb_Pa_atomOrCall_0 {N : Nat} {o : Option Nat} {c : Nat → Nat} {m : MS} {u : CS} {S : SG_Pa_matched} {S' : SF_Pa_matched} (hS : SC_Pa_matched o S S') (R : RP o c m u) : RF 0 o VE c u (fb_Pa_atomOrCall_0 N S () u 33) (hb_Pa_atomOrCall_0 N S' () m) := by
  unfold fb_Pa_atomOrCall_0 hb_Pa_atomOrCall_0
  refine rf_bo (gx_33_5 R) ?_
  refine rf_ck (ox_33 R) ?_
  refine rf_bx0 (ym_Pa_leaf R) (fun u2' u2 r2 R_u2 => ?_)
  refine rf_ck (ox_33 R_u2) ?_
  refine rf_bT (ym_Pa_look R_u2) (fun u3' u3 r3 R_u3 => ?_)
  refine rf_br ?_ ?_
  · refine rf_bo (gx_33_5 R_u3) ?_
    refine rf_w (px_33_5 R_u3) (fun w5' w5 R_w5 => ?_)
    refine rf_ck (ox_33 R_w5) ?_
    refine rf_bT (hS.2.2.2.2.2.2.2.2.2.2.2.2.2.2.2.2.2.2.2 _ _ _ _ _ _ R_w5) (fun u6' u6 r6 R_u6 => ?_)
    refine rf_bo (rx_33_1 R_u6) ?_
    refine rf_bo (rx_33_0 R_u6) ?_
    refine rf_so ?_
    refine rf_bo (rx_4_3 R_u6) ?_
    refine rf_so ?_
    refine rf_ai (ax_7 R_u6) ?_
    refine rf_bo (rx_33_1 R_u6) ?_
    refine rf_so ?_
    refine rf_ck (ox_15 R_u6) ?_
    refine rf_bx0 (ym_Tr_length R_u6) (fun u14' u14 r14 R_u14 => ?_)
    refine rf_so ?_
    refine rf_ck (ox_15 R_u14) ?_
    refine rf_bx0 (ym_Tr_add R_u14) (fun u16' u16 r16 R_u16 => ?_)
    exact rf_ret R_u16 rfl
  · exact rf_ret R_u3 rfl
theorem ym_Pa_atomOrCall {N : Nat} {o : Option Nat} {c : Nat → Nat} {m : MS} {u : CS} {S : SG_Pa_matched} {S' : SF_Pa_matched} (hS : SC_Pa_matched o S S') (R : RP o c m u) : RF 0 o VE c u (fm_Pa_atomOrCall N S u 33) (hm_Pa_atomOrCall N S' m) := yb_Pa_atomOrCall_0 (N := N) hS R
theorem yb_Pa_primary_0 {N : Nat} {o : Option Nat} {c : Nat → Nat} {m : MS} {u : CS} {S : SG_Pa_matched} {S' : SF_Pa_matched} (hS : SC_Pa_matched o S S') (R : RP o c m u) : RF 0 o VE c u (fb_Pa_primary_0 N S () u 33) (hb_Pa_primary_0 N S' () m) := by
  unfold fb_Pa_primary_0 hb_Pa_primary_0
  refine rf_bo (gx_33_5 R) ?_
  refine rf_ck (ox_33 R) ?_
  refine rf_bT (ym_Pa_look R) (fun u2' u2 r2 R_u2 => ?_)
  refine rf_br ?_ ?_
  · refine rf_ck (ox_33 R_u2) ?_
    refine rf_bx0 (ym_Pa_leaf R_u2) (fun u3' u3 r3 R_u3 => ?_)
    exact rf_ret R_u3 rfl
  · refine rf_br ?_ ?_
    · refine rf_ck (ox_33 R_u2) ?_
      refine rf_bT (hS.2.2.2.2.2.2.2.2.2.2.1 _ _ _ R_u2) (fun u4' u4 r4 R_u4 => ?_)
      exact rf_ret R_u4 rfl
    · refine rf_br ?_ ?_
      · refine rf_ck (ox_33 R_u2) ?_
        refine rf_bx0 (ym_Pa_leaf R_u2) (fun u5' u5 r5 R_u5 => ?_)
        exact rf_ret R_u5 rfl
      · refine rf_br ?_ ?_
        · refine rf_ck (ox_33 R_u2) ?_
          refine rf_bx0 (ym_Pa_leaf R_u2) (fun u6' u6 r6 R_u6 => ?_)
          exact rf_ret R_u6 rfl
        · refine rf_br ?_ ?_
          · refine rf_ck (ox_33 R_u2) ?_
            refine rf_bT (ym_Pa_refuse R_u2) (fun u7' u7 r7 R_u7 => ?_)
            exact rf_ret R_u7 rfl
          · refine rf_br ?_ ?_
            · refine rf_ck (ox_33 R_u2) ?_
              refine rf_bT (ym_Pa_refuse R_u2) (fun u8' u8 r8 R_u8 => ?_)
              exact rf_ret R_u8 rfl
            · refine rf_br ?_ ?_
              · refine rf_bo (gx_33_5 R_u2) ?_
                refine rf_w (px_33_5 R_u2) (fun w10' w10 R_w10 => ?_)
                refine rf_ck (ox_33 R_w10) ?_
                refine rf_bT (hS.2.2.2.2.2.2.2.2.2.1 _ _ _ R_w10) (fun u11' u11 r11 R_u11 => ?_)
                refine rf_ck (ox_33 R_u11) ?_
                refine rf_bT (ym_Pa_need R_u11) (fun u12' u12 r12 R_u12 => ?_)
                refine rf_bo (rx_33_1 R_u12) ?_
                refine rf_so ?_
                refine rf_ck (ox_15 R_u12) ?_
                refine rf_bx0 (ym_Tr_add R_u12) (fun u14' u14 r14 R_u14 => ?_)
                exact rf_ret R_u14 rfl
              · refine rf_br ?_ ?_
                · refine rf_ck (ox_33 R_u2) ?_
                  refine rf_bT (hS.2.2.2.2.2.2.2.2.1 _ _ _ R_u2) (fun u16' u16 r16 R_u16 => ?_)
                  exact rf_ret R_u16 rfl
                · refine rf_br ?_ ?_
                  · refine rf_ck (ox_33 R_u2) ?_
                    refine rf_bT (ym_Pa_refuse R_u2) (fun u17' u17 r17 R_u17 => ?_)
                    exact rf_ret R_u17 rfl
                  · refine rf_br ?_ ?_
                    · refine rf_ck (ox_33 R_u2) ?_
                      refine rf_bT (ym_Pa_refuse R_u2) (fun u18' u18 r18 R_u18 => ?_)
                      exact rf_ret R_u18 rfl
                    · refine rf_br ?_ ?_
                      · refine rf_ck (ox_33 R_u2) ?_
                        refine rf_bT (ym_Pa_refuse R_u2) (fun u19' u19 r19 R_u19 => ?_)
                        exact rf_ret R_u19 rfl
                      · refine rf_br ?_ ?_
                        · refine rf_ck (ox_33 R_u2) ?_
                          refine rf_bT (hS.2.2.1 _ _ _ R_u2) (fun u20' u20 r20 R_u20 => ?_)
                          exact rf_ret R_u20 rfl
                        · refine rf_br ?_ ?_
                          · refine rf_bo (gx_33_5 R_u2) ?_
                            refine rf_w (px_33_5 R_u2) (fun w22' w22 R_w22 => ?_)
                            refine rf_ck (ox_33 R_w22) ?_
                            refine rf_bT (hS.2.2.2.2.2.2.2.1 _ _ _ _ R_w22) (fun u23' u23 r23 R_u23 => ?_)
                            refine rf_ck (ox_33 R_u23) ?_
                            refine rf_bT (ym_Pa_need R_u23) (fun u24' u24 r24 R_u24 => ?_)
                            refine rf_bo (rx_33_1 R_u24) ?_
                            refine rf_so ?_
                            refine rf_ck (ox_15 R_u24) ?_
                            refine rf_bx0 (ym_Tr_add R_u24) (fun u26' u26 r26 R_u26 => ?_)
                            exact rf_ret R_u26 rfl
                          · refine rf_br ?_ ?_
                            · refine rf_ck (ox_33 R_u2) ?_
                              refine rf_bT (ym_Pa_refuse R_u2) (fun u28' u28 r28 R_u28 => ?_)
                              exact rf_ret R_u28 rfl
                            · refine rf_br ?_ ?_
                              · refine rf_ck (ox_33 R_u2) ?_
                                refine rf_bT (ym_Pa_refuse R_u2) (fun u29' u29 r29 R_u29 => ?_)
                                exact rf_ret R_u29 rfl
                              · refine rf_br ?_ ?_
                                · refine rf_ck (ox_33 R_u2) ?_
                                  refine rf_bT (ym_Pa_refuse R_u2) (fun u30' u30 r30 R_u30 => ?_)
                                  exact rf_ret R_u30 rfl
                                · refine rf_br ?_ ?_
                                  · refine rf_ck (ox_33 R_u2) ?_
                                    refine rf_bT (hS.2.2.2.1 _ _ _ R_u2) (fun u31' u31 r31 R_u31 => ?_)
                                    exact rf_ret R_u31 rfl
                                  · refine rf_br ?_ ?_
                                    · refine rf_ck (ox_33 R_u2) ?_
                                      refine rf_bT (ym_Pa_refuse R_u2) (fun u32' u32 r32 R_u32 => ?_)
                                      exact rf_ret R_u32 rfl
                                    · refine rf_br ?_ ?_
                                      · refine rf_ck (ox_33 R_u2) ?_
                                        refine rf_bT (ym_Pa_refuse R_u2) (fun u33' u33 r33 R_u33 => ?_)
                                        exact rf_ret R_u33 rfl
                                      · refine rf_br ?_ ?_
                                        · refine rf_bo (gx_33_5 R_u2) ?_
                                          refine rf_w (px_33_5 R_u2) (fun w35' w35 R_w35 => ?_)
                                          refine rf_ck (ox_33 R_w35) ?_
                                          refine rf_bT (hS.2.2.2.2.2.2.2.2.2.2.2.2.2.2.1 _ _ _ _ R_w35) (fun u36' u36 r36 R_u36 => ?_)
                                          refine rf_ck (ox_33 R_u36) ?_
                                          refine rf_bT (ym_Pa_need R_u36) (fun u37' u37 r37 R_u37 => ?_)
                                          refine rf_bo (rx_33_1 R_u37) ?_
                                          refine rf_so ?_
                                          refine rf_ck (ox_15 R_u37) ?_
                                          refine rf_bx0 (ym_Tr_add R_u37) (fun u39' u39 r39 R_u39 => ?_)
                                          exact rf_ret R_u39 rfl
                                        · refine rf_br ?_ ?_
                                          · refine rf_ck (ox_33 R_u2) ?_
                                            refine rf_bT (ym_Pa_refuse R_u2) (fun u41' u41 r41 R_u41 => ?_)
                                            exact rf_ret R_u41 rfl
                                          · refine rf_br ?_ ?_
                                            · refine rf_ck (ox_33 R_u2) ?_
                                              refine rf_bT (hS.2.2.2.2.2.2.2.2.2.2.2.2.2.2.2.2.1 _ _ _ _ R_u2) (fun u42' u42 r42 R_u42 => ?_)
                                              exact rf_ret R_u42 rfl
                                            · refine rf_br ?_ ?_
                                              · refine rf_ck (ox_33 R_u2) ?_
                                                refine rf_bT (ym_Pa_refuse R_u2) (fun u43' u43 r43 R_u43 => ?_)
                                                exact rf_ret R_u43 rfl
                                              · refine rf_br ?_ ?_
                                                · refine rf_ck (ox_33 R_u2) ?_
                                                  refine rf_bT (hS.2.2.2.2.2.2.2.2.2.2.2.2.2.2.2.1 _ _ _ _ R_u2) (fun u44' u44 r44 R_u44 => ?_)
                                                  exact rf_ret R_u44 rfl
                                                · refine rf_ck (ox_33 R_u2) ?_
                                                  refine rf_bT (ym_Pa_refuse R_u2) (fun u45' u45 r45 R_u45 => ?_)
                                                  exact rf_ret R_u45 rfl
theorem ym_Pa_primary {N : Nat} {o : Option Nat} {c : Nat → Nat} {m : MS} {u : CS} {S : SG_Pa_matched} {S' : SF_Pa_matched} (hS : SC_Pa_matched o S S') (R : RP o c m u) : RF 0 o VE c u (fm_Pa_primary N S u 33) (hm_Pa_primary N S' m) := yb_Pa_primary_0 (N := N) hS R
