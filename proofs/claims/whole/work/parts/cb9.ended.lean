/-! a link with one that has ENDED, a watch of one that has ENDED -/
set_option maxRecDepth 100000
section
variable {α β : Type} {b : Int → Nat → Nat → Prop} {Fv Fv' : Int64 → Int64 → Prop} {P P' : Int64 → Prop} {N PR q p i j0 j U B W Y a n l : Nat} {m w w1 : MS} {nb : Nat → Nat} {Hs Os : Nat → List Nat} {y : Option (Nat × Nat × Nat)} {Q : MS → α → MS → β → Prop} {K1 : MS → Option (MS × α)} {K2 : MS → Option (MS × β)}
theorem tru_1 : fm_M_truth N w 1 = some (w, mk 1 0) := rfl
theorem dead_w (wl : WLs (RRp p) PR Fv P Fv' P' none i j0 m w) (hq : q < PR) (dead : F m (pq q 9) = 3) : A w 109 q = 3 := by
  rcases wl.2.2.1 q hq with h | h
  · exact absurd dead h.1
  · exact h.2.1
/-- a link with one that has ENDED -/
theorem op_linkE (hpp : p < PR) (hq : q < PR) (dead : F m (pq q 9) = 3) (wl : WLs (RRp p) PR Fv P Fv' P' none i j0 m w) (ru : RUs m w p j nb Hs Os y a n) (sc : SCs p m w) (hW : W + 1 ≤ 46000) (hl : F m (pq p 45) = ((l : Nat) : Int)) (hl2 : W + 1 ≤ l ∧ l ≤ 1000000) (pl : PLs b p m w1 U B (W + 1) Y) (e4 : so (m.2.2.2 (pq p 35) W) = 4) (g1 : FGw p j w w1) (h98 : A w1 98 (60 * p + j) = ((n + 1 : Nat) : Int)) (sf1 : SFs Fv P Fv' P' PR m w1) (cr : ∃ f, CRs (A m 23) (ROs w) (w.2.2.2 34) f y (a + 2) (n + 1) (Hs j) (Os j)) (hN : 3000000 ≤ N)
    (kA : ∀ b3 U3 Y3 m3 w3, (SFs Fv P Fv' P' PR m3 w3 → WLs (RRp p) PR Fv P Fv' P' none i j0 m3 w3) → PLs b3 p m3 w3 U3 B (W + 1) Y3 → RUs m3 w3 p j nb Hs Os y (a + 2) (n + 1) → WOs m w m3 w3 → PP Q (K1 m3) (K2 w3))
    (kD : ∀ m3 w3, (SFs Fv P Fv' P' PR m3 w3 → WLs (RRt p) PR Fv P Fv' P' none i j0 m3 w3) → F m3 (pq p 9) = 3 → A w3 109 p = 3 → WOs m w m3 w3 → (F m3 1109 = 0 ∧ F w3 133 = ((p : Nat) : Int)) → PP Q (K1 m3) (K2 w3)) : PP Q (bnd (hb_Ma_toward_95 N () m p (I 2) 1 (some q)) (fun u _ => K1 u)) (bnd (fb_M_processRun_151 N () w1 (I 2) 0 (I ((q : Nat) : Int)) 92 (I ((p : Nat) : Int)) (I ((W + 1 : Nat) : Int)) 1) (fun u _ => K2 u)) := by
  obtain ⟨⟨fa, ct⟩, ⟨r2, r3⟩, -, ⟨r5, r6⟩, r7, ⟨r8, r9, r10⟩, r11, r12, r13⟩ := id ru
  have hj : j < 60 := fa.1.2.2
  have p24 : PR ≤ 24 := wl.1.2.1.1.1.2
  have cb2 : a + 2 + 1 < 24000 := by
    obtain ⟨f9, cr9⟩ := cr
    exact (CR_b cr9).1
  have hal : F m (pq p 9) ≠ 3 := by rw [r5]; omega
  have hal' : A w 109 p ≠ 3 := by rw [r6]; omega
  have a9 : A w1 109 p ≠ 3 := by rw [FR.A g1.1 (by simp)]; exact hal'
  have dw : A w1 109 q = 3 := by rw [FR.A g1.1 (by simp)]; exact dead_w wl hq dead
  have x33 : F w1 133 = ((p : Nat) : Int) := by rw [FR.F g1.1 (by simp)]; exact r11
  have W1 : WLs (RRt p) PR Fv P Fv' P' none i j0 m w1 := WL_ownt (WL_t wl) hpp hal hal' sf1 GGm.rf (GGw_fg g1 hj) pl (SC_fg sc FGm.rf g1) ⟨hal, a9⟩
  have rb1 : RUb m w1 p j nb Hs Os y := RUb_fg (RUs_b ru) FGm.rf g1
  have Wv := WL_tv (l := l) W1 (⟨rb1, ⟨r2, h98⟩, pl.2.1.1, pl.2.2.1.1, hl⟩ : RUv p j nb Hs Os y a (n + 1) B (W + 1) l m w1)
  have ws := wl_sgl (N := N) Wv hpp hal hq dead dw hN
  have n1 : ¬ isH (mk 1 0) := nh_mk (by omega)
  have n6 : so (mk 1 0) = 6 → va (mk 1 0) = 0 := fun c => by rw [so_mk (by omega) (by omega)] at c; omega
  have rt := pl.2.2.1.2.2 W (by omega)
  have nx : ¬ isH (w1.2.2.2 91 (46000 * p + W)) := fun c => by
    have := (RTb_isH rt).mp c
    unfold isH at this
    omega
  have x92 : A (wa w1 92 p ((W : Nat) : Int)) 92 p = ((W : Nat) : Int) := wa_sm (by omega) (by omega)
  have y33 : F (wa w1 92 p ((W : Nat) : Int)) 133 = ((p : Nat) : Int) := x33
  rw [tw95_2, prr_2, sub1, tnI (n := p) rfl (by omega), wa_e, I_F' dead, show decide (I 3 = 3) = true from rfl, br_t, oI]
  refine rb_ck (fun _ => rb_ck (fun _ => ?_))
  rw [lt_e, tru_1, bnd_so]
  refine l_bb (r_bb ?_)
  refine r_bnd (pk_mo (put_r (N := N) (x := mk 1 0) (W := W) (by omega) y33 x92 (by omega)) (fun w8 _ e => ?_))
  subst e
  rw [zp_put pl.2.2.1.2.1]
  refine rb_ck (fun _ => ?_)
  have z109 : (Zp p W (mk 1 0) w1).2.2.1 109 q = I 3 := I_A' dw
  have z133 : (Zp p W (mk 1 0) w1).1 133 = I ((p : Nat) : Int) := I_F' x33
  rw [tnI (n := q) rfl (by omega), z109, show decide (I 3 = 3) = true from rfl, br_t, show fm_M_term N (Zp p W (mk 1 0) w1) 1 3 = some (Zp p W (mk 1 0) w1, mk 1 3) from rfl, bnd_so, z133]
  refine r_bb ?_
  refine pp_bb (fun m2 _ w4 _ e1 e2 => ?_)
  obtain ⟨w3, e3, rfl, -⟩ := zc_fm_M_signal (N := N) (p := p) (W := W) (x := mk 1 0) (u := w1) ⟨n1, nx⟩ rfl rfl rfl rfl rfl w4 () e2
  obtain ⟨W2, mv⟩ := ws m2 () w3 () e1 e3
  have ka : Kwac m m2 := ywa_hm_Wl_signal Kwa_rf m2 () e1
  have kb : Kwbc w1 w3 := ywb_fm_M_signal Kwb_rf w3 () e3
  have kc : Kwcc m m2 := ywc_hm_Wl_signal Kwc_rf m2 () e1
  have f26 : F m2 (pq p 26) = ((W + 1 : Nat) : Int) := (congrArg Int32.toInt (kc (pq p 26) ⟨by unfold pq; omega, by unfold pq; omega⟩)).trans pl.2.2.1.1
  have f45 : F m2 (pq p 45) = ((l : Nat) : Int) := (congrArg Int32.toInt (kc (pq p 45) ⟨by unfold pq; omega, by unfold pq; omega⟩)).trans hl
  have g33 : F w3 133 = ((p : Nat) : Int) := (congrArg Int32.toInt (mv.1.2.2 133 (by omega))).trans x33
  have f05 : F m2 1105 = ((a : Nat) : Int) := (congrArg Int32.toInt (mv.1.2.1 1105 (by omega) (by omega)).1).trans r2
  have f09 : F m2 1109 = 0 := (congrArg Int32.toInt (mv.1.2.1 1109 (by omega) (by omega)).1).trans r9
  have h23 : A m2 23 = A m 23 := by funext k; show (m2.2.2.1 23 k).toInt = _; rw [mv.1.1.1.1]; rfl
  have hRO : ROs w3 = ROs w := (ROs_eq mv.1.1.2.1).trans (ROs_eq (GGw_fg g1 hj).2.1.1)
  have h34 : w3.2.2.2 34 = w.2.2.2 34 := mv.1.1.2.2.1.trans (GGw_fg g1 hj).2.1.2.1
  have wo1 : WOs m w m w1 := WOs_gg GGm.rf (GGw_fg g1 hj)
  have wo2 : WOs m w1 m2 w3 := ⟨ka, kb, mv.2.2.2.1, mv.2.2.2.2.1, mv.2.2.2.2.2.1, (mv.1.2.1 1106 (by omega) (by omega)).1, mv.1.2.2 165 (by omega)⟩
  exact wans (K1 := K1) (K2 := K2) hpp W2 hW hl2 f26 f45 f05 f09 g33 (by omega) n1 n6 (by rw [h23, hRO, h34]; exact cr) (fun b3 U3 Y3 m3 w4 s1 s2 s3 s4 s5 => kA b3 U3 Y3 m3 w4 s1 s2 s3 (WOs.tr (WOs.tr wo1 wo2) (WOs_gg (GGm_fg s4) (GGw_fg s5 hj)))) (fun m3 w4 s1 s2 s3 s4 s5 s6 => kD m3 w4 s1 s2 s3 (WOs.tr (WOs.tr wo1 wo2) (WOs_gg (GGm_fg s4) (GGw_fg s5 hj))) s6)
/-- a watch of one that has ENDED -/
theorem op_watchE (hpp : p < PR) (hq : q < PR) (dead : F m (pq q 9) = 3) (wl : WLs (RRp p) PR Fv P Fv' P' none i j0 m w) (hc : m.1 945 = w.1 121) (ru : RUs m w p j nb Hs Os y a n) (sc : SCs p m w) (hW : W + 1 ≤ 46000) (hl : F m (pq p 45) = ((l : Nat) : Int)) (hl2 : W + 1 ≤ l ∧ l ≤ 1000000) (pl : PLs b p m w1 U B (W + 1) Y) (e4 : so (m.2.2.2 (pq p 35) W) = 4) (g1 : FGw p j w w1) (h98 : A w1 98 (60 * p + j) = ((n + 1 : Nat) : Int)) (sf1 : SFs Fv P Fv' P' PR m w1) (cr : ∃ f, CRs (A m 23) (ROs w) (w.2.2.2 34) f y (a + 2) (n + 1) (Hs j) (Os j)) (hN : 3000000 ≤ N)
    (kA : ∀ b3 U3 Y3 m3 w3, (SFs Fv P Fv' P' PR m3 w3 → WLs (RRp p) PR Fv P Fv' P' none i j0 m3 w3) → PLs b3 p m3 w3 U3 B (W + 1) Y3 → RUs m3 w3 p j nb Hs Os y (a + 2) (n + 1) → WOs (wi m 945 (F m 945 + 1)) (wi w 121 (F m 945 + 1)) m3 w3 → PP Q (K1 m3) (K2 w3))
    (kD : ∀ m3 w3, (SFs Fv P Fv' P' PR m3 w3 → WLs (RRt p) PR Fv P Fv' P' none i j0 m3 w3) → F m3 (pq p 9) = 3 → A w3 109 p = 3 → WOs (wi m 945 (F m 945 + 1)) (wi w 121 (F m 945 + 1)) m3 w3 → (F m3 1109 = 0 ∧ F w3 133 = ((p : Nat) : Int)) → PP Q (K1 m3) (K2 w3)) : PP Q (bnd (hb_Ma_toward_95 N () m p (I 4) 1 (some q)) (fun u _ => K1 u)) (bnd (fb_M_processRun_151 N () w1 (I 4) 0 (I ((q : Nat) : Int)) 92 (I ((p : Nat) : Int)) (I ((W + 1 : Nat) : Int)) 1) (fun u _ => K2 u)) := by
  obtain ⟨⟨fa, ct⟩, ⟨r2, r3⟩, -, ⟨r5, r6⟩, r7, ⟨r8, r9, r10⟩, r11, r12, r13⟩ := id ru
  have hj : j < 60 := fa.1.2.2
  have p24 : PR ≤ 24 := wl.1.2.1.1.1.2
  have cb2 : a + 2 + 1 < 24000 := by
    obtain ⟨f9, cr9⟩ := cr
    exact (CR_b cr9).1
  have hal : F m (pq p 9) ≠ 3 := by rw [r5]; omega
  have hal' : A w 109 p ≠ 3 := by rw [r6]; omega
  have a9 : A w1 109 p ≠ 3 := by rw [FR.A g1.1 (by simp)]; exact hal'
  have dw : A w1 109 q = 3 := by rw [FR.A g1.1 (by simp)]; exact dead_w wl hq dead
  have x33 : F w1 133 = ((p : Nat) : Int) := by rw [FR.F g1.1 (by simp)]; exact r11
  have W1 : WLs (RRt p) PR Fv P Fv' P' none i j0 m w1 := WL_ownt (WL_t wl) hpp hal hal' sf1 GGm.rf (GGw_fg g1 hj) pl (SC_fg sc FGm.rf g1) ⟨hal, a9⟩
  have rb1 : RUb m w1 p j nb Hs Os y := RUb_fg (RUs_b ru) FGm.rf g1
  have r945 := F_r m 945
  have i1 : ∀ (u : MS) (k : Nat), u.1 k + 1 = I (F u k + 1) := fun u k => by rw [I_F (k := k), lit1, I_add]
  have x21 : w1.1 121 = m.1 945 := by rw [g1.1.1 121 (by simp)]; exact hc.symm
  have f21 : F w1 121 = F m 945 := congrArg Int32.toInt x21
  -- the REFERENCE is counted on both sides
  generalize hz : F m 945 + 1 = z at kA kD
  have qm : ∀ k, (wi m 945 z).1 (pq p k) = m.1 (pq p k) := fun k => wi_1 (fun c => pq_n (by omega) c.symm)
  have rb2 : RUb (wi m 945 z) (wi w1 121 z) p j nb Hs Os y := RUb_st rb1 ⟨fun k _ _ => qm k, fun _ _ _ => rfl, fun _ _ _ => rfl, rfl⟩ ⟨fun _ _ _ _ _ => rfl, rfl, fun _ _ => rfl, rfl⟩ ⟨⟨⟨rfl, wi_1 (by omega), rfl⟩, fun _ _ => rfl, rfl, rfl, rfl, wi_1 (by omega)⟩, fun k h1 h2 => ⟨wi_1 (by omega), rfl⟩, fun k h => wi_1 (by omega)⟩
  have W1' : WLs (RRt p) PR Fv P Fv' P' none i j0 (wi m 945 z) (wi w1 121 z) := WL_gl W1
  have pl2 : PLs b p (wi m 945 z) (wi w1 121 z) U B (W + 1) Y := PLs_gl pl
  have r2' : F (wi m 945 z) 1105 = ((a : Nat) : Int) := by rw [wi_ne (by omega)]; exact r2
  have r9' : F (wi m 945 z) 1109 = 0 := by rw [wi_ne (by omega)]; exact r9
  have hl' : F (wi m 945 z) (pq p 45) = ((l : Nat) : Int) := (congrArg Int32.toInt (qm 45)).trans hl
  have hal2 : F (wi m 945 z) (pq p 9) ≠ 3 := by rw [show F (wi m 945 z) (pq p 9) = F m (pq p 9) from congrArg Int32.toInt (qm 9)]; exact hal
  have Wv := WL_tv (l := l) W1' (⟨rb2, ⟨r2', h98⟩, pl2.2.1.1, pl2.2.2.1.1, hl'⟩ : RUv p j nb Hs Os y a (n + 1) B (W + 1) l (wi m 945 z) (wi w1 121 z))
  have cx := W1.1.1.2
  have pb := W1.1.2.2
  have ws := wl_lit (N := N) (a := 5) (sort := 1) (q := q) (v4 := F m 945) (t := mk 1 3) (Or.inr (Or.inr ⟨rfl, rfl⟩)) Wv hpp hal2 hq (nh_mk (by omega)) (fun c => by rw [so_mk (by omega) (by omega)] at c; omega) (cx.2.2.2.2.2.1 3 (by omega) (by have := cx.2.2.2.1; omega)) (pb.1 3 (by omega) (by omega)) r945 hN
  have n1 : ¬ isH (mk 2 (F m 945)) := nh_mk (by omega)
  have n6 : so (mk 2 (F m 945)) = 6 → va (mk 2 (F m 945)) = 0 := fun c => by rw [so_mk (by omega) (by omega)] at c; omega
  have rt := pl.2.2.1.2.2 W (by omega)
  have nx : ¬ isH (w1.2.2.2 91 (46000 * p + W)) := fun c => by
    have := (RTb_isH rt).mp c
    unfold isH at this
    omega
  have fal : decide (((wi m 945 z).1 (pq q 9)) = I 3) = true := by
    rw [wi_1 (fun c => pq_n (by omega) c.symm), I_F' dead]
    rfl
  rw [tw95_4, prr_4, sub1, tnI (n := p) rfl (by omega), wa_e, wat_e, i1 m 945, hz, wi_e, lt_e, oI, oI, show (3 : Int32) = I 3 from rfl, fal, br_t]
  refine rb_ck (fun _ => rb_ck (fun _ => ?_))
  rw [lt_e, i1 (wa w1 92 p ((W : Nat) : Int)) 121, show F (wa w1 92 p ((W : Nat) : Int)) 121 = F m 945 from f21, hz, wi_e, lt_e, show (wa w1 92 p ((W : Nat) : Int)).1 121 = m.1 945 from x21, I_F (w := m) (k := 945), show (2 : Int32) = I 2 from rfl, term_e, bnd_so, show hm_Ma_atom N (wi m 945 z) (I 3) = some (wi m 945 z, mk 1 3) from rfl, bnd_so]
  refine l_bb (l_bb (r_bb ?_))
  have y33 : F (wi (wa w1 92 p ((W : Nat) : Int)) 121 z) 133 = ((p : Nat) : Int) := by rw [wi_ne (by omega)]; exact x33
  have x92 : A (wi (wa w1 92 p ((W : Nat) : Int)) 121 z) 92 p = ((W : Nat) : Int) := wa_sm (u := w1) (by omega) (by omega)
  refine r_bnd (pk_mo (put_r (N := N) (x := mk 2 (F m 945)) (W := W) (by omega) y33 x92 (by omega)) (fun w8 _ e => ?_))
  subst e
  have zz : wa (wj (wi (wa w1 92 p ((W : Nat) : Int)) 121 z) 91 (46000 * p + W) (mk 2 (F m 945))) 92 p ((W + 1 : Nat) : Int) = Zp p W (mk 2 (F m 945)) (wi w1 121 z) := zp_put (w := wi w1 121 z) pl.2.2.1.2.1
  rw [zz]
  refine rb_ck (fun _ => ?_)
  have z109 : (Zp p W (mk 2 (F m 945)) (wi w1 121 z)).2.2.1 109 q = I 3 := I_A' dw
  have z133' : (wi w1 121 z).1 133 = I ((p : Nat) : Int) := by rw [wi_1 (by omega)]; exact I_F' x33
  have z133 : (Zp p W (mk 2 (F m 945)) (wi w1 121 z)).1 133 = I ((p : Nat) : Int) := z133'
  rw [tnI (n := q) rfl (by omega), z109, show decide (I 3 = I 3) = true from rfl, br_t, show fm_M_term N (Zp p W (mk 2 (F m 945)) (wi w1 121 z)) 1 (I 3) = some (Zp p W (mk 2 (F m 945)) (wi w1 121 z), mk 1 3) from rfl, bnd_so, z133]
  refine r_bb ?_
  refine pp_bb (fun m2 _ w4 _ e1 e2 => ?_)
  obtain ⟨w3, e3, rfl, -⟩ := zc_fm_M_message (N := N) (p := p) (W := W) (x := mk 2 (F m 945)) (u := wi w1 121 z) ⟨n1, nx⟩ rfl rfl rfl rfl rfl rfl rfl w4 () e2
  obtain ⟨W2, mv, -⟩ := ws m2 () w3 () e1 e3
  have ka : Kwac (wi m 945 z) m2 := ywa_hm_Wl_post Kwa_rf m2 () e1
  have kb : Kwbc (wi w1 121 z) w3 := ywb_fm_M_message Kwb_rf w3 () e3
  have kc : Kwcc (wi m 945 z) m2 := ywc_hm_Wl_post Kwc_rf m2 () e1
  have f26 : F m2 (pq p 26) = ((W + 1 : Nat) : Int) := (congrArg Int32.toInt (kc (pq p 26) ⟨by unfold pq; omega, by unfold pq; omega⟩)).trans pl2.2.2.1.1
  have f45 : F m2 (pq p 45) = ((l : Nat) : Int) := (congrArg Int32.toInt (kc (pq p 45) ⟨by unfold pq; omega, by unfold pq; omega⟩)).trans hl'
  have g33 : F w3 133 = ((p : Nat) : Int) := (congrArg Int32.toInt (mv.1.2.2 133 (by omega))).trans (by rw [z133']; exact I_ti (by omega) (by omega))
  have f05 : F m2 1105 = ((a : Nat) : Int) := (congrArg Int32.toInt (mv.1.2.1 1105 (by omega) (by omega)).1).trans r2'
  have f09 : F m2 1109 = 0 := (congrArg Int32.toInt (mv.1.2.1 1109 (by omega) (by omega)).1).trans r9'
  have h23 : A m2 23 = A m 23 := by funext k; show (m2.2.2.1 23 k).toInt = _; rw [mv.1.1.1.1]; rfl
  have hRO : ROs w3 = ROs w := (ROs_eq mv.1.1.2.1).trans (ROs_eq (GGw_fg g1 hj).2.1.1)
  have h34 : w3.2.2.2 34 = w.2.2.2 34 := mv.1.1.2.2.1.trans (GGw_fg g1 hj).2.1.2.1
  have gA : FGw p j (wi w 121 z) (wi w1 121 z) := FGw_sw g1
  have wo1 : WOs (wi m 945 z) (wi w 121 z) (wi m 945 z) (wi w1 121 z) := WOs_gg GGm.rf (GGw_fg gA hj)
  have wo2 : WOs (wi m 945 z) (wi w1 121 z) m2 w3 := ⟨ka, kb, mv.2.2.2.1, mv.2.2.2.2.1, mv.2.2.2.2.2.1, (mv.1.2.1 1106 (by omega) (by omega)).1, mv.1.2.2 165 (by omega)⟩
  rw [e_make, bnd_so]
  simp only [bnd_so]
  exact wans (K1 := K1) (K2 := K2) hpp W2 hW hl2 f26 f45 f05 f09 g33 (by omega) n1 n6 (by rw [h23, hRO, h34]; exact cr) (fun b3 U3 Y3 m3 w4 s1 s2 s3 s4 s5 => kA b3 U3 Y3 m3 w4 s1 s2 s3 (WOs.tr (WOs.tr wo1 wo2) (WOs_gg (GGm_fg s4) (GGw_fg s5 hj)))) (fun m3 w4 s1 s2 s3 s4 s5 s6 => kD m3 w4 s1 s2 s3 (WOs.tr (WOs.tr wo1 wo2) (WOs_gg (GGm_fg s4) (GGw_fg s5 hj))) s6)
end
