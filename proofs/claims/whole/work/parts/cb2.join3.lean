/-! two lists become one: the step -/
set_option maxRecDepth 100000
section
variable {α β : Type} {b : Int → Nat → Nat → Prop} {Fv Fv' : Int64 → Int64 → Prop} {P P' : Int64 → Prop} {ow kd ow' kd' : Nat → Nat} {N p U B W Y l j a n ee ee' : Nat} {m w : MS} {nb : Nat → Nat} {Hs Os : Nat → List Nat} {y : Option (Nat × Nat × Nat)} {Q : MS → α → MS → β → Prop} {K1 : MS → Option (MS × α)} {K2 : MS → Option (MS × β)}
theorem op_join (hpp : p < 24) (pl : PLs b p m w U B (W + 2) Y) (ru : RUs m w p j nb Hs Os y a n) (hW : W + 2 ≤ 46000) (hl : F m (pq p 45) = ((l : Nat) : Int)) (hl2 : W + 2 ≤ l ∧ l ≤ 1000000) (pt : PTQ m p U ow kd Fv P B (W + 2) Y) (cx : CTX Fv P m) (xc : CX w p (hp w p) U ow' kd' Fv' P' (W + 2) B Y) (h140 : F w 140 = -1) (h25 : A w 25 n = 22) (c1 : A m 23 (a + 1) = 43) (hee : F m 955 = ((ee : Nat) : Int) ∧ ee < 24) (hee' : F w 150 = ((ee' : Nat) : Int) ∧ ee' < 4000) (hN : 2200000 ≤ N) (cr : ∃ f, CRs (A m 23) (ROs w) (w.2.2.2 34) f y (a + 2) (n + 1) (Hs j) (Os j))
    (kS : ∀ b3 U3 m3 w3, PLs b3 p m3 w3 U3 B (W + 1) Y → RUs m3 w3 p j nb Hs Os y (a + 2) (n + 1) → GGm p m m3 → GGw p w w3 → (SCs p m w → SCs p m3 w3) → PP Q (K1 m3) (K2 w3))
    (kX : ∀ m3 w3, FGm p m m3 → FGw p j w w3 → PLs b p m3 w3 U B (W + 2) Y → RUb m3 w3 p j nb Hs Os y → PTQ m3 p U ow kd Fv P B (W + 2) Y → CX w3 p (hp w3 p) U ow' kd' Fv' P' (W + 2) B Y → F w3 140 = -1 → PP Q (K1 (tld m3 1 (-1) (mk 1 11))) (bnd (fr_M_error N w3 11) (fun u _ => K2 u)))
    (kE : ∀ m3 w3, GGm p m m3 → GGw p w w3 → (SCs p m w → SCs p m3 w3) → m3.1 (pq p 5) = w3.2.2.1 90 p → PP Q (K1 (enS m3 p (mk 1 20) p ee)) (K2 (wi (enR w3 p 0 ((p : Nat) : Int) (mk 1 20) ee') 151 1))) : PP Q (bnd (hm_Ma_value N m p (I 10)) (fun u _ => K1 u)) (bnd (fm_M_one N w (I ((n : Nat) : Int)) (I 6)) (fun u _ => K2 u)) := by
  obtain ⟨⟨fa, ct⟩, ⟨r2, r3⟩, ⟨f0, cr0⟩, ⟨r5, r6⟩, r7, ⟨r8, r9, r10⟩, r11, r12, r13⟩ := id ru
  have cb := CR_b cr0
  have hj : j < 60 := fa.1.2.2
  have hU := pl.1.1.2.2
  rw [val10y, one_6, I_F' r2, show I ((a : Nat) : Int) + 1 = I ((a + 1 : Nat) : Int) from addN, Co_e (k := a + 1) rfl (by omega), bnd_so, c1, show decide (I 43 = 43) = true from rfl, br_t, show I ((n : Nat) : Int) + 1 = I ((n + 1 : Nat) : Int) from addN]
  refine l_bb (r_bb ?_)
  refine r_bnd (pk_mo (goto_r (N := N) (n := ((n + 1 : Nat) : Int)) hpp r11 fa.1.2.1 hj) (fun w1 _ e => ?_))
  subst e
  refine rb_ck (fun _ => ?_)
  have e25 : A (wa w 98 (60 * p + j) ((n + 1 : Nat) : Int)) 25 n = 22 := by rw [wa_rne (by omega)]; exact h25
  rw [tnI (n := n) rfl (by omega), I_A' e25, two_22]
  refine r_bb (r_bb ?_)
  generalize hw1 : wa w 98 (60 * p + j) ((n + 1 : Nat) : Int) = w1
  have g1 : FGw p j w w1 := by rw [← hw1]; exact FGw.goto
  have pl1 : PLs b p m w1 U B (W + 2) Y := by rw [← hw1]; exact PLs_98 pl
  have x33 : F w1 133 = ((p : Nat) : Int) := by rw [← hw1]; exact r11
  have x98 : A w1 98 (60 * p + j) = ((n + 1 : Nat) : Int) := by rw [← hw1, wa_sm (by omega) (by omega)]
  have xc1 : CX w1 p (hp w1 p) U ow' kd' Fv' P' (W + 2) B Y := by rw [← hw1]; exact CX_98 xc
  have y40 : F w1 140 = -1 := by rw [← hw1]; exact h140
  have ru1 : RUb m w1 p j nb Hs Os y := RUb_fg (RUs_b ru) FGm.rf g1
  have gg1 : GGw p w w1 := GGw_fg g1 hj
  have sc1 : SCs p m w → SCs p m w1 := fun s => SC_fg s FGm.rf g1
  have tp : ∀ i, i < W + 2 → TPb b U ow kd P U ow' kd' P' (m.2.2.2 (pq p 35) i) (w1.2.2.2 91 (46000 * p + i)) := fun i hi => ⟨pl1.2.2.1.2.2 i hi, pt.2.2.1.2 i hi, xc1.2.2.2.2.2.2.2.1 i hi⟩
  have be1 : hm_Fr_below N m p 1 = some (m, m.2.2.2 (pq p 35) W) := by
    have := below_e (N := N) (x := 1) (k := 1) (W := W + 2) (l := l) pl.2.2.1.1 hl hl2.1 hl2.2 rfl (by omega)
    rw [show W + 2 - 1 - 1 = W by omega] at this
    exact this
  have tp1 : ∀ u : MS, F u 133 = ((p : Nat) : Int) → A u 92 p = ((W + 2 : Nat) : Int) → PK (fun w2 r => w2 = u ∧ r = u.2.2.2 91 (46000 * p + W)) (fm_M_top N u 1) := fun u h1 h2 => by
    have := top_r (N := N) (k := 1) (W := W + 2) hpp h1 h2 hW (by omega)
    rw [show W + 2 - 1 - 1 = W by omega] at this
    exact this
  have tp0 : ∀ u : MS, F u 133 = ((p : Nat) : Int) → A u 92 p = ((W + 2 : Nat) : Int) → PK (fun w2 r => w2 = u ∧ r = u.2.2.2 91 (46000 * p + (W + 1))) (fm_M_top N u 0) := fun u h1 h2 => by
    have := top_r (N := N) (k := 0) (W := W + 2) hpp h1 h2 hW (by omega)
    rw [show W + 2 - 1 - 0 = W + 1 by omega] at this
    exact this
  unfold hm_Ma_join hb_Ma_join_0 fm_M_joined fb_M_joined_0
  rw [be1, bnd_so]
  refine rb_bnd (pk_mo (tp1 w1 x33 pl1.2.2.1.2.1) (fun w4 r e => ?_))
  obtain ⟨rfl, rfl⟩ := e
  refine l_bb (r_bb (pp_bb (pp_mo (len_pp (N := N) (v := pq p 2) rfl rfl pt.1.2.2 hU xc1.2.1 hU (by omega) x33 pl1.1.2.1 (tp W (by omega))) (fun m2 r w2 r' hq => ?_))))
  obtain ⟨⟨rfl, rfl⟩, rfl, hq⟩ := hq
  rcases hq with rfl | ⟨k, rfl, hk5, hs6, hs6', hts⟩
  · -- no list
    rw [show decide (I (-1) = 0) = false from rfl, br_f, show decide (I (-1) = -1) = true from rfl, br_t, br_t]
    unfold hb_Ma_join_68 fb_M_joined_52
    rw [show (11 : Int32) = I 11 from rfl, wrong_e, bnd_so]
    refine r_bb ?_
    simp only [bnd_so]
    exact kX m2 w2 FGm.rf g1 pl1 ru1 pt xc1 y40
  · have dm : decide (I ((k : Nat) : Int) = -1) = false := by rw [m1I, decE (by omega) (by omega) (by omega) (by omega)]; exact decide_eq_false (by omega)
    rw [dm, br_f, br_f]
    have s2 : (2 : Int32) * I ((k : Nat) : Int) = I ((2 * k : Nat) : Int) := by
      rw [show (2 : Int32) = I 2 from rfl, I_mul]
      congr 1
    -- behind the sizes: frames of what has been looked at, here
    by_cases k0 : k = 0
    · subst k0
      have be0 : hm_Fr_below N m2 p 0 = some (m2, m2.2.2.2 (pq p 35) (W + 1)) := by
        have := below_e (N := N) (x := 0) (k := 0) (W := W + 2) (l := l) pl.2.2.1.1 hl hl2.1 hl2.2 rfl (by omega)
        rw [show W + 2 - 1 - 0 = W + 1 by omega] at this
        exact this
      rw [show decide (I ((0 : Nat) : Int) = 0) = true from rfl, br_t, show decide (I ((0 : Nat) : Int) ≤ 0) = true from rfl, br_t, be0, bnd_so]
      refine l_bnd (pk_mo (ans0_m (N := N) (U := U) (W := W) (l := l) (a := a) (tt := fun _ => 0) pl.2.2.1.1 hl hl2 r2 (by omega) pl.1.1.1) (fun m7 _ hm7 => ?_))
      obtain ⟨lm, t5⟩ := hm7
      unfold fb_M_joined_59
      refine jn_fill (k := 0) (w0 := w2) (by omega) (fun wE fE e169 _ => ?_) 0 N 0 w2 rfl FR.rf (fun q hq => absurd hq (Nat.not_lt_zero _))
      have sE : SCw w2 wE := FR.mo fE (by simp) (by simp) (by simp) (by simp)
      have plE := SCw_pl sE pl1
      have xE : F wE 133 = ((p : Nat) : Int) := by rw [FR.F fE (by simp)]; exact x33
      unfold fm_M_anew fb_M_anew_0
      rw [I_F' xE, s2]
      refine r_bb (rb_bnd (pk_mo (wants_0 (N := N) (U := U) hpp plE.1.1.2.1 hU) (fun w3 r e => ?_)))
      obtain ⟨rfl, rfl⟩ := e
      rw [show decide ((1 : Int32) = 0) = false from rfl, br_f]
      refine rb_bnd (pk_mo (tp1 w3 xE plE.2.2.1.2.1) (fun w4 r e => ?_))
      obtain ⟨rfl, rfl⟩ := e
      refine r_bnd (pk_mo (anw_c (N := N) (U := U) (W := W) (k1 := 0) (C := 0) (fl := fun _ => false) (xx := fun _ => 0) (te := w4.2.2.2 91 (46000 * p + (W + 1))) (x1 := w4.2.2.2 91 (46000 * p + W)) hpp xE plE.2.2.1.2.1 hW (by omega) (fun i hi => absurd hi (Nat.not_lt_zero _)) plE.1.1.2.1 rfl (by omega) (fun i hi => absurd hi (Nat.not_lt_zero _)) (fun i hi => absurd hi (Nat.not_lt_zero _)) rfl (Or.inl ⟨e169, rfl⟩) 0 N 0 w4 rfl FR.rf (fun q hq => absurd hq (Nat.not_lt_zero _))) (fun w7 _ lw => ?_))
      simp only [bnd_so]
      obtain ⟨⟨b3, pl7⟩, fm7, wX, sX, fw7, s98⟩ := anw_fin (j := j) hpp plE (by omega) hW lm lw (fun i hi => absurd hi (Nat.not_lt_zero _)) (plE.2.2.1.2.2 (W + 1) (by omega))
      have ru7 := RUb_fg (RUb_sc sX (RUb_sc sE ru1)) fm7 fw7
      have gg7 : GGw p w w7 := GGw.tr gg1 (GGw.tr (SCw_gg sE) (GGw.tr (SCw_gg sX) (GGw_fg fw7 hj)))
      have sc7 : SCs p m2 w → SCs p m7 w7 := fun s => SC_fg (SC_ow (SC_ow (sc1 s) (fun _ _ => rfl) rfl (fun K h1 h2 => sE.2.2.1 K (by simp; omega))) (fun _ _ => rfl) rfl (fun K h1 h2 => sX.2.2.1 K (by simp; omega))) fm7 fw7
      have h98 : A w7 98 (60 * p + j) = ((n + 1 : Nat) : Int) := by
        show (w7.2.2.1 98 _).toInt = _
        rw [s98, sE.2.2.1 98 (by simp)]
        exact x98
      refine kS b3 _ m7 w7 pl7 ⟨ru7.1, ⟨t5, h98⟩, ?_, ru7.2⟩ (GGm_fg fm7) gg7 sc7
      rw [ROs_eq gg7.2.1.1, gg7.2.1.2.1, show A m7 23 = A m2 23 from by funext i; exact FR.A fm7 (by simp [pq_n])]
      exact cr
    · have hk0 : 0 < k := by omega
      have d0 : decide (I ((k : Nat) : Int) = 0) = false := by rw [lit0, decE (by omega) (by omega) (by omega) (by omega)]; exact decide_eq_false (by omega)
      have dl : decide (I ((k : Nat) : Int) ≤ 0) = false := by rw [lit0, decI (by omega) (by omega) (by omega) (by omega)]; exact decide_eq_false (by omega)
      rw [d0, br_f, dl, br_f]
      obtain ⟨q0, q0g, q0g'⟩ := tp (W + 1) (by omega)
      obtain ⟨q1, q1g, q1g'⟩ := tp W (by omega)
      obtain ⟨f0, z0, y0⟩ := HP_szc pt.1.2.2 q0g
      obtain ⟨f0', z0', y0'⟩ := HP_sz xc1.2.1 q0g'
      obtain ⟨f1, z1, y1⟩ := HP_szc pt.1.2.2 q1g
      obtain ⟨f1', z1', y1'⟩ := HP_sz xc1.2.1 q1g'
      have e0 := SZ_iso pl1.1.2.1 q0 y0 y0'
      have e1 := SZ_iso pl1.1.2.1 q1 y1 y1'
      subst e0
      subst e1
      have bz0 := SZ_1000c pt.1.2.2 hU y0
      have bz1 := SZ_1000c pt.1.2.2 hU y1
      unfold hm_Ma_sizes hb_Ma_sizes_0
      refine lb_bnd (pk_mo (szs2 (N := N) (W := W) (l := l) pl.2.2.1.1 hl hl2 rfl rfl rfl hU cx.1 y0 y1 bz0 bz1 (by omega) N) (fun m4 r e => ?_))
      obtain ⟨f4, rfl⟩ := e
      refine rb_bnd (pk_mo (tp1 w2 x33 pl1.2.2.1.2.1) (fun w3 r e => ?_))
      obtain ⟨rfl, rfl⟩ := e
      rw [I_F' x33]
      refine rb_bnd (pk_mo (pk_ok (copySize_ok (N := N) xc1.2.1 hU (by omega) y1' (by omega))) (fun w4 r e => ?_))
      obtain ⟨f5, rfl⟩ := e
      have x4 : F w4 133 = ((p : Nat) : Int) := by rw [FR.F f5 (by simp)]; exact x33
      have x492 : A w4 92 p = ((W + 2 : Nat) : Int) := by rw [FR.A f5 (by simp)]; exact pl1.2.2.1.2.1
      have hp4 : hp w4 p = hp w3 p := by
        funext i
        show w4.2.2.2 88 (500 * p + i) = _
        rw [f5.2.2.2 88 (by simp)]
        rfl
      refine rb_bnd (pk_mo (tp0 w4 x4 x492) (fun w5 r e => ?_))
      obtain ⟨rfl, rfl⟩ := e
      rw [I_F' x4, show w5.2.2.2 91 (46000 * p + (W + 1)) = w3.2.2.2 91 (46000 * p + (W + 1)) from by rw [f5.2.2.2 91 (by simp)]]
      refine rb_bnd (pk_mo (pk_ok (copySize_ok (N := N) (u := w5) (by rw [hp4]; exact xc1.2.1) hU (by omega) (by rw [hp4]; exact y0') (by omega))) (fun w6 r e => ?_))
      obtain ⟨f6, rfl⟩ := e
      have f36 : FR [] [] [] [141] w3 w6 := FR.tr f5 f6
      have fw6 : FGw p j w3 w6 := FGw_141 f36
      have fm4 : FGm p m2 m4 := FR.mo f4 (by simp) (by simp) (by simp) (by simp)
      have gg6 : GGw p w w6 := GGw.tr gg1 (GGw_fg fw6 hj)
      have sc6 : SCs p m2 w → SCs p m4 w6 := fun s => SC_fg (sc1 s) fm4 fw6
      have jq : ∀ d, m4.2.2.2 (pq p d) = m2.2.2.2 (pq p d) := fun d => f4.2.2.2 _ (by simp; exact fun c => pq_n (by omega) c.symm)
      have iq : ∀ d, m4.1 d = m2.1 d := fun d => f4.1 d (by simp)
      have fq : ∀ d, F m4 d = F m2 d := fun d => congrArg Int32.toInt (iq d)
      have pl6 : PLs b p m4 w6 U B (W + 2) Y := PLs_cg pl1 (fun d _ => iq _) (fun i _ => by rw [jq]) (fun i _ => by rw [jq]) (fun i _ => by rw [jq]) (fun i _ => by rw [jq]) (fun K hK => by rw [f36.2.2.1 K (by simp)]) (fun i _ => by rw [f36.2.2.2 88 (by simp)]) (fun i _ => by rw [f36.2.2.2 93 (by simp)]) (fun i _ => by rw [f36.2.2.2 91 (by simp)]) (fun i _ => by rw [f36.2.2.2 107 (by simp)])
      have ru6 : RUb m4 w6 p j nb Hs Os y := RUb_fg ru1 fm4 fw6
      have pt6 : PTQ m4 p U ow kd Fv P B (W + 2) Y := PTQ_same pt (fun d _ => iq _) (fun d _ => jq d)
      have cx6 : CTX Fv P m4 := CTX_fr cx (iq 22) (f4.2.2.1 3 (by simp))
      have xc6 : CX w6 p (hp w6 p) U ow' kd' Fv' P' (W + 2) B Y := CX_141 xc1 f36
      have hc : ((z0 + z1 ≤ 500) ↔ ((if z1 ≤ 500 then z1 else 501) + (if z0 ≤ 500 then z0 else 501) ≤ 500)) := by
        by_cases c1 : z1 ≤ 500
        · rw [if_pos c1]
          by_cases c0 : z0 ≤ 500
          · rw [if_pos c0]; omega
          · rw [if_neg c0]; omega
        · rw [if_neg c1]
          by_cases c0 : z0 ≤ 500
          · rw [if_pos c0]; omega
          · rw [if_neg c0]; omega
      have hb : (if z1 ≤ 500 then z1 else 501) + (if z0 ≤ 500 then z0 else 501) ≤ 1002 := by
        by_cases c1 : z1 ≤ 500
        · rw [if_pos c1]
          by_cases c0 : z0 ≤ 500
          · rw [if_pos c0]; omega
          · rw [if_neg c0]; omega
        · rw [if_neg c1]
          by_cases c0 : z0 ≤ 500
          · rw [if_pos c0]; omega
          · rw [if_neg c0]; omega
      rw [show I (((if z1 ≤ 500 then z1 else 501 : Nat) : Int)) + I (((if z0 ≤ 500 then z0 else 501 : Nat) : Int)) = I (((if z1 ≤ 500 then z1 else 501) + (if z0 ≤ 500 then z0 else 501) : Nat) : Int) from addN]
      generalize (if z1 ≤ 500 then z1 else 501) + (if z0 ≤ 500 then z0 else 501) = zr at hc hb
      rw [show (500 : Int32) = I ((500 : Nat) : Int) from rfl, decI (by omega) (by omega) (by omega) (by omega), decI (by omega) (by omega) (by omega) (by omega)]
      by_cases cz : z0 + z1 ≤ 500
      · have cz' := hc.mp cz
        rw [decide_eq_true (by omega), decide_eq_true (by omega), br_t, br_t]
        unfold fb_M_joined_59
        rw [show (0 : Int32) = I ((0 : Nat) : Int) from rfl]
        refine jn_fill (k := k) (w0 := w6) (by omega) (fun wE fE e169 e168 => ?_) k N 0 w6 (by omega) FR.rf (fun q hq => absurd hq (Nat.not_lt_zero _))
        have sE : SCw w6 wE := FR.mo fE (by simp) (by simp) (by simp) (by simp)
        have plE := SCw_pl sE pl6
        have xcE := SCw_cx sE xc6
        have xE : F wE 133 = ((p : Nat) : Int) := by rw [FR.F fE (by simp), FR.F f36 (by simp)]; exact x33
        have yE : F wE 140 = -1 := by rw [FR.F fE (by simp), FR.F f36 (by simp)]; exact y40
        have ggE : GGw p w wE := GGw.tr gg6 (SCw_gg sE)
        have scE : SCs p m2 w → SCs p m4 wE := fun s => SC_ow (sc6 s) (fun _ _ => rfl) rfl (fun K h1 h2 => sE.2.2.1 K (by simp; omega))
        have ruE := RUb_sc sE ru6
        have e9 : F m4 (pq p 9) ≠ 3 := by rw [fq, r5]; omega
        have ee4 : F m4 955 = ((ee : Nat) : Int) ∧ ee < 24 := ⟨by rw [fq]; exact hee.1, hee.2⟩
        unfold fm_M_anew fb_M_anew_0
        rw [I_F' xE, s2]
        refine l_bb (r_bb (r_bb (pp_bb (pp_mo (pp_pl (room_pp (N := N) (k := 2 * k) pt6 cx6 xcE plE yE (by omega) e9 ee4 hN) (room_tags (N := N) (k := 2 * k) pt6 cx6 (by omega) e9 ee4 hN)) (fun m5 r4 w5' r5' q9 => ?_)))))
        obtain ⟨q9, tg⟩ := q9
        rcases q9 with ⟨rfl, rfl, a4, a5, b2', U2, pl5, rm5, ⟨ow2, kd2, pt5⟩, ⟨ow2', kd2', xc5⟩⟩ | ⟨rfl, rfl, m6, a4, a5, rfl, h5⟩
        · rw [show decide ((1 : Int32) = I ((0 : Nat) : Int)) = false from rfl, br_f, show decide ((1 : Int32) = 0) = false from rfl, br_f]
          have z33 : F w5' 133 = ((p : Nat) : Int) := by rw [FR.F a5.1 (by simp)]; exact xE
          obtain ⟨l4, e1, e2, e3⟩ := pt5.2.2.2.2.2.1
          have e5 : F m5 1105 = ((a : Nat) : Int) := by rw [FR.F a4 (by simp [pq_n]), fq]; exact r2
          have be5 : hm_Fr_below N m5 p 1 = some (m5, m5.2.2.2 (pq p 35) W) := by
            have := below_e (N := N) (x := 1) (k := 1) (W := W + 2) (l := l4) pl5.2.2.1.1 e1 e2 e3 rfl (by omega)
            rw [show W + 2 - 1 - 1 = W by omega] at this
            exact this
          rw [be5, bnd_so, I_F' pl5.1.1.1]
          refine rb_bnd (pk_mo (tp1 w5' z33 pl5.2.2.1.2.1) (fun w4' r e => ?_))
          obtain ⟨rfl, rfl⟩ := e
          have tags : ∀ j, j < k → so (tlc (m5.2.2.2 (pq p 2)) (m5.2.2.2 (pq p 35) W) j) = 7 := fun i hi => by
            rw [tg rfl W (by omega) i (fun i2 h2 => by rw [jq, jq]; exact (hts i2 (by omega)).1), jq, jq]
            exact (hts i hi).1
          have tp5 : ∀ i, i < W + 2 → TPb b2' U2 ow2 kd2 P U2 ow2' kd2' P' (m5.2.2.2 (pq p 35) i) (w4'.2.2.2 91 (46000 * p + i)) := fun i hi => ⟨pl5.2.2.1.2.2 i hi, pt5.2.2.1.2 i hi, xc5.2.2.2.2.2.2.2.1 i hi⟩
          have tl5 := tl_TP pl5.1.2.1 pt5.1.2.2 xc5.2.1 (tp5 W (by omega)) tags
          have prs := fun i (hi : i < k) => TP_pair pl5.1.2.1 pt5.1.2.2 xc5.2.1 (tl5 i (by omega)) (tags i hi)
          have hU2 := pl5.1.1.2.2
          refine l_bnd (pk_mo (jn_m (N := N) (U := U2) (W := W) (k := k) (a := a) (lc := l4) (m0 := m5) (t1 := m5.2.2.2 (pq p 35) W) pl5.2.2.1.1 e1 ⟨e2, e3⟩ e5 (by omega) hk0 rm5 (fun i hi => ⟨(prs i hi).1.2.1, (prs i hi).1.2.2.1⟩) k N m5 0 (by omega) FR.rf ⟨fun _ _ => rfl, fun r hr => absurd hr (Nat.not_lt_zero _)⟩) (fun m7 _ hm7 => ?_))
          obtain ⟨t1, t2, t3, t4, t5, t6, t7⟩ := hm7
          have lm : LMm m5 m7 p U2 k W (fun i => m5.2.2.2 (pq p 2) (vn (tlc (m5.2.2.2 (pq p 2)) (m5.2.2.2 (pq p 35) W) i))) (m5.2.2.2 (pq p 35) (W + 1)) := ⟨t1, t2, t3, t5, t6, fun i hi => by rw [t7 i hi, if_neg k0]⟩
          have cf : ∀ i, cnk (fun _ => false) i = i := fun i => cnk_all (fun _ _ => rfl)
          refine r_bnd (pk_mo (anw_c (N := N) (U := U2) (W := W) (k1 := k) (C := k) (fl := fun _ => false) (xx := fun i => hp w4' p (vn (tlc (hp w4' p) (w4'.2.2.2 91 (46000 * p + W)) i))) (te := w4'.2.2.2 91 (46000 * p + (W + 1))) (x1 := w4'.2.2.2 91 (46000 * p + W)) (w0 := w4') hpp z33 pl5.2.2.1.2.1 hW (by omega) (fun i hi => by rw [FR.A a5.1 (by simp), e168 i hi]; rfl) pl5.1.1.2.1 (cf k).symm rm5 (fun i hi => ⟨(prs i hi).1.2.2.2.1, by have := (prs i hi).1.2.2.2.2; omega⟩) (fun i hi _ => by rw [cf]) rfl (Or.inl ⟨by rw [FR.F a5.1 (by simp)]; exact e169, rfl⟩) k N 0 w4' (by omega) FR.rf (fun q hq => absurd hq (Nat.not_lt_zero _))) (fun w7 _ lw => ?_))
          simp only [bnd_so]
          obtain ⟨⟨b3, pl7⟩, fm7, wX, sX, fw7, s98⟩ := anw_fin (j := j) hpp pl5 rm5 hW lm lw (fun i hi => (prs i hi).2.1.1) (tp5 (W + 1) (by omega)).1
          have fm5 : FGm p m4 m5 := FGm_xr a4
          have fw5 : FGw p j wE w4' := FGw_xr a5
          have ru7 := RUb_fg (RUb_sc sX (RUb_fg ruE fm5 fw5)) fm7 fw7
          have gg7 : GGw p w w7 := GGw.tr ggE (GGw.tr (GGw_fg fw5 hj) (GGw.tr (SCw_gg sX) (GGw_fg fw7 hj)))
          have fm27 : FGm p m2 m7 := FGm.tr fm4 (FGm.tr fm5 fm7)
          have sc7 : SCs p m2 w → SCs p m7 w7 := fun s => SC_fg (SC_ow (SC_fg (scE s) fm5 fw5) (fun _ _ => rfl) rfl (fun K h1 h2 => sX.2.2.1 K (by simp; omega))) fm7 fw7
          have h98 : A w7 98 (60 * p + j) = ((n + 1 : Nat) : Int) := by
            show (w7.2.2.1 98 _).toInt = _
            rw [s98]
            show A w4' 98 (60 * p + j) = _
            rw [FR.A a5.1 (by simp), FR.A fE (by simp), FR.A f36 (by simp)]
            exact x98
          refine kS b3 _ m7 w7 pl7 ⟨ru7.1, ⟨t4, h98⟩, ?_, ru7.2⟩ (GGm_fg fm27) gg7 sc7
          rw [ROs_eq gg7.2.1.1, gg7.2.1.2.1, show A m7 23 = A m2 23 from by funext i; exact FR.A fm27 (by simp [pq_n])]
          exact cr
        · rw [show decide ((0 : Int32) = I ((0 : Nat) : Int)) = true from rfl, br_t, show decide ((0 : Int32) = 0) = true from rfl, br_t]
          have z33 : F w5' 133 = ((p : Nat) : Int) := by rw [FR.F a5.1 (by simp)]; exact xE
          have fw5 : FGw p j wE w5' := FGw_xr a5
          have e109 : A w5' 109 p ≠ 3 := by rw [FR.A fw5.1 (by simp), FR.A fE (by simp), FR.A f36 (by simp), FR.A g1.1 (by simp), r6]; omega
          have e150 : F w5' 150 = ((ee' : Nat) : Int) := by rw [FR.F fw5.1 (by simp), FR.F fE (by simp), FR.F f36 (by simp), FR.F g1.1 (by simp)]; exact hee'.1
          rw [noR_e hpp z33 e109 e150 hee'.2]
          simp only [bnd_so]
          exact kE m6 w5' (GGm_fg (FGm.tr fm4 (FGm_xr a4))) (GGw.tr ggE (GGw_fg fw5 hj)) (fun s => SC_fg (scE s) (FGm_xr a4) fw5) h5
      · have cz' : ¬ zr ≤ 500 := fun c => cz (hc.mpr c)
        rw [decide_eq_false (by omega), decide_eq_false (by omega), br_f, br_f]
        unfold hb_Ma_join_68 fb_M_joined_52
        rw [show (11 : Int32) = I 11 from rfl, wrong_e, bnd_so]
        refine r_bb ?_
        simp only [bnd_so]
        exact kX m4 w6 fm4 (FGw.tr g1 fw6) pl6 ru6 pt6 xc6 (by rw [FR.F f36 (by simp)]; exact y40)
end
