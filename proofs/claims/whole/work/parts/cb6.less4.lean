/-! what is taken away of a list: the step -/
set_option maxRecDepth 100000
section
variable {α β : Type} {b : Int → Nat → Nat → Prop} {Fv Fv' : Int64 → Int64 → Prop} {P P' : Int64 → Prop} {ow kd ow' kd' fa' : Nat → Nat} {N p U B W Y l j a n ee ee' na : Nat} {m w : MS} {nb : Nat → Nat} {Hs Os : Nat → List Nat} {y : Option (Nat × Nat × Nat)} {Q : MS → α → MS → β → Prop} {K1 : MS → Option (MS × α)} {K2 : MS → Option (MS × β)}
theorem op_less (hpp : p < 24) (pl : PLs b p m w U B (W + 2) Y) (ru : RUs m w p j nb Hs Os y a n) (hW : W + 2 ≤ 46000) (hl : F m (pq p 45) = ((l : Nat) : Int)) (hl2 : W + 2 ≤ l ∧ l ≤ 1000000) (pt : PTQ m p U ow kd Fv P B (W + 2) Y) (cx : CTX Fv P m) (xc : CX w p (hp w p) U ow' kd' Fv' P' (W + 2) B Y) (h140 : F w 140 = -1) (h25 : A w 25 n = 23) (c1 : A m 23 (a + 1) = 44) (hF' : FVH Fv') (hA : ATf m w fa' na) (hee : F m 955 = ((ee : Nat) : Int) ∧ ee < 24) (hee' : F w 150 = ((ee' : Nat) : Int) ∧ ee' < 4000) (hN : 2200000 ≤ N) (cr : ∃ f, CRs (A m 23) (ROs w) (w.2.2.2 34) f y (a + 2) (n + 1) (Hs j) (Os j))
    (kS : ∀ b3 U3 m3 w3, PLs b3 p m3 w3 U3 B (W + 1) Y → RUs m3 w3 p j nb Hs Os y (a + 2) (n + 1) → GGm p m m3 → GGw p w w3 → (SCs p m w → SCs p m3 w3) → PP Q (K1 m3) (K2 w3))
    (kX : ∀ m3 w3, FGm p m m3 → FGw p j w w3 → PLs b p m3 w3 U B (W + 2) Y → RUb m3 w3 p j nb Hs Os y → PTQ m3 p U ow kd Fv P B (W + 2) Y → CX w3 p (hp w3 p) U ow' kd' Fv' P' (W + 2) B Y → F w3 140 = -1 → PP Q (K1 (tld m3 1 (-1) (mk 1 11))) (bnd (fr_M_error N w3 11) (fun u _ => K2 u)))
    (kE : ∀ m3 w3, GGm p m m3 → GGw p w w3 → (SCs p m w → SCs p m3 w3) → m3.1 (pq p 5) = w3.2.2.1 90 p → PP Q (K1 (enS m3 p (mk 1 20) p ee)) (K2 (wi (enR w3 p 0 ((p : Nat) : Int) (mk 1 20) ee') 151 1))) : PP Q (bnd (hm_Ma_value N m p (I 10)) (fun u _ => K1 u)) (bnd (fm_M_one N w (I ((n : Nat) : Int)) (I 6)) (fun u _ => K2 u)) := by
  obtain ⟨⟨fa, ct⟩, ⟨r2, r3⟩, ⟨f0, cr0⟩, ⟨r5, r6⟩, r7, ⟨r8, r9, r10⟩, r11, r12, r13⟩ := id ru
  have cb := CR_b cr0
  have hj : j < 60 := fa.1.2.2
  have hU := pl.1.1.2.2
  rw [val10y, one_6, I_F' r2, show I ((a : Nat) : Int) + 1 = I ((a + 1 : Nat) : Int) from addN, Co_e (k := a + 1) rfl (by omega), bnd_so, c1, show decide (I 44 = 43) = false from rfl, br_f, show I ((n : Nat) : Int) + 1 = I ((n + 1 : Nat) : Int) from addN]
  refine l_bb (r_bb ?_)
  refine r_bnd (pk_mo (goto_r (N := N) (n := ((n + 1 : Nat) : Int)) hpp r11 fa.1.2.1 hj) (fun w1 _ e => ?_))
  subst e
  refine rb_ck (fun _ => ?_)
  have e25 : A (wa w 98 (60 * p + j) ((n + 1 : Nat) : Int)) 25 n = 23 := by rw [wa_rne (by omega)]; exact h25
  rw [tnI (n := n) rfl (by omega), I_A' e25, two_23]
  refine r_bb (r_bb ?_)
  generalize hw1 : wa w 98 (60 * p + j) ((n + 1 : Nat) : Int) = w1
  have g1 : FGw p j w w1 := by rw [← hw1]; exact FGw.goto
  have pl1 : PLs b p m w1 U B (W + 2) Y := by rw [← hw1]; exact PLs_98 pl
  have x33 : F w1 133 = ((p : Nat) : Int) := by rw [← hw1]; exact r11
  have x98 : A w1 98 (60 * p + j) = ((n + 1 : Nat) : Int) := by rw [← hw1, wa_sm (by omega) (by omega)]
  have xc1 : CX w1 p (hp w1 p) U ow' kd' Fv' P' (W + 2) B Y := by rw [← hw1]; exact CX_98 xc
  have y40 : F w1 140 = -1 := by rw [← hw1]; exact h140
  have ru1 : RUb m w1 p j nb Hs Os y := RUb_fg (RUs_b ru) FGm.rf g1
  have gg1 : GGw p w w1 := GGw_fg g1 hj
  have sc1 : SCs p m w → SCs p m w1 := fun s => SC_fg s FGm.rf g1
  have tp : ∀ i, i < W + 2 → TPb b U ow kd P U ow' kd' P' (m.2.2.2 (pq p 35) i) (w1.2.2.2 91 (46000 * p + i)) := fun i hi => ⟨pl1.2.2.1.2.2 i hi, pt.2.2.1.2 i hi, xc1.2.2.2.2.2.2.2.1 i hi⟩
  have be1 : hm_Fr_below N m p 1 = some (m, m.2.2.2 (pq p 35) W) := by
    have := below_e (N := N) (x := 1) (k := 1) (W := W + 2) (l := l) pl.2.2.1.1 hl hl2.1 hl2.2 rfl (by omega)
    rw [show W + 2 - 1 - 1 = W by omega] at this
    exact this
  have tp1 : ∀ u : MS, F u 133 = ((p : Nat) : Int) → A u 92 p = ((W + 2 : Nat) : Int) → PK (fun w2 r => w2 = u ∧ r = u.2.2.2 91 (46000 * p + W)) (fm_M_top N u 1) := fun u h1 h2 => by
    have := top_r (N := N) (k := 1) (W := W + 2) hpp h1 h2 hW (by omega)
    rw [show W + 2 - 1 - 1 = W by omega] at this
    exact this
  have tp0 : ∀ u : MS, F u 133 = ((p : Nat) : Int) → A u 92 p = ((W + 2 : Nat) : Int) → PK (fun w2 r => w2 = u ∧ r = u.2.2.2 91 (46000 * p + (W + 1))) (fm_M_top N u 0) := fun u h1 h2 => by
    have := top_r (N := N) (k := 0) (W := W + 2) hpp h1 h2 hW (by omega)
    rw [show W + 2 - 1 - 0 = W + 1 by omega] at this
    exact this
  have be0 : hm_Fr_below N m p 0 = some (m, m.2.2.2 (pq p 35) (W + 1)) := by
    have := below_e (N := N) (x := 0) (k := 0) (W := W + 2) (l := l) pl.2.2.1.1 hl hl2.1 hl2.2 rfl (by omega)
    rw [show W + 2 - 1 - 0 = W + 1 by omega] at this
    exact this
  unfold hm_Ma_without hb_Ma_without_0 hb_Ma_without_61 fm_M_lessened fb_M_lessened_0 fb_M_lessened_30
  rw [be1, bnd_so]
  refine rb_bnd (pk_mo (tp1 w1 x33 pl1.2.2.1.2.1) (fun w4 r e => ?_))
  obtain ⟨rfl, rfl⟩ := e
  refine l_bb (r_bb (pp_bb (pp_mo (len_pp (N := N) (v := pq p 2) rfl rfl pt.1.2.2 hU xc1.2.1 hU (by omega) x33 pl1.1.2.1 (tp W (by omega))) (fun m2 r w2 r' hq => ?_))))
  obtain ⟨⟨rfl, rfl⟩, rfl, hq⟩ := hq
  refine rb_bnd (pk_mo (tp0 w2 x33 pl1.2.2.1.2.1) (fun w4 r e => ?_))
  obtain ⟨rfl, rfl⟩ := e
  rcases hq with rfl | ⟨l1, rfl, b1, hs6, hs6', hts⟩
  · -- no list
    rw [show decide (I (-1) = -1) = true from rfl, br_t]
    unfold fm_M_lengthOf fb_M_lengthOf_0
    refine rb_bnd (pk_mo (len_w (N := N) N _ 0) (fun w3 r e => ?_))
    subst e
    rw [br_t, show (11 : Int32) = I 11 from rfl, wrong_e, bnd_so]
    refine r_bb ?_
    simp only [bnd_so]
    exact kX m2 w3 FGm.rf g1 pl1 ru1 pt xc1 y40
  · have dm : ∀ k : Nat, k ≤ 500 → decide (I ((k : Nat) : Int) = -1) = false := fun k hk => by rw [m1I, decE (by omega) (by omega) (by omega) (by omega)]; exact decide_eq_false (by omega)
    rw [dm l1 b1, br_f, show decide ((2048 : Int32) < I ((l1 : Nat) : Int)) = false from decide_eq_false (by rw [show (2048 : Int32) = I 2048 from rfl, I_lt (by omega) (by omega) (by omega) (by omega)]; omega), br_f, be0, bnd_so]
    refine l_bb (r_bb (pp_bb (pp_mo (len_pp (N := N) (v := pq p 2) rfl rfl pt.1.2.2 hU xc1.2.1 hU (by omega) x33 pl1.1.2.1 (tp (W + 1) (by omega))) (fun m3 r w3 r' hq => ?_))))
    obtain ⟨⟨rfl, rfl⟩, rfl, hq⟩ := hq
    rw [br_f]
    rcases hq with rfl | ⟨l0, rfl, b0, ht6, ht6', htt⟩
    · rw [show decide (I (-1) = -1) = true from rfl, br_t, br_t, show (11 : Int32) = I 11 from rfl, wrong_e, bnd_so]
      refine r_bb ?_
      simp only [bnd_so]
      exact kX m3 w3 FGm.rf g1 pl1 ru1 pt xc1 y40
    · rw [dm l0 b0, br_f, br_f]
      unfold hm_Ma_markGone hb_Ma_markGone_0
      refine l_bb ?_
      have hA1 : ATf m3 w3 fa' na := ATf_k hA rfl rfl rfl (gg1.2.1.2.2.2.2) (gg1.2.1.2.2.1) (gg1.2.1.2.2.2.1)
      refine mg_0 (N := N) (p := p) (W := W) (l := l) (l1 := l1) (l0 := l0) (m0 := m3) (w0 := w3) hpp x33 pl.2.2.1.1 hl hl2 pl1.2.2.1.2.1 hW b1 (fun M M2 m' w' hg => ?_) l1 N N m3 w3 0 (by omega) ⟨FR.rf, FR.rf, fun i hi => absurd hi (Nat.not_lt_zero _)⟩
      refine mg_out (N := N) (p := p) (U := U) (W := W) (l := l) (l1 := l1) (l0 := l0) (m0 := m3) (w0 := w3) hpp x33 pl.2.2.1.1 hl hl2 pl1.2.2.1.2.1 hW rfl rfl pt.1.2.2 hU xc1.2.1 pl1.1.2.1 (tp W (by omega)) (tp (W + 1) (by omega)) (fun i hi => (hts i hi).1) (fun i hi => (htt i hi).1) ht6 b1 b0 cx hF' hA1 (by omega) (fun M2 m4 w6 fl q hq hg => ?_) l0 M M2 m' w' _ 0 0 (by omega) (by omega) hg
      show PP Q (bnd ((hg_Ma_without N N).1 m4 p (I ((q : Nat) : Int)) 0 0) _) _
      refine cnt_l (fl := fl) (q := q) (by omega) (fun i hi => (hg.2.2 i (by omega)).1) (fun M => ?_) q N 0 (by omega)
      refine cnt_r (fl := fl) (q := q) (by omega) (fun i hi => (hg.2.2 i (by omega)).2) ?_ q M2 0 (by omega)
      have f4 : FR [] [] [] [44, 45, 46] m3 m4 := hg.1
      have nq : ∀ d K, K = 44 ∨ K = 45 ∨ K = 46 → pq p d ≠ K := fun d K hK c => pq_n (by omega) c.symm
      have jq : ∀ d, m4.2.2.2 (pq p d) = m3.2.2.2 (pq p d) := fun d => f4.2.2.2 _ (by simp; exact ⟨nq d 44 (by omega), nq d 45 (by omega), nq d 46 (by omega)⟩)
      have iq : ∀ d, m4.1 d = m3.1 d := fun d => f4.1 d (by simp)
      have fq : ∀ d, F m4 d = F m3 d := fun d => congrArg Int32.toInt (iq d)
      have fm4 : FGm p m3 m4 := FR.mo f4 (by simp) (by simp) (by simp) (by simp)
      have cb' := cnk_b (fl := fl) q
      have s2 : (2 : Int32) * I ((cnk fl q : Nat) : Int) = I ((2 * cnk fl q : Nat) : Int) := by
        rw [show (2 : Int32) = I 2 from rfl, I_mul]
        congr 1
      generalize hwE : wi w6 169 1 = wE
      have fE : FR [169] [] [168] [141] w3 wE := by rw [← hwE]; exact FR.wi (FR.mo hg.2.1 (by simp) (by simp) (by simp) (by simp)) (by simp)
      have e169 : F wE 169 = 1 := by rw [← hwE]; exact wi_sm (by omega) (by omega)
      have e168 : ∀ i, i < l1 → A wE 168 i = (if fl i = true then 1 else 0) := fun i hi => by rw [← hwE]; exact (hg.2.2 i hi).2
      have sE : SCw w3 wE := FR.mo fE (by simp) (by simp) (by simp) (by simp)
      have pl4 : PLs b p m4 w3 U B (W + 2) Y := PLs_cg pl1 (fun d _ => iq _) (fun i _ => by rw [jq]) (fun i _ => by rw [jq]) (fun i _ => by rw [jq]) (fun i _ => by rw [jq]) (fun _ _ => rfl) (fun _ _ => rfl) (fun _ _ => rfl) (fun _ _ => rfl) (fun _ _ => rfl)
      have plE := SCw_pl sE pl4
      have xcE := SCw_cx sE xc1
      have pt6 : PTQ m4 p U ow kd Fv P B (W + 2) Y := PTQ_same pt (fun d _ => iq _) (fun d _ => jq d)
      have cx6 : CTX Fv P m4 := CTX_fr cx (iq 22) (f4.2.2.1 3 (by simp))
      have xE : F wE 133 = ((p : Nat) : Int) := by rw [FR.F fE (by simp)]; exact x33
      have yE : F wE 140 = -1 := by rw [FR.F fE (by simp)]; exact y40
      have ggE : GGw p w wE := GGw.tr gg1 (SCw_gg sE)
      have scE : SCs p m3 w → SCs p m4 wE := fun s => SC_fg (SC_ow (sc1 s) (fun _ _ => rfl) rfl (fun K h1 h2 => sE.2.2.1 K (by simp; omega))) fm4 (FGw.rf (j := j))
      have ruE : RUb m4 wE p j nb Hs Os y := RUb_fg (RUb_sc sE ru1) fm4 FGw.rf
      have e9 : F m4 (pq p 9) ≠ 3 := by rw [fq, r5]; omega
      have ee4 : F m4 955 = ((ee : Nat) : Int) ∧ ee < 24 := ⟨by rw [fq]; exact hee.1, hee.2⟩
      unfold wiE fm_M_anew fb_M_anew_0
      rw [I_F' xE, s2]
      refine l_bb (r_bb (r_bb (pp_bb (pp_mo (pp_pl (room_pp (N := N) (k := 2 * cnk fl q) pt6 cx6 xcE plE yE (by omega) e9 ee4 hN) (room_tags (N := N) (k := 2 * cnk fl q) pt6 cx6 (by omega) e9 ee4 hN)) (fun m5 r4 w5' r5' q9 => ?_)))))
      obtain ⟨q9, tg⟩ := q9
      rcases q9 with ⟨rfl, rfl, a4, a5, b2', U2, pl5, rm5, ⟨ow2, kd2, pt5⟩, ⟨ow2', kd2', xc5⟩⟩ | ⟨rfl, rfl, m6, a4, a5, rfl, h5⟩
      · rw [show decide ((1 : Int32) = 0) = false from rfl, br_f, br_f]
        have z33 : F w5' 133 = ((p : Nat) : Int) := by rw [FR.F a5.1 (by simp)]; exact xE
        obtain ⟨l4, e1, e2, e3⟩ := pt5.2.2.2.2.2.1
        have e5 : F m5 1105 = ((a : Nat) : Int) := by rw [FR.F a4 (by simp [pq_n]), fq]; exact r2
        have be5 : hm_Fr_below N m5 p 1 = some (m5, m5.2.2.2 (pq p 35) W) := by
          have := below_e (N := N) (x := 1) (k := 1) (W := W + 2) (l := l4) pl5.2.2.1.1 e1 e2 e3 rfl (by omega)
          rw [show W + 2 - 1 - 1 = W by omega] at this
          exact this
        rw [be5, bnd_so, I_F' pl5.1.1.1]
        refine rb_bnd (pk_mo (tp1 w5' z33 pl5.2.2.1.2.1) (fun w4' r e => ?_))
        obtain ⟨rfl, rfl⟩ := e
        have tags : ∀ j, j < l1 → so (tlc (m5.2.2.2 (pq p 2)) (m5.2.2.2 (pq p 35) W) j) = 7 := fun i hi => by
          rw [tg rfl W (by omega) i (fun i2 h2 => by rw [jq, jq]; exact (hts i2 (by omega)).1), jq, jq]
          exact (hts i hi).1
        have tp5 : ∀ i, i < W + 2 → TPb b2' U2 ow2 kd2 P U2 ow2' kd2' P' (m5.2.2.2 (pq p 35) i) (w4'.2.2.2 91 (46000 * p + i)) := fun i hi => ⟨pl5.2.2.1.2.2 i hi, pt5.2.2.1.2 i hi, xc5.2.2.2.2.2.2.2.1 i hi⟩
        have tl5 := tl_TP pl5.1.2.1 pt5.1.2.2 xc5.2.1 (tp5 W (by omega)) tags
        have prs := fun i (hi : i < l1) => TP_pair pl5.1.2.1 pt5.1.2.2 xc5.2.1 (tl5 i (by omega)) (tags i hi)
        have hU2 := pl5.1.1.2.2
        have f44 : ∀ i, i < q → m5.2.2.2 44 i = (if fl i = true then 1 else 0) := fun i hi => by
          rw [a4.2.2.2 44 (by simp; exact ⟨fun c => pq_n (by omega) c, fun c => pq_n (by omega) c, fun c => pq_n (by omega) c, fun c => pq_n (by omega) c, fun c => pq_n (by omega) c⟩)]
          exact (hg.2.2 i (by omega)).1
        refine l_bnd (pk_mo (wo_m (N := N) (U := U2) (W := W) (C := cnk fl q) (k := q) (a := a) (lc := l4) (m0 := m5) (t1 := m5.2.2.2 (pq p 35) W) (fl := fl) (tt := selk fl (fun i => m5.2.2.2 (pq p 2) (vn (tlc (m5.2.2.2 (pq p 2)) (m5.2.2.2 (pq p 35) W) i))) q) pl5.2.2.1.1 e1 ⟨e2, e3⟩ e5 (by omega) (by omega) rfl rm5 f44 (fun i hi => ⟨(prs i (by omega)).1.2.1, (prs i (by omega)).1.2.2.1⟩) (fun i hi hf => selk_at q i hi hf) q M m5 0 (by omega) FR.rf ⟨fun _ _ => rfl, fun r hr => absurd hr (Nat.not_lt_zero _)⟩) (fun m7 _ hm7 => ?_))
        obtain ⟨lm, t4⟩ := hm7
        refine r_bnd (pk_mo (anw_c (N := N) (U := U2) (W := W) (k1 := q) (C := cnk fl q) (fl := fl) (xx := selk fl (fun i => hp w4' p (vn (tlc (hp w4' p) (w4'.2.2.2 91 (46000 * p + W)) i))) q) (te := tlc (hp w4' p) (w4'.2.2.2 91 (46000 * p + W)) q) (x1 := w4'.2.2.2 91 (46000 * p + W)) (w0 := w4') hpp z33 pl5.2.2.1.2.1 hW (by omega) (fun i hi => by rw [FR.A a5.1 (by simp)]; exact e168 i (by omega)) pl5.1.1.2.1 rfl rm5 (fun i hi => ⟨(prs i (by omega)).1.2.2.2.1, by have := (prs i (by omega)).1.2.2.2.2; omega⟩) (fun i hi hf => selk_at q i hi hf) rfl (Or.inr ⟨by rw [FR.F a5.1 (by simp)]; exact e169, rfl⟩) q N 0 w4' (by omega) FR.rf (fun q hq => absurd hq (Nat.not_lt_zero _))) (fun w7 _ lw => ?_))
        simp only [bnd_so]
        obtain ⟨⟨b3, pl7⟩, fm7, wX, sX, fw7, s98⟩ := anw_fin (j := j) hpp pl5 rm5 hW lm lw (fun i hi => by
          obtain ⟨i2, h1, h2, h3⟩ := selk_ex q i hi
          rw [h3, selk_at q i2 h1 h2, selk_at q i2 h1 h2]
          exact (prs i2 (by omega)).2.1.1) (tl5 q hq).1
        have fm5 : FGm p m4 m5 := FGm_xr a4
        have fw5 : FGw p j wE w4' := FGw_xr a5
        have ru7 := RUb_fg (RUb_sc sX (RUb_fg ruE fm5 fw5)) fm7 fw7
        have gg7 : GGw p w w7 := GGw.tr ggE (GGw.tr (GGw_fg fw5 hj) (GGw.tr (SCw_gg sX) (GGw_fg fw7 hj)))
        have fm27 : FGm p m3 m7 := FGm.tr fm4 (FGm.tr fm5 fm7)
        have sc7 : SCs p m3 w → SCs p m7 w7 := fun s => SC_fg (SC_ow (SC_fg (scE s) fm5 fw5) (fun _ _ => rfl) rfl (fun K h1 h2 => sX.2.2.1 K (by simp; omega))) fm7 fw7
        have h98 : A w7 98 (60 * p + j) = ((n + 1 : Nat) : Int) := by
          show (w7.2.2.1 98 _).toInt = _
          rw [s98]
          show A w4' 98 (60 * p + j) = _
          rw [FR.A a5.1 (by simp), FR.A fE (by simp)]
          exact x98
        refine kS b3 _ m7 w7 pl7 ⟨ru7.1, ⟨t4, h98⟩, ?_, ru7.2⟩ (GGm_fg fm27) gg7 sc7
        rw [ROs_eq gg7.2.1.1, gg7.2.1.2.1, show A m7 23 = A m3 23 from by funext i; exact FR.A fm27 (by simp [pq_n])]
        exact cr
      · rw [show decide ((0 : Int32) = 0) = true from rfl, br_t, br_t]
        have z33 : F w5' 133 = ((p : Nat) : Int) := by rw [FR.F a5.1 (by simp)]; exact xE
        have fw5 : FGw p j wE w5' := FGw_xr a5
        have e109 : A w5' 109 p ≠ 3 := by rw [FR.A fw5.1 (by simp), FR.A fE (by simp), FR.A g1.1 (by simp), r6]; omega
        have e150 : F w5' 150 = ((ee' : Nat) : Int) := by rw [FR.F fw5.1 (by simp), FR.F fE (by simp), FR.F g1.1 (by simp)]; exact hee'.1
        rw [noR_e hpp z33 e109 e150 hee'.2]
        simp only [bnd_so]
        exact kE m6 w5' (GGm_fg (FGm.tr fm4 (FGm_xr a4))) (GGw.tr ggE (GGw_fg fw5 hj)) (fun s => SC_fg (scE s) (FGm_xr a4) fw5) h5
end
