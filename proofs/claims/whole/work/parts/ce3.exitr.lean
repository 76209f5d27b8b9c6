/-! exit, toward itself: it traps -/
set_option maxRecDepth 100000
section
variable {p q k K i W : Nat} {m m2 w w2 : MS} {a c x : Int}
theorem wi_wi : wi (wi m k a) k c = wi m k c := by
  refine Prod.ext (funext (fun K => ?_)) rfl
  show (if K = k then I c else if K = k then I a else m.1 K) = (if K = k then I c else m.1 K)
  by_cases h : K = k
  · rw [if_pos h, if_pos h]
  · rw [if_neg h, if_neg h, if_neg h]
theorem wa_w2 : wa (wa w K i a) K i c = wa w K i c := by
  refine Prod.ext rfl (Prod.ext rfl (Prod.ext (funext (fun k => ?_)) rfl))
  by_cases h : k = K
  · subst h
    funext j
    by_cases h2 : j = i
    · subst h2
      rw [wa_s1, wa_s1]
    · rw [wa_at (fun z => h2 z.2), wa_at (fun z => h2 z.2), wa_at (fun z => h2 z.2)]
  · rw [wa_21 h, wa_21 h, wa_21 h]
theorem GGm_xe (h : XMm p m m2) : GGm p m m2 := ⟨fun d hd => LOCm_xm h hd, ⟨h.2.2.1 23 (by simp), h.1 22 (by simp [pq_n]), h.2.2.1 2 (by simp), h.2.2.1 3 (by simp)⟩, h.1 955 (by simp [pq_n]), h.2.2.1 54 (by simp), h.1 956 (by simp [pq_n]), fun K _ => h.2.2.1 K (by simp), fun k hk => h.1 k (by simp; exact ⟨pq_n (by omega), pq_n (by omega), pq_n (by omega)⟩)⟩
theorem EG_ggm (h : GGm p m m2) : EGm m m2 := ⟨fun K h1 _ => h.2.2.2.2.2.1 K h1, fun k h1 _ => h.2.2.2.2.2.2 k h1⟩
theorem EG_ggw (h : GGw p w w2) : EGw w w2 := ⟨fun K h1 => h.2.2.2.2.2.1 K h1, fun k h1 => h.2.2.2.2.2.2 k h1⟩
theorem EGm.tr {m3 : MS} (h : EGm m m2) (g : EGm m2 m3) : EGm m m3 := ⟨fun K h1 h2 => (g.1 K h1 h2).trans (h.1 K h1 h2), fun k h1 h2 => (g.2 k h1 h2).trans (h.2 k h1 h2)⟩
theorem EGw.tr {w3 : MS} (h : EGw w w2) (g : EGw w2 w3) : EGw w w3 := ⟨fun K h1 => (g.1 K h1).trans (h.1 K h1), fun k h1 => (g.2 k h1).trans (h.2 k h1)⟩
end
section
variable {α β : Type} {b : Int → Nat → Nat → Prop} {Fv Fv' : Int64 → Int64 → Prop} {P P' : Int64 → Prop} {N PR p i j0 U B W Y l j a n s f : Nat} {ow kd ow' kd' : Nat → Nat} {m w m2 w2 : MS} {nb : Nat → Nat} {Hs Os : Nat → List Nat} {y : Option (Nat × Nat × Nat)} {Q : MS → α → MS → β → Prop} {K1 : MS → Option (MS × α)} {K2 : MS → Option (MS × β)}
theorem op_exitR (hpp : p < PR) (h11 : F m (pq p 11) ≠ 0) (wl : WLs (RRp p) PR Fv P Fv' P' none i j0 m w) (hq9 : F m 955 = ((i : Nat) : Int)) (ru : RUs m w p j nb Hs Os y a n) (sc : SCs p m w) (hW : W + 2 ≤ 46000) (hl : F m2 (pq p 45) = ((l : Nat) : Int)) (hl2 : W + 2 ≤ l ∧ l ≤ 1000000) (pl : PLs b p m2 w2 U B (W + 2) Y) (pt : PTQ m2 p U ow kd Fv P B (W + 2) Y) (xc : CX w2 p (hp w2 p) U ow' kd' Fv' P' (W + 2) B Y) (hs : s ≤ 500) (z1 : SZc (m2.2.2.2 (pq p 2)) U ow kd Fv P f (m2.2.2.2 (pq p 35) (W + 1)) s) (hN : 3000000 ≤ N) (f1 : FGm p m m2) (h05 : F m2 1105 = ((a : Nat) : Int)) (g1 : FGw p j w w2) (h98 : A w2 98 (60 * p + j) = ((n + 1 : Nat) : Int)) (cr : ∃ f, CRs (A m 23) (ROs w) (w.2.2.2 34) f y (a + 2) (n + 1) (Hs j) (Os j)) (h5 : m2.2.2.2 (pq p 35) (W + 1) ≠ mk 1 5) (e4 : ¬ isH (m2.2.2.2 (pq p 35) W))
    (kA : ∀ b3 U3 Y3 m3 w3, (SFs Fv P Fv' P' PR m3 w3 → WLs (RRp p) PR Fv P Fv' P' none i j0 m3 w3) → PLs b3 p m3 w3 U3 B (W + 1) Y3 → RUs m3 w3 p j nb Hs Os y (a + 2) (n + 1) → EGm m m3 → EGw w w3 → PP Q (K1 m3) (K2 w3))
    (kD : ∀ m3 w3, (SFs Fv P Fv' P' PR m3 w3 → WLs (RRt p) PR Fv P Fv' P' none i j0 m3 w3) → F m3 (pq p 9) = 3 → A w3 109 p = 3 → EGm m m3 → EGw w w3 → (F m3 1109 = F m2 1109 ∧ F w3 133 = ((p : Nat) : Int)) → PP Q (K1 m3) (K2 w3)) : PP Q (bnd (hb_Ma_toward_95 N () m2 p (I 29) 2 (some p)) (fun u _ => K1 u)) (bnd (fb_M_processRun_151 N () w2 (I 8) (w2.2.2.2 91 (46000 * p + (W + 1))) (I ((p : Nat) : Int)) 92 (I ((p : Nat) : Int)) (I ((W + 2 : Nat) : Int)) 2) (fun u _ => K2 u)) := by
  obtain ⟨⟨fa, -⟩, -, -, ⟨q9, q9w⟩, -, -, r11, -, -⟩ := id ru
  have hj : j < 60 := fa.1.2.2
  have p24 : PR ≤ 24 := wl.1.2.1.1.1.2
  have cb2 : a + 2 + 1 < 24000 := by
    obtain ⟨f9, cr9⟩ := cr
    exact (CR_b cr9).1
  have hU := pl.1.1.2.2
  have rt := pl.2.2.1.2.2 (W + 1) (by omega)
  have rt0 := pl.2.2.1.2.2 W (by omega)
  have be0 : hm_Fr_below N m2 p 0 = some (m2, m2.2.2.2 (pq p 35) (W + 1)) := by
    have := below_e (N := N) (x := 0) (k := 0) (W := W + 2) (l := l) pl.2.2.1.1 hl hl2.1 hl2.2 rfl (by omega)
    rw [show W + 2 - 1 - 0 = W + 1 by omega] at this
    exact this
  have hal : F m (pq p 9) ≠ 3 := by rw [q9]; omega
  have hal' : A w 109 p ≠ 3 := by rw [q9w]; omega
  have gm1 := GGm_fg f1
  have own : ∀ k, k < 100 → k ≠ 4 → k ≠ 5 → k ≠ 26 → k ≠ 45 → m2.1 (pq p k) = m.1 (pq p k) := fun k h0 h1 h2 h3 h4 => f1.1 _ (by simp; exact ⟨pq_inj h1, pq_inj h2, pq_inj h3, pq_inj h4, fun c => pq_n (by omega) c.symm⟩)
  have e9 : F m2 (pq p 9) = F m (pq p 9) := congrArg Int32.toInt (own 9 (by omega) (by omega) (by omega) (by omega) (by omega))
  have e11 : F m2 (pq p 11) = F m (pq p 11) := congrArg Int32.toInt (own 11 (by omega) (by omega) (by omega) (by omega) (by omega))
  have e15 : F m2 (pq p 15) = F m (pq p 15) := congrArg Int32.toInt (own 15 (by omega) (by omega) (by omega) (by omega) (by omega))
  obtain ⟨⟨e, he⟩, e', he'⟩ := SF_e wl.1 hpp hal
  have ei : e = i := by
    have := he.1
    rw [hq9] at this
    omega
  subst ei
  obtain ⟨-, ⟨n0, q1, q2, -, -⟩, -, -⟩ := id wl
  have ej : e' = j0 := by
    rw [hq9] at q1
    have := he'.1
    rw [q2] at this
    omega
  subst ej
  have e955 : F m2 955 = ((e : Nat) : Int) := (congrArg Int32.toInt gm1.2.2.1).trans he.1
  have x33 : F w2 133 = ((p : Nat) : Int) := by rw [FR.F g1.1 (by simp)]; exact r11
  have h112 : A w 112 p ≠ 0 := by
    show (w.2.2.1 112 p).toInt ≠ 0
    rw [← sc.2.2.1]
    exact h11
  have hb15 : 0 ≤ F m2 (pq p 15) ∧ F m2 (pq p 15) ≤ 24 := by
    rw [e15]
    rcases wl.2.2.1 p hpp with ⟨x1, x2, b', U', B', W', Y', pl', -⟩ | ⟨x1, -⟩
    · exact (SF_al wl.1 hpp x1 pl').2.2.2
    · exact absurd x1 hal
  have zx5 : w2.2.2.2 91 (46000 * p + (W + 1)) ≠ mk 1 5 := fun c => h5 (by
    rcases rt with ⟨-, x, -⟩ | ⟨x1, x2, -⟩
    · rw [← x]; exact c
    · rw [c, so_mk (by omega) (by omega)] at x2
      unfold isH at x1
      omega)
  rw [tw95_29, be0, bnd_so, dec_ne h5, br_f, be0, bnd_so, oI, sig_t (by rw [e9]; exact hal) (by rw [e11]; exact h11), prr_8, sub2, tnI (n := p) rfl (by omega), wa_e]
  refine rb_ck (fun _ => rb_ck (fun _ => ?_))
  rw [lt_e, truth1, bnd_so]
  have y92 : A (wa w2 92 p ((W : Nat) : Int)) 92 p = ((W : Nat) : Int) := wa_sm (by omega) (by omega)
  have y33 : F (wa w2 92 p ((W : Nat) : Int)) 133 = ((p : Nat) : Int) := x33
  refine r_bb (r_bnd (pk_mo (put_r (N := N) (x := mk 1 0) (W := W) (by omega) y33 y92 (by omega)) (fun w8 _ e8 => ?_)))
  have n1 : ¬ isH (mk 1 0) := nh_mk (by omega)
  have n6 : so (mk 1 0) = 6 → va (mk 1 0) = 0 := fun c => by rw [so_mk (by omega) (by omega)] at c; omega
  -- here: as if the PROCESS waited
  generalize hwd : wa w2 92 p ((W + 1 : Nat) : Int) = wd
  have d92 : A wd 92 p = ((W + 1 : Nat) : Int) := by rw [← hwd]; exact wa_sm (by omega) (by omega)
  have e8' : w8 = Zp p W (mk 1 0) wd := by
    rw [e8, ← zp_put d92, ← hwd, wa_w2]
  have gd : FGw p j w wd := by rw [← hwd]; exact FGw.tr g1 FGw.w92
  have gwd := GGw_fg gd hj
  have d33 : F wd 133 = ((p : Nat) : Int) := by rw [← hwd]; exact x33
  have dJ : wd.2.2.2 = w2.2.2.2 := by rw [← hwd]; rfl
  have d98 : A wd 98 (60 * p + j) = ((n + 1 : Nat) : Int) := by rw [← hwd, wa_rne (by omega)]; exact h98
  have pld : PLs b p (wi m2 (pq p 26) ((W + 1 : Nat) : Int)) wd U B (W + 1) Y := by rw [← hwd]; exact PLs_drop (k := 1) (W := W + 1) pl (by omega)
  have xcd : CX wd p (hp wd p) U ow' kd' Fv' P' (W + 1) B Y := by
    obtain ⟨x1, x2, x3, x4, ⟨x5, x5'⟩, ⟨x6, x6'⟩, ⟨x7, x7'⟩, x8, x9, x10, x11⟩ := xc
    have ehd : hp wd p = hp w2 p := by unfold hp; rw [dJ]
    refine ⟨rfl, by rw [ehd]; exact x2, x3, x4, ⟨d92, by omega⟩, ⟨by rw [← hwd, wa_rne (by omega)]; exact x6, x6'⟩, ⟨by rw [← hwd, wa_rne (by omega)]; exact x7, x7'⟩, fun i hi => by rw [dJ]; exact x8 i (by omega), fun i hi => by rw [dJ]; exact x9 i hi, fun i hi => by rw [dJ]; exact x10 i hi, fun c => ?_⟩
    have e140 : F wd 140 = F w2 140 := by rw [← hwd]; rfl
    have e139 : wd.2.1 139 = w2.2.1 139 := by rw [← hwd]; rfl
    rw [e140] at c
    rw [e139]
    exact x11 c
  have gx : GT U ow' kd' P' (w2.2.2.2 91 (46000 * p + (W + 1))) := xc.2.2.2.2.2.2.2.1 (W + 1) (by omega)
  have cx2 : CTX Fv P m2 := CTX_fr wl.1.1.2 gm1.2.1.2.1 gm1.2.1.2.2.2
  have hed : F wd 150 = ((e' : Nat) : Int) ∧ e' < 4000 := ⟨(congrArg Int32.toInt gwd.2.2.1).trans he'.1, he'.2⟩
  have hald : A wd 109 p ≠ 3 := by rw [FR.A gd.1 (by simp)]; exact hal'
  have nxd : ¬ isH (wd.2.2.2 91 (46000 * p + W)) := fun c => by
    rw [dJ] at c
    exact e4 ((RTb_isH rt0).mp c)
  have key := post_pe (N := N) (W := W + 1) (e := e) (e' := e') (v3 := ((p : Nat) : Int)) (by omega) (by rw [e9]; exact hal) hald pld pt cx2 xcd rt gx z1 hs ⟨e955, he.2⟩ hed (by omega)
  have k33 : F w8 133 = ((p : Nat) : Int) := by rw [e8']; exact d33
  refine r_bb (exr_t (p := p) (q := p) (by omega) (by rw [e8']; exact hald) (by rw [e8']; show A wd 112 p ≠ 0; rw [FR.A gd.1 (by simp)]; exact h112) k33 zx5 (r_bb (l_bb (l_bb (pp_bb (fun m4 _ w10 _ ex1 ex2 => ?_))))))
  rw [e8'] at ex2
  obtain ⟨w9, ex3, rfl, -⟩ := zc_fm_M_message (N := N) (p := p) (W := W) (x := mk 1 0) (u := wd) ⟨n1, nxd⟩ rfl rfl rfl rfl rfl rfl rfl w10 () ex2
  have hM := key m4 () w9 () ex1 ex3
  simp only [bnd_so]
  -- the answer, there
  have kc : Kwcc m2 m4 := ywc_hm_Wl_post Kwc_rf m4 () ex1
  have f26 : F m4 (pq p 26) = ((W + 2 : Nat) : Int) := (congrArg Int32.toInt (kc (pq p 26) ⟨by unfold pq; omega, by unfold pq; omega⟩)).trans pl.2.2.1.1
  have f45 : F m4 (pq p 45) = ((l : Nat) : Int) := (congrArg Int32.toInt (kc (pq p 45) ⟨by unfold pq; omega, by unfold pq; omega⟩)).trans hl
  have f05 : F m4 1105 = ((a : Nat) : Int) := by
    rw [← h05]
    rcases hM with ⟨-, rfl, -⟩ | ⟨m1, w1, xm, -, -, rfl, -⟩ | ⟨-, U2, b2, -, xm, -⟩
    · rfl
    · exact congrArg Int32.toInt ((enS_1 (pq_n (by omega)) (pq_n (by omega)) (by omega)).trans (xm.1 1105 (by simp [pq_n])))
    · exact congrArg Int32.toInt (xm.1 1105 (by simp [pq_n]))
  unfold hb_Ma_toward_335 hm_Ma_answer hb_Ma_answer_0
  rw [show (2 : Int32) = I 2 from rfl, drop_e (W := W + 2) (k := 2) (x := 2) f26 rfl (by omega), bnd_so, show W + 2 - 2 = W by omega]
  simp only [bb_e, bnd_so]
  have e26' : F (wi m4 (pq p 26) ((W : Nat) : Int)) (pq p 26) = ((W : Nat) : Int) := wi_sm (by omega) (by omega)
  have e45' : F (wi m4 (pq p 26) ((W : Nat) : Int)) (pq p 45) = ((l : Nat) : Int) := by rw [wi_ne (pq_inj (by omega))]; exact f45
  refine l_bnd (pk_mo (push_m (N := N) (t := mk 1 0) e26' e45' (by omega) hl2.2) (fun m8 _ h => ?_))
  obtain ⟨y1, y2, y3⟩ := h
  have k05 : F m8 1105 = ((a : Nat) : Int) := by rw [FR.F y1 (by simp [pq_n]), wi_ne (pq_n (by omega))]; exact f05
  rw [I_F' k05, show I ((a : Nat) : Int) + I 2 = I ((a + 2 : Nat) : Int) from addN, wi_e]
  have f3 : FGm p m4 (wi m8 1105 ((a + 2 : Nat) : Int)) := FGm.tr (FGm.tr FGm.drop (FGm.push y1)) FGm.pc
  have gz : FGw p j w9 (Zp p W (mk 1 0) w9) := FGw_zp (by omega)
  have gm3 := GGm_fg f3
  have gwz := GGw_fg gz hj
  -- it lives on
  have live : XMm p m2 m4 → XMr p wd w9 → (∃ b3 U3 Y3, PLs b3 p (wi m4 (pq p 26) ((W + 1 : Nat) : Int)) w9 U3 B (W + 1) Y3) → PP Q (K1 (wi m8 1105 ((a + 2 : Nat) : Int))) (K2 (Zp p W (mk 1 0) w9)) := fun xm xr ⟨b3, U3, Y3, pl3⟩ => by
    have pd := PLs_drop (k := 1) (W := W) pl3 (by omega)
    rw [wi_wi] at pd
    have pl5 := PLs_pc (z := ((a + 2 : Nat) : Int)) (PLs_push (x := mk 1 0) pd (RTb_lit n1 n6) y1 y2 y3)
    rw [zp_put pl3.2.2.1.2.1] at pl5
    have rbd : RUb m2 wd p j nb Hs Os y := RUb_fg (RUs_b ru) f1 gd
    have pg9 := PGs_xm xm xr
    have rb9 : RUb m4 w9 p j nb Hs Os y := RUb_st rbd (EQm.xm xm p).n (EQw.xm xr p).v pg9
    obtain ⟨t1, ⟨t5, t6⟩, t7, ⟨t8, t9, t10⟩, t11, t12, t13⟩ := rb9
    have gmA := GGm.tr gm1 (GGm_xe xm)
    have gwA := GGw.tr gwd (GGw_xm xr)
    have h23 : A m4 23 = A m 23 := by funext k; show (m4.2.2.1 23 k).toInt = _; rw [gmA.2.1.1]; rfl
    have hRO : ROs w9 = ROs w := ROs_eq gwA.2.1.1
    have x98 : A (Zp p W (mk 1 0) w9) 98 (60 * p + j) = ((n + 1 : Nat) : Int) := by
      show A w9 98 (60 * p + j) = _
      rw [FR.A xr.1 (by simp)]
      exact d98
    have ru3 := RUs_mk (a2 := a + 2) (n2 := n + 1) t1 t5 t6 t7 t8 t9 t10 t11 t12 t13 f3 gz (wi_sm (by omega) (by omega)) x98 (by rw [h23, hRO, gwA.2.1.2.1]; exact cr)
    have sc9 : SCs p m4 w9 := SC_eq (SC_fg sc f1 gd) hb15.2 (EQm.xm xm p) (EQw.xm xr p)
    have gm := GGm.tr gmA gm3
    have gw := GGw.tr gwA gwz
    exact kA b3 U3 Y3 _ _ (fun s3 => WL_own (WL_t wl) hpp hal hal' s3 gm gw pl5 (SC_fg sc9 f3 gz) ru3) pl5 ru3 (EG_ggm gm) (EG_ggw gw)
  rcases hM with ⟨-, rfl, rfl⟩ | ⟨m1, w1, xm, xr, x5, rfl, rfl⟩ | ⟨hY, U2, b2, pl2, xm, xr⟩
  · exact live FR.rf XMr.rf ⟨b, U, Y, pld⟩
  · -- no room: it ENDS
    have v := enS_v (m := m1) (q := p) (t := mk 1 20) (hm := p) (e := e)
    have a9 := enR_9 (w := w1) (q := p) (wr := 0) (o := p) (x := mk 1 20) (e := e')
    obtain ⟨u1, u2⟩ := enS_q (m := m1) (t := mk 1 20) (hm := p) (show e < 1000 by omega) (show p < 1000 by omega)
    obtain ⟨v1, v2, v3, v4, v5⟩ := enR_q (w := w1) (x := mk 1 20) (wr := 0) (o := p) (show e' < 10000 by omega) (show p < 1000 by omega) (by omega) ⟨by omega, by omega⟩
    have fr := enR_fr (w := w1) (q := p) (wr := 0) (o := p) (x := mk 1 20) (e := e')
    have nE : ∀ k, k < 2000 → k ≠ 955 → (enS m1 p (mk 1 20) p e).1 k = m1.1 k := fun k hk h => enS_1 (pq_n hk) (pq_n hk) h
    have nk : ∀ k, k < 100 → k ≠ 9 → k ≠ 17 → (enS m1 p (mk 1 20) p e).1 (pq p k) = m1.1 (pq p k) := fun k h0 h1 h2 => enS_1 (pq_inj h1) (pq_inj h2) (fun c => pq_n (by omega) c.symm)
    have nA : ∀ K, K ≠ 54 → (enS m1 p (mk 1 20) p e).2.2.1 K = m1.2.2.1 K := fun K h => enS_3 h
    have LM : ∀ d, d ≠ p → LOCm d m1 (enS m1 p (mk 1 20) p e) := fun d hd => LOCm_en hd
    have u2' : A (enS m1 p (mk 1 20) p e) 54 e = ((p : Nat) : Int) := by rw [u2, if_pos rfl]
    have gmA := GGm.tr gm1 (GGm_xe xm)
    have gwA := GGw.tr gwd (GGw_xm xr)
    have sc1 : SCs p m1 w1 := SC_eq (SC_fg sc f1 gd) hb15.2 (EQm.xm xm p) (EQw.xm xr p)
    have e151 : F m1 (pq p 15) = F m2 (pq p 15) := FR.F xm (by simp; exact ⟨pq_inj (by omega), pq_inj (by omega), pq_inj (by omega)⟩)
    have hP : P (mk 1 20) := cx2.2.2.2.2.2.1 20 (by omega) (by have := cx2.2.2.2.1; omega)
    have hP' : P' (mk 1 20) := wl.1.2.2.1 20 (by omega) (by omega)
    have m20 : ¬ isH (mk 1 20) := nh_mk (by omega)
    have m26 : so (mk 1 20) = 6 → va (mk 1 20) = 0 := fun c => by rw [so_mk (by omega) (by omega)] at c; omega
    have e1109 : F m1 1109 = F m2 1109 := FR.F xm (by simp [pq_n])
    have w133 : F w1 133 = ((p : Nat) : Int) := by rw [FR.F xr.1 (by simp)]; exact d33
    generalize hmE : enS m1 p (mk 1 20) p e = mE at v u1 u2' nk nE LM nA f3 gm3 y1
    have h3k : ∀ k, k < 100 → k ≠ 26 → k ≠ 45 → (wi m8 1105 ((a + 2 : Nat) : Int)).1 (pq p k) = mE.1 (pq p k) := fun k h0 h1 h2 => by
      rw [wi_1 (fun c => pq_n (by omega) c.symm), y1.1 _ (by simp; exact ⟨pq_inj h1, pq_inj h2⟩), wi_1 (pq_inj h1)]
    have h3L : ∀ k, (wi m8 1105 ((a + 2 : Nat) : Int)).2.1 k = mE.2.1 k := fun k => y1.2.1 k (by simp)
    have h3A : ∀ K, (wi m8 1105 ((a + 2 : Nat) : Int)).2.2.1 K = mE.2.2.1 K := fun K => y1.2.2.1 K (by simp)
    generalize wi m8 1105 ((a + 2 : Nat) : Int) = m3 at f3 h3k h3L h3A gm3
    have k93 : F m3 (pq p 9) = 3 := (congrArg Int32.toInt (h3k 9 (by omega) (by omega) (by omega))).trans v.1
    have a9p : A (enR w1 p 0 ((p : Nat) : Int) (mk 1 20) e') 109 p = 3 := by rw [a9, if_pos rfl]
    have x148 : (enR w1 p 0 ((p : Nat) : Int) (mk 1 20) e').2.2.2 148 e' = mk 1 20 := by rw [v5, if_pos rfl]
    have z148 : (Zp p W (mk 1 0) (enR w1 p 0 ((p : Nat) : Int) (mk 1 20) e')).2.2.2 148 e' = mk 1 20 := by
      rw [zr_J (by omega)]
      exact x148
    have aw : ∀ K, K < 88 ∨ (118 ≤ K ∧ K ≤ 130) ∨ K = 113 ∨ K = 114 ∨ K = 116 ∨ K = 117 ∨ K = 90 → (enR w1 p 0 ((p : Nat) : Int) (mk 1 20) e').2.2.1 K = w1.2.2.1 K := fun K h => fr.2.2.1 K (by simp; omega)
    have nW : ∀ k, k ≠ 150 → (enR w1 p 0 ((p : Nat) : Int) (mk 1 20) e').1 k = w1.1 k := fun k h => fr.1 k (by simpa using h)
    have LW : ∀ d, d ≠ p → LOCw d w (Zp p W (mk 1 0) (enR w1 p 0 ((p : Nat) : Int) (mk 1 20) e')) := fun d hd => (gwA.1 d hd).tr2 ((LOCw_en hd).tr2 (gwz.1 d hd))
    have rq : RQs Fv P Fv' P' PR m3 (Zp p W (mk 1 0) (enR w1 p 0 ((p : Nat) : Int) (mk 1 20) e')) p 0 p ((Zp p W (mk 1 0) (enR w1 p 0 ((p : Nat) : Int) (mk 1 20) e')).2.2.2 148 e') := by
      rw [z148]
      refine ⟨p, 0, by rw [h3k 17 (by omega) (by omega) (by omega), v.2.1]; exact rf_some (by omega), hpp, k93, Or.inr ⟨hpp, a9p⟩, ?_, Or.inl ⟨m20, hP'⟩⟩
      rw [h3L, v.2.2]
      exact SRs_lit m20 m26 hP hP' (by omega) (by omega)
    have qe : QEs m3 (Zp p W (mk 1 0) (enR w1 p 0 ((p : Nat) : Int) (mk 1 20) e')) p := by
      refine QE_sc sc1 (by rw [e151]; exact hb15) x5 (fun k hk => ?_) ?_ (fun K hK => ?_) ?_ ?_
      · rw [h3k k (by omega) (by omega) (by omega), nk k (by omega) (by omega) (by omega)]
      · rw [h3A, nA _ (fun c => pq_n (by omega) c.symm)]
      · show (enR w1 p 0 ((p : Nat) : Int) (mk 1 20) e').2.2.1 K p = _
        rw [aw K (by omega)]
      · exact aw 116 (by omega)
      · exact aw 117 (by omega)
    refine kD m3 _ (fun s3 => ?_) k93 a9p ⟨fun K h1 h2 => ?_, fun k h1 h2 => ?_⟩ ⟨fun K h => (aw K (by omega)).trans (gwA.2.2.2.2.2.1 K h), fun k h => (nW k (by omega)).trans (gwA.2.2.2.2.2.2 k h)⟩ ⟨?_, ?_⟩
    · refine WL_endp (WL_t wl) hal hpp hq9 s3 (fun d hd => ⟨LOCm.tr (LOCm.tr (gmA.1 d hd) (LM d hd)) (gm3.1 d hd), fun _ => LW d hd⟩) ?_ ?_ ?_ v1 (by show A (enR w1 p 0 ((p : Nat) : Int) (mk 1 20) e') 145 e' = _; rw [v2, if_pos rfl]) (by show A (enR w1 p 0 ((p : Nat) : Int) (mk 1 20) e') 146 e' = _; rw [v3, if_pos rfl]) (by show A (enR w1 p 0 ((p : Nat) : Int) (mk 1 20) e') 147 e' = _; rw [v4, if_pos rfl]) ⟨k93, a9p⟩ rq qe
      · exact ⟨⟨gm3.2.1.1.trans ((nA 23 (by omega)).trans gmA.2.1.1), gm3.2.1.2.1.trans ((nE 22 (by omega) (by omega)).trans gmA.2.1.2.1), ATc_eq (gm3.2.1.2.2.1.trans ((nA 2 (by omega)).trans gmA.2.1.2.2.1)) (gm3.2.1.2.2.2.trans ((nA 3 (by omega)).trans gmA.2.1.2.2.2))⟩, fun K hK => (aw K (by unfold PRr at hK; omega)).trans (gwA.2.1.1 K hK), (gwz.2.1.2.1.trans (fr.2.2.2 34 (by simp))).trans gwA.2.1.2.1, (aw 12 (by omega)).trans gwA.2.1.2.2.1, (aw 13 (by omega)).trans gwA.2.1.2.2.2.1, (nW 14 (by omega)).trans gwA.2.1.2.2.2.2⟩
      · rw [show F m3 955 = F mE 955 from congrArg Int32.toInt gm3.2.2.1]
        exact u1
      · rw [show A m3 54 e = A mE 54 e from congrArg Int32.toInt (congrFun gm3.2.2.2.1 e)]
        exact u2'
    · rw [gm3.2.2.2.2.2.1 K h1, nA K h2, gmA.2.2.2.2.2.1 K h1]
    · rw [gm3.2.2.2.2.2.2 k h1, nE k (by omega) h2, gmA.2.2.2.2.2.2 k h1]
    · rw [← e1109]
      show (m3.1 1109).toInt = (m1.1 1109).toInt
      rw [f3.1 1109 (by simp [pq_n]), nE 1109 (by omega) (by omega)]
    · show ((enR w1 p 0 ((p : Nat) : Int) (mk 1 20) e').1 133).toInt = _
      rw [nW 133 (by omega)]
      exact w133
  · exact live xm xr ⟨b2, U2, Y + 1, pl2⟩
end
