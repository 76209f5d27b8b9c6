/-! a FUN is made, both sides -/
set_option maxRecDepth 100000
section
variable {α β : Type} {b : Int → Nat → Nat → Prop} {Fv Fv' : Int64 → Int64 → Prop} {P P' : Int64 → Prop} {ow kd ow' kd' : Nat → Nat} {N p U B W Y l j a n uu bb ff ee ee' : Nat} {m w : MS} {nb : Nat → Nat} {Hs Os : Nat → List Nat} {y : Option (Nat × Nat × Nat)} {v : Int} {Q : MS → α → MS → β → Prop} {K1 : MS → Option (MS × α)} {K2 : MS → Option (MS × β)}
theorem one_14 : fm_M_one N w (I v) (I 14) = bnd (fm_M_goTo N w (I v + 1)) (fun u7 _ => bnd (fm_M_funRun N u7 (I v) (I 14)) (fun u1 _ => some (u1, ()))) := rfl
theorem one_15 : fm_M_one N w (I v) (I 15) = bnd (fm_M_goTo N w (I v + 1)) (fun u7 _ => bnd (fm_M_funRun N u7 (I v) (I 15)) (fun u1 _ => some (u1, ()))) := rfl
/-- names of the FRAME that goes -/
theorem NMx_of (fa : FAs m w p j nb Hs Os) (hB : nb j + (Hs j ++ Os j).length ≤ 2500) : NMx m p (nb j) (Hs j) (Os j) := ⟨fa.2.2.2, hB, (fa.2.1 j (Nat.le_refl _)).2.2.2.2.2⟩
theorem NWx_of (fa : FAs m w p j nb Hs Os) (hpp : p < 24) (h3 : F w 133 = ((p : Nat) : Int)) : NWx w p j (nb j) (Hs j) := ⟨hpp, h3, fa.1.2.1, fa.1.2.2, (fa.2.1 j (Nat.le_refl _)).2.2.1.2, (fa.2.1 j (Nat.le_refl _)).2.2.2.2.1⟩
/-- a FUN is made -/
theorem op_fun (hpp : p < 24) (pl : PLs b p m w U B W Y) (ru : RUs m w p j nb Hs Os y a n) (hW : W < 46000) (hB : B ≤ 2500) (pt : PTQ m p U ow kd Fv P B W Y) (cx : CTX Fv P m) (xc : CX w p (hp w p) U ow' kd' Fv' P' W B Y) (g : HPc (m.2.2.2 (pq p 2)) U ow kd Fv P) (g' : HP (hp w p) U ow' kd' Fv' P') (hF : FVc Fv) (h140 : F w 140 = -1) (h25 : A w 25 n = ((uu : Nat) : Int)) (huu : uu < 100000) (h54 : A w 54 uu = ((l : Nat) : Int)) (h55 : A w 55 uu = ((bb : Nat) : Int)) (hbb : bb < 900000) (hl1 : l ≤ 100) (c1 : A m 23 (a + 1) = ((uu : Nat) : Int)) (c2 : A m 23 (a + 2) = ((l : Nat) : Int)) (lk : ∀ k, k < l → LKP (Hs j) (Os j) (A m 23 (a + 3 + k)) (A w 57 (bb + k))) (nd : (Os j).Nodup ∧ (Hs j).Nodup) (hee : F m 955 = ((ee : Nat) : Int) ∧ ee < 24) (hee' : F w 150 = ((ee' : Nat) : Int) ∧ ee' < 4000) (hN : 2200000 ≤ N) (cr : ∃ f, CRs (A m 23) (ROs w) (w.2.2.2 34) f y (a + 3 + l) (n + 1) (Hs j) (Os j))
    (kS : ∀ b3 U3 m3 w3, PLs b3 p m3 w3 U3 B (W + 1) Y → RUs m3 w3 p j nb Hs Os y (a + 3 + l) (n + 1) → FGm p m m3 → FGw p j w w3 → PP Q (K1 m3) (K2 w3))
    (kX : ∀ m3 w3, FGm p m m3 → FGw p j w w3 → PLs b p m3 w3 U B W Y → RUb m3 w3 p j nb Hs Os y → PTQ m3 p U ow kd Fv P B W Y → CX w3 p (hp w3 p) U ow' kd' Fv' P' W B Y → F w3 140 = -1 → PP Q (K1 (tld m3 1 (-1) (mk 1 11))) (bnd (fr_M_error N w3 11) (fun u _ => K2 u)))
    (kE : ∀ m3 w3, FGm p m m3 → FGw p j w w3 → m3.1 (pq p 5) = w3.2.2.1 90 p → PP Q (K1 (enS m3 p (mk 1 20) p ee)) (K2 (wi (enR w3 p 0 ((p : Nat) : Int) (mk 1 20) ee') 151 1))) : PP Q (bnd (hm_Ma_making N m p (I 6)) (fun u _ => K1 u)) (bnd (fm_M_one N w (I ((n : Nat) : Int)) (I 14)) (fun u _ => K2 u)) := by
  obtain ⟨⟨fa, ct⟩, ⟨r2, r3⟩, ⟨f0, cr0⟩, ⟨r5, r6⟩, r7, ⟨r8, r9, r10⟩, r11, r12, r13⟩ := id ru
  have cb := CR_b cr0
  have cb2 : a + 3 + l + 1 < 24000 := by
    obtain ⟨f9, cr9⟩ := cr
    exact (CR_b cr9).1
  have hj : j < 60 := fa.1.2.2
  have eB : B = nb j + (Hs j ++ Os j).length := by
    have h1 := fa.2.2.2
    have h2 := pl.2.1.1
    omega
  have nm := NMx_of fa (by omega)
  have nw := NWx_of fa hpp r11
  obtain ⟨kn, nk⟩ : ∃ kn : Nat → Nat, ∀ k, k < l → NKs (Hs j) (Os j) (A m 23 (a + 3 + k)) (A w 57 (bb + k)) (kn k) := Classical.axiomOfChoice (r := fun k z => k < l → NKs (Hs j) (Os j) (A m 23 (a + 3 + k)) (A w 57 (bb + k)) z) (fun k => by
    by_cases c : k < l
    · obtain ⟨z, hz⟩ := nk_of nd (lk k c)
      exact ⟨z, fun _ => hz⟩
    · exact ⟨0, fun h => absurd h c⟩)
  rw [mak6, one_14, I_F' r2, show I ((a : Nat) : Int) + 1 = I ((a + 1 : Nat) : Int) from addN, Co_e (k := a + 1) rfl (by omega), bnd_so, c1, show I ((n : Nat) : Int) + 1 = I ((n + 1 : Nat) : Int) from addN]
  refine l_bb (r_bb ?_)
  refine r_bnd (pk_mo (goto_r (N := N) (n := ((n + 1 : Nat) : Int)) hpp r11 fa.1.2.1 hj) (fun w1 _ e => ?_))
  subst e
  refine r_bb ?_
  generalize hw1 : wa w 98 (60 * p + j) ((n + 1 : Nat) : Int) = w1
  have g1 : FGw p j w w1 := by rw [← hw1]; exact FGw.goto
  have pl1 : PLs b p m w1 U B W Y := by rw [← hw1]; exact PLs_98 pl
  have x33 : F w1 133 = ((p : Nat) : Int) := by rw [← hw1]; exact r11
  have x98 : A w1 98 (60 * p + j) = ((n + 1 : Nat) : Int) := by rw [← hw1, wa_sm (by omega) (by omega)]
  have hp1 : hp w1 p = hp w p := by rw [← hw1]; rfl
  have xc1 : CX w1 p (hp w1 p) U ow' kd' Fv' P' W B Y := by rw [← hw1]; exact CX_98 xc
  have a1 : ∀ K i, K ≠ 98 → A w1 K i = A w K i := fun K i h => by rw [← hw1, wa_rne h]
  have nw1 : NWx w1 p j (nb j) (Hs j) := ⟨hpp, x33, (a1 95 _ (by omega)).trans nw.2.2.1, hj, (a1 99 _ (by omega)).trans nw.2.2.2.2.1, (a1 101 _ (by omega)).trans nw.2.2.2.2.2⟩
  have nk1 : ∀ k, k < l → NKs (Hs j) (Os j) (A m 23 (a + 3 + k)) (A w1 57 (bb + k)) (kn k) := fun k hk => by rw [a1 57 _ (by omega)]; exact nk k hk
  have tp : ∀ i, i < nb j + (Hs j ++ Os j).length → TPb b U ow kd P U ow' kd' P' (m.2.2.2 (pq p 33) i) (w1.2.2.2 93 (2500 * p + i)) := fun i hi => ⟨pl1.2.1.2.2 i (by omega), pt.2.1.2 i (by omega), xc1.2.2.2.2.2.2.2.2.1 i (by omega)⟩
  unfold hm_Ma_fun hb_Ma_fun_0 fm_M_funRun fb_M_funRun_0 fb_M_funRun_23
  rw [I_F' r2, show I ((a : Nat) : Int) + 2 = I ((a + 2 : Nat) : Int) from addN, Co_e (k := a + 2) rfl (by omega), bnd_so, c2]
  refine rb_ck (fun _ => ?_)
  rw [show decide (I 14 = 15) = false from rfl, br_f, tnI (n := n) rfl (by omega), I_A' ((a1 25 _ (by omega)).trans h25)]
  refine rb_ck (fun _ => ?_)
  rw [tnI (n := uu) rfl (by omega), I_A' ((a1 54 _ (by omega)).trans h54), show (2 : Int32) + I ((l : Nat) : Int) = I ((2 + l : Nat) : Int) from addN, show I ((l : Nat) : Int) + 2 = I ((l + 2 : Nat) : Int) from addN, show (0 : Int32) = I ((0 : Nat) : Int) from rfl]
  refine fsz_lp (U := U) (l := l) (kn := kn) (bb := bb) (a := a) hpp rfl hp1 g pl.1.1.2.2 hF g' pl.1.2.1 tp nm nw1 r2 (by omega) ((a1 55 _ (by omega)).trans h55) (by omega) (by omega) hl1 nk1 (by omega) (fun m2 w2 M M2 Z Z' f2 f3 hZ b1 b2 => ?_) l N N m w1 0 (l + 2) (2 + l) (by omega) FR.rf FR.rf (by omega) (by omega) (by omega)
  have fm2 : FGm p m m2 := FR.mo f2 (by simp) (by simp) (by simp) (by simp)
  have fw2 : FGw p j w1 w2 := ⟨FR.mo f3 (by simp) (by simp) (by simp) (by simp), fun _ _ => ⟨FR.A f3 (by simp), by rw [f3.2.2.1 90 (by simp)], FR.A f3 (by simp)⟩, fun _ _ => FR.A f3 (by simp), fun _ _ => by rw [f3.2.2.2 88 (by simp)], fun _ _ => by rw [f3.2.2.2 91 (by simp)], fun _ _ => by rw [f3.2.2.2 93 (by simp)], fun _ _ => by rw [f3.2.2.2 107 (by simp)]⟩
  have jq : ∀ d, m2.2.2.2 (pq p d) = m.2.2.2 (pq p d) := fun d => f2.2.2.2 _ (by simp; exact fun c => pq_n (by omega) c.symm)
  have pl2 : PLs b p m2 w2 U B W Y := PLs_cg pl1 (fun d _ => f2.1 _ (by simp)) (fun i _ => by rw [jq]) (fun i _ => by rw [jq]) (fun i _ => by rw [jq]) (fun i _ => by rw [jq]) (fun K hK => by rw [f3.2.2.1 K (by simp)]) (fun i _ => by rw [f3.2.2.2 88 (by simp)]) (fun i _ => by rw [f3.2.2.2 93 (by simp)]) (fun i _ => by rw [f3.2.2.2 91 (by simp)]) (fun i _ => by rw [f3.2.2.2 107 (by simp)])
  have ru2 : RUb m2 w2 p j nb Hs Os y := RUb_fg (RUb_fg (RUs_b ru) FGm.rf g1) fm2 fw2
  rw [show (500 : Int32) = I ((500 : Nat) : Int) from rfl, decI (by omega) (by omega) (by omega) (by omega), decI (by omega) (by omega) (by omega) (by omega)]
  by_cases cz : Z ≤ 500
  · have cz' : Z' ≤ 500 := by omega
    rw [decide_eq_true (by omega), decide_eq_true (by omega), br_t, br_t]
    unfold funA funB
    have y33 : F w2 133 = ((p : Nat) : Int) := by rw [FR.F f3 (by simp)]; exact x33
    have y40 : F w2 140 = -1 := by rw [FR.F f3 (by simp), ← hw1]; exact h140
    have pt2 : PTQ m2 p U ow kd Fv P B W Y := PTQ_same pt (fun d _ => f2.1 _ (by simp)) (fun d _ => jq d)
    have cx2 : CTX Fv P m2 := CTX_fr cx (f2.1 22 (by simp)) (f2.2.2.1 3 (by simp))
    have xc2 : CX w2 p (hp w2 p) U ow' kd' Fv' P' W B Y := CX_141 xc1 f3
    have e9 : F m2 (pq p 9) ≠ 3 := by
      rw [FR.F f2 (by simp), r5]; omega
    have ee2 : F m2 955 = ((ee : Nat) : Int) ∧ ee < 24 := ⟨by rw [FR.F f2 (by simp)]; exact hee.1, hee.2⟩
    rw [I_F' y33, show (2 : Int32) + I ((l : Nat) : Int) = I ((l + 2 : Nat) : Int) by rw [show (2 : Int32) = I 2 from rfl, I_add]; congr 1; omega, show I ((l : Nat) : Int) + 2 = I ((l + 2 : Nat) : Int) from addN]
    refine l_bb (r_bb ?_)
    refine pp_bb (pp_mo (room_pp (N := N) (k := l + 2) pt2 cx2 xc2 pl2 y40 (by omega) e9 ee2 hN) (fun m4 r4 w4 r5' q9 => ?_))
    rcases q9 with ⟨rfl, rfl, a4, a5, b2', U2, pl4, rm4, ⟨ow2, kd2, pt4⟩, -⟩ | ⟨rfl, rfl, m5, a4, a5, rfl, h5⟩
    · rw [show decide ((1 : Int32) = 0) = false from rfl, br_f, br_f]
      have fm4 : FGm p m m4 := FGm.tr fm2 (FGm_xr a4)
      have fw4 : FGw p j w1 w4 := FGw.tr fw2 (FGw_xr a5)
      have z33 : F w4 133 = ((p : Nat) : Int) := by rw [FR.F a5.1 (by simp)]; exact y33
      have z89 : A w4 89 p = ((U2 : Nat) : Int) := pl4.1.1.2.1
      have z4 : F m4 (pq p 4) = ((U2 : Nat) : Int) := pl4.1.1.1
      obtain ⟨l4, e1, e2, e3⟩ := pt4.2.2.2.2.2.1
      -- there
      rw [show (8 : Int32) = I 8 from rfl, e_make, bnd_so, I_F' z4, (I_inb (by omega) (by omega)).mpr ⟨by omega, by omega⟩, ck_t, tnI (n := U2) rfl (by omega), wj_e, lt_e, e_make, bnd_so, show I ((U2 : Nat) : Int) + 1 = I ((U2 + 1 : Nat) : Int) from addN, (I_inb (by omega) (by omega)).mpr ⟨by omega, by omega⟩, ck_t, tnI (n := U2 + 1) rfl (by omega), wj_e, lt_e]
      -- here
      refine rb_ck (fun _ => ?_)
      rw [lt_e]
      refine rb_ck (fun _ => rb_ck (fun _ => ?_))
      rw [I_F' z33, tnI (n := p) rfl (by omega), I_A' z89, addN, wa_e, lt_e, show decide (I 14 = 15) = false from rfl, br_f]
      unfold fb_M_funRun_177
      refine rb_ck (fun _ => rb_ck (fun _ => ?_))
      have z33' : F (wa w4 89 p ((U2 + (l + 2) : Nat) : Int)) 133 = ((p : Nat) : Int) := z33
      have sp : I ((p : Nat) : Int) * 500 + I ((U2 : Nat) : Int) = I ((500 * p + U2 : Nat) : Int) := by
        rw [show (500 : Int32) = I 500 from rfl, I_mul, I_add]
        congr 1
        omega
      rw [I_F' z33', sp, tnI (n := 500 * p + U2) rfl (by omega), wj_e, lt_e]
      refine rb_ck (fun _ => ?_)
      have z33'' : F (wj (wa w4 89 p ((U2 + (l + 2) : Nat) : Int)) 88 (500 * p + U2) (I ((uu : Nat) : Int)).toInt64) 133 = ((p : Nat) : Int) := z33
      rw [I_F' z33'', sp, show I ((500 * p + U2 : Nat) : Int) + 1 = I ((500 * p + U2 + 1 : Nat) : Int) from addN, tnI (n := 500 * p + U2 + 1) rfl (by omega), wj_e, lt_e]
      generalize hm6 : wj (wj m4 (pq p 2) U2 (mk 8 ((uu : Nat) : Int))) (pq p 2) (U2 + 1) (mk 8 ((l : Nat) : Int)) = m6
      generalize hw6 : wj (wj (wa w4 89 p ((U2 + (l + 2) : Nat) : Int)) 88 (500 * p + U2) (I ((uu : Nat) : Int)).toInt64) 88 (500 * p + U2 + 1) (I ((l : Nat) : Int)).toInt64 = w6
      have g6 : FR [] [] [] [pq p 2] m4 m6 := by rw [← hm6]; exact FR.wj (FR.wj FR.rf (by simp)) (by simp)
      have fr6 : FR [] [] [89] [88] w4 w6 := by rw [← hw6]; exact FR.wj (FR.wj (FR.wa FR.rf (by simp)) (by simp)) (by simp)
      have i6 : m6.1 = m4.1 := by rw [← hm6]; rfl
      have f6 : ∀ d, F m6 d = F m4 d := fun d => by show (m6.1 d).toInt = _; rw [i6]; rfl
      have e5 : F m6 1105 = ((a : Nat) : Int) := by
        rw [f6, FR.F a4 (by simp [pq_n]), FR.F f2 (by simp)]
        exact r2
      have r4a : ∀ K i, A m4 K i = A m K i := fun K i => by rw [FR.A a4 (by simp), FR.A f2 (by simp)]
      have r6a : ∀ K i, A m6 K i = A m K i := fun K i => by rw [FR.A g6 (by simp)]; exact r4a K i
      have w6a : ∀ K i, K ≠ 89 → K ≠ 90 → K ≠ 135 → A w6 K i = A w1 K i := fun K i h1 h2 h3 => by rw [FR.A fr6 (by simp; omega), FR.A a5.1 (by simp; omega), FR.A f3 (by simp)]
      have nm6 : NMx m6 p (nb j) (Hs j) (Os j) := ⟨by rw [f6]; rw [pl4.2.1.1, eB], by omega, fun i x hx => by rw [r6a]; exact nm.2.2 i x hx⟩
      have nk6 : ∀ k, k < l → NKs (Hs j) (Os j) (A m6 23 (a + 3 + k)) (A w6 57 (bb + k)) (kn k) := fun k hk => by rw [r6a, w6a 57 _ (by omega) (by omega) (by omega)]; exact nk1 k hk
      refine l_bnd (pk_mo (fcl_m (N := N) (l := l) (U := U2) (W := W) (lc := l4) (a := a) (m0 := m6) (w0 := w6) (bb := bb) (kn := kn) ((f6 _).trans pl4.2.2.1.1) ((f6 _).trans e1) ⟨e2, e3⟩ ((f6 _).trans z4) e5 (by omega) rm4 nm6 nk6 l M m6 0 (by omega) FR.rf (fun _ _ => rfl) (fun q h => by omega)) (fun m7 _ hh => ?_))
      obtain ⟨t1, t2, t3, t4, t5, t6, t7⟩ := hh
      have z336 : F w6 133 = ((p : Nat) : Int) := by rw [FR.F fr6 (by simp)]; exact z33
      have z926 : A w6 92 p = ((W : Nat) : Int) := by rw [FR.A fr6 (by simp)]; exact pl4.2.2.1.2.1
      have nw6 : NWx w6 p j (nb j) (Hs j) := ⟨hpp, z336, (w6a 95 _ (by omega) (by omega) (by omega)).trans nw1.2.2.1, hj, (w6a 99 _ (by omega) (by omega) (by omega)).trans nw1.2.2.2.2.1, (w6a 101 _ (by omega) (by omega) (by omega)).trans nw1.2.2.2.2.2⟩
      refine r_bnd (pk_mo (fcl_r (N := N) (l := l) (U := U2) (W := W) (uu := uu) (bb := bb) (a := a) (m0 := m6) (w0 := w6) (kn := kn) (O := Os j) hpp z926 (by omega) rm4 nw6 (by omega) ((w6a 55 _ (by omega) (by omega) (by omega)).trans ((a1 55 _ (by omega)).trans h55)) (by omega) (by omega) nk6 l M2 w6 0 (by omega) FR.rf (fun _ _ => rfl) (fun q h => by omega)) (fun w7 _ hh => ?_))
      obtain ⟨w5, s1, s2, s3, rfl⟩ := hh
      show PP Q (K1 m7) (K2 _)
      -- the new cells
      have m635 : m6.2.2.2 (pq p 35) = m4.2.2.2 (pq p 35) := g6.2.2.2 _ (by simp; exact pq_inj (by omega))
      have m633 : m6.2.2.2 (pq p 33) = m4.2.2.2 (pq p 33) := g6.2.2.2 _ (by simp; exact pq_inj (by omega))
      generalize hw7 : wa (wj w5 91 (46000 * p + W) (mk 3 ((U2 : Nat) : Int))) 92 p ((W + 1 : Nat) : Int) = w7
      have f7 : FR [] [] [89, 92] [88, 91] w4 w7 := by
        rw [← hw7]
        exact FR.wa (FR.wj (FR.tr (FR.mo fr6 (by simp) (by simp) (by simp) (by simp)) (FR.mo s1 (by simp) (by simp) (by simp) (by simp))) (by simp)) (by simp)
      have w788 : w7.2.2.2 88 = w5.2.2.2 88 := by
        rw [← hw7]
        show (wj w5 91 (46000 * p + W) (mk 3 ((U2 : Nat) : Int))).2.2.2 88 = _
        rw [wj_22 (by omega)]
      have w688 : ∀ q, w6.2.2.2 88 q = if q = 500 * p + U2 + 1 then (I ((l : Nat) : Int)).toInt64 else if q = 500 * p + U2 then (I ((uu : Nat) : Int)).toInt64 else w4.2.2.2 88 q := fun q => by rw [← hw6, wj_row, wj_row]; rfl
      have w791 : ∀ i, w7.2.2.2 91 i = if i = 46000 * p + W then mk 3 ((U2 : Nat) : Int) else w4.2.2.2 91 i := fun i => by
        rw [← hw7]
        show (wj w5 91 (46000 * p + W) _).2.2.2 91 i = _
        rw [wj_row, s1.2.2.2 91 (by simp), fr6.2.2.2 91 (by simp)]
      have hw70 : hp w7 p U2 = (I ((uu : Nat) : Int)).toInt64 := by
        show w7.2.2.2 88 (500 * p + U2) = _
        rw [w788, s2 _ (by omega), w688, if_neg (by omega), if_pos rfl]
      have hw71 : hp w7 p (U2 + 1) = (I ((l : Nat) : Int)).toInt64 := by
        show w7.2.2.2 88 (500 * p + (U2 + 1)) = _
        rw [w788, s2 _ (by omega), w688, if_pos (by omega)]
      have hw7o : ∀ i, i < U2 → hp w7 p i = hp w4 p i := fun i hi => by
        show w7.2.2.2 88 (500 * p + i) = _
        rw [w788, s2 _ (by omega), w688, if_neg (by omega), if_neg (by omega)]
        rfl
      have hw7c : ∀ i, i < l → hp w7 p (U2 + 2 + i) = w4.2.2.2 93 (2500 * p + (nb j + kn i)) := fun i hi => by
        show w7.2.2.2 88 (500 * p + (U2 + 2 + i)) = _
        rw [w788, show 500 * p + (U2 + 2 + i) = 500 * p + U2 + 2 + i by omega, s3 i hi, fr6.2.2.2 93 (by simp)]
      have hm70 : m7.2.2.2 (pq p 2) U2 = mk 8 ((uu : Nat) : Int) := by rw [t5 U2 (by omega), ← hm6, wj_row, if_neg (by omega), wj_row, if_pos rfl]
      have hm71 : m7.2.2.2 (pq p 2) (U2 + 1) = mk 8 ((l : Nat) : Int) := by rw [t5 (U2 + 1) (by omega), ← hm6, wj_row, if_pos rfl]
      have hm7o : ∀ i, i < U2 → m7.2.2.2 (pq p 2) i = m4.2.2.2 (pq p 2) i := fun i hi => by rw [t5 i (by omega), ← hm6, wj_row, if_neg (by omega), wj_row, if_neg (by omega)]
      have ti := fun_iso (l := l) (h2 := m7.2.2.2 (pq p 2)) (h2' := hp w7 p) (tt := fun q => m4.2.2.2 (pq p 33) (nb j + kn q)) (xx := fun q => w4.2.2.2 93 (2500 * p + (nb j + kn q))) pl4.1.2.1 (by omega) (Or.inl ⟨uu, huu, by rw [hm70, va_mk (by omega) (by omega)], by rw [hw70, toI64, I_ti (by omega) (by omega)]⟩) (by rw [hm71]; unfold vn; rw [va_mk (by omega) (by omega)]; omega) (by rw [hw71]; unfold vn; rw [va_w, I_ti (by omega) (by omega)]; omega) (fun q hq => by rw [t6 q hq, m633]) hw7c (fun q hq => pl4.2.1.2.2 _ (by have := (nk q hq).1; omega)) hm7o hw7o
      have t1' : FR [pq p 4, pq p 26, pq p 45, 1105] [] [] [pq p 2, pq p 35] m4 m7 := FR.tr (FR.mo g6 (by simp) (by simp) (by simp) (by simp)) t1
      have e89 : A w7 89 p = ((U2 + (l + 2) : Nat) : Int) := by
        rw [← hw7, wa_rne (by omega)]
        show A w5 89 p = _
        rw [FR.A s1 (by simp), ← hw6]
        show A (wa w4 89 p ((U2 + (l + 2) : Nat) : Int)) 89 p = _
        rw [wa_sm (by omega) (by omega)]
      have e92 : A w7 92 p = ((W + 1 : Nat) : Int) := by rw [← hw7, wa_sm (by omega) (by omega)]
      have fm7 : FGm p m m7 := FGm.tr fm4 (FR.mo t1' (by simp) (by simp) (by simp) (by simp))
      have fw7 : FGw p j w1 w7 := by
        refine FGw.tr fw4 (FGw_mk f7 (fun r hr => ?_) (fun r hr => ?_) (fun i hi => ?_) (fun i hi => ?_))
        · rw [← hw7, wa_rne (by omega)]
          show A w5 89 r = _
          rw [FR.A s1 (by simp), ← hw6]
          show A (wa w4 89 p ((U2 + (l + 2) : Nat) : Int)) 89 r = _
          rw [wa_ro (by omega) (by omega), if_neg hr]
        · rw [← hw7, wa_ro (by omega) (by omega), if_neg hr]
          show A w5 92 r = _
          rw [FR.A s1 (by simp), FR.A fr6 (by simp)]
        · rw [w788, s2 _ (by omega), w688, if_neg (by omega), if_neg (by omega)]
        · rw [w791, if_neg (by omega)]
      have x98' : A w7 98 (60 * p + j) = ((n + 1 : Nat) : Int) := by rw [FR.A f7 (by simp), FR.A a5.1 (by simp), FR.A f3 (by simp)]; exact x98
      exact kS _ _ m7 w7 (PLs_mk pl4 (fun _ _ _ h => Or.inl h) t1' t2 t3 (Nat.le_refl _) (fun i hi => by rw [t7 i hi, m635]) f7 e89 rm4 e92 (fun i hi => by
        rw [w791]
        by_cases c : i = W
        · rw [if_pos c, if_pos (by omega)]
        · rw [if_neg c, if_neg (by omega)]) ti.1 ti.2) (RUs_mv ru fm7 (FGw.tr g1 fw7) t4 x98' cr) fm7 (FGw.tr g1 fw7)
    · rw [show decide ((0 : Int32) = 0) = true from rfl, br_t, br_t]
      have z33 : F w4 133 = ((p : Nat) : Int) := by rw [FR.F a5.1 (by simp)]; exact y33
      have g4 : FGw p j w w4 := FGw.tr g1 (FGw.tr fw2 (FGw_xr a5))
      have e109 : A w4 109 p ≠ 3 := by
        rw [FR.A g4.1 (by simp), r6]; omega
      have e150 : F w4 150 = ((ee' : Nat) : Int) := by
        rw [FR.F g4.1 (by simp)]; exact hee'.1
      rw [noR_e hpp z33 e109 e150 hee'.2]
      exact kE m5 w4 (FGm.tr fm2 (FGm_xr a4)) g4 h5
  · have cz' : ¬ Z' ≤ 500 := by omega
    rw [decide_eq_false (by omega), decide_eq_false (by omega), br_f, br_f]
    refine r_bb ?_
    exact kX m2 w2 fm2 (FGw.tr g1 fw2) pl2 ru2 (PTQ_same pt (fun d _ => f2.1 _ (by simp)) (fun d _ => jq d)) (CX_141 xc1 f3) (by rw [FR.F f3 (by simp), ← hw1]; exact h140)
end
