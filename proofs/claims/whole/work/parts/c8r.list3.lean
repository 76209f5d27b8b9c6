/-! a list is made, both sides -/
set_option maxRecDepth 100000
section
variable {α β : Type} {b : Int → Nat → Nat → Prop} {Fv Fv' : Int64 → Int64 → Prop} {P P' : Int64 → Prop} {ow kd ow' kd' : Nat → Nat} {N p U B W Y l k j a n ee ee' : Nat} {m w : MS} {nb : Nat → Nat} {Hs Os : Nat → List Nat} {y : Option (Nat × Nat × Nat)} {v : Int} {Q : MS → α → MS → β → Prop} {K1 : MS → Option (MS × α)} {K2 : MS → Option (MS × β)}
theorem one_5 : fm_M_one N w (I v) (I 5) = bnd (fm_M_goTo N w (I v + 1)) (fun u7 _ => ck (inb (I v) (ln 25)) (ck (inb (I v) (ln 26)) (bnd (fm_M_listRun N u7 (u7.2.2.1 25 (I v).toNatClampNeg) (u7.2.2.1 26 (I v).toNatClampNeg)) (fun u22 _ => some (u22, ()))))) := rfl
theorem FGw_141 {w2 : MS} (f : FR [] [] [] [141] w w2) : FGw p j w w2 := ⟨FR.mo f (by simp) (by simp) (by simp) (by simp), fun _ _ => ⟨FR.A f (by simp), by rw [f.2.2.1 90 (by simp)], FR.A f (by simp)⟩, fun _ _ => FR.A f (by simp), fun _ _ => by rw [f.2.2.2 88 (by simp)], fun _ _ => by rw [f.2.2.2 91 (by simp)], fun _ _ => by rw [f.2.2.2 93 (by simp)], fun _ _ => by rw [f.2.2.2 107 (by simp)]⟩
theorem PLs_4541 {m2 w2 : MS} (pl : PLs b p m w U B W Y) (f2 : FR [] [] [] [45] m m2) (f3 : FR [] [] [] [141] w w2) : PLs b p m2 w2 U B W Y := by
  have jq : ∀ d, m2.2.2.2 (pq p d) = m.2.2.2 (pq p d) := fun d => f2.2.2.2 _ (by simp; exact fun c => pq_n (by omega) c.symm)
  exact PLs_cg pl (fun d _ => f2.1 _ (by simp)) (fun i _ => by rw [jq]) (fun i _ => by rw [jq]) (fun i _ => by rw [jq]) (fun i _ => by rw [jq]) (fun K hK => by rw [f3.2.2.1 K (by simp)]) (fun i _ => by rw [f3.2.2.2 88 (by simp)]) (fun i _ => by rw [f3.2.2.2 93 (by simp)]) (fun i _ => by rw [f3.2.2.2 91 (by simp)]) (fun i _ => by rw [f3.2.2.2 107 (by simp)])
/-- with a tail -/
theorem op_list1 (hpp : p < 24) (pl : PLs b p m w U B (W + k + 1) Y) (ru : RUs m w p j nb Hs Os y a n) (hW : W + k + 1 ≤ 46000) (hl : F m (pq p 45) = ((l : Nat) : Int)) (hl2 : W + k + 1 ≤ l ∧ l ≤ 1000000) (pt : PTQ m p U ow kd Fv P B (W + k + 1) Y) (cx : CTX Fv P m) (xc : CX w p (hp w p) U ow' kd' Fv' P' (W + k + 1) B Y) (g : HPc (m.2.2.2 (pq p 2)) U ow kd Fv P) (g' : HP (hp w p) U ow' kd' Fv' P') (hF : FVc Fv) (h140 : F w 140 = -1) (h25 : A w 25 n = ((k : Nat) : Int)) (h26 : A w 26 n = 1) (hk : 0 < k) (hk2 : k ≤ 100) (c1 : A m 23 (a + 1) = ((k : Nat) : Int)) (hee : F m 955 = ((ee : Nat) : Int) ∧ ee < 24) (hee' : F w 150 = ((ee' : Nat) : Int) ∧ ee' < 4000) (hN : 2200000 ≤ N) (cr : ∃ f, CRs (A m 23) (ROs w) (w.2.2.2 34) f y (a + 2) (n + 1) (Hs j) (Os j))
    (kS : ∀ b3 U3 m3 w3, PLs b3 p m3 w3 U3 B (W + 1) Y → RUs m3 w3 p j nb Hs Os y (a + 2) (n + 1) → FGm p m m3 → FGw p j w w3 → PP Q (K1 m3) (K2 w3))
    (kX : ∀ m3 w3, FGm p m m3 → FGw p j w w3 → PLs b p m3 w3 U B (W + k + 1) Y → RUb m3 w3 p j nb Hs Os y → PTQ m3 p U ow kd Fv P B (W + k + 1) Y → CX w3 p (hp w3 p) U ow' kd' Fv' P' (W + k + 1) B Y → F w3 140 = -1 → PP Q (K1 (tld m3 1 (-1) (mk 1 11))) (bnd (fr_M_error N w3 11) (fun u _ => K2 u)))
    (kE : ∀ m3 w3, FGm p m m3 → FGw p j w w3 → m3.1 (pq p 5) = w3.2.2.1 90 p → PP Q (K1 (enS m3 p (mk 1 20) p ee)) (K2 (wi (enR w3 p 0 ((p : Nat) : Int) (mk 1 20) ee') 151 1))) : PP Q (bnd (hm_Ma_making N m p (I 5)) (fun u _ => K1 u)) (bnd (fm_M_one N w (I ((n : Nat) : Int)) (I 5)) (fun u _ => K2 u)) := by
  obtain ⟨⟨fa, ct⟩, ⟨r2, r3⟩, ⟨f0, cr0⟩, ⟨r5, r6⟩, r7, ⟨r8, r9, r10⟩, r11, r12, r13⟩ := id ru
  have cb := CR_b cr0
  have hj : j < 60 := fa.1.2.2
  rw [mak5, one_5, I_F' r2, show I ((a : Nat) : Int) + 1 = I ((a + 1 : Nat) : Int) from addN, Co_e (k := a + 1) rfl (by omega), bnd_so, c1, show I ((n : Nat) : Int) + 1 = I ((n + 1 : Nat) : Int) from addN]
  refine l_bb (r_bb ?_)
  refine r_bnd (pk_mo (goto_r (N := N) (n := ((n + 1 : Nat) : Int)) hpp r11 fa.1.2.1 hj) (fun w1 _ e => ?_))
  subst e
  refine rb_ck (fun _ => rb_ck (fun _ => ?_))
  have e25 : A (wa w 98 (60 * p + j) ((n + 1 : Nat) : Int)) 25 n = ((k : Nat) : Int) := by rw [wa_rne (by omega)]; exact h25
  have e26 : A (wa w 98 (60 * p + j) ((n + 1 : Nat) : Int)) 26 n = ((1 : Nat) : Int) := by rw [wa_rne (by omega)]; exact h26
  rw [tnI (n := n) rfl (by omega), I_A' e25, I_A' e26]
  refine r_bb ?_
  generalize hw1 : wa w 98 (60 * p + j) ((n + 1 : Nat) : Int) = w1
  have g1 : FGw p j w w1 := by rw [← hw1]; exact FGw.goto
  have pl1 : PLs b p m w1 U B (W + k + 1) Y := by rw [← hw1]; exact PLs_98 pl
  have x33 : F w1 133 = ((p : Nat) : Int) := by rw [← hw1]; exact r11
  have x98 : A w1 98 (60 * p + j) = ((n + 1 : Nat) : Int) := by rw [← hw1, wa_sm (by omega) (by omega)]
  have hp1 : hp w1 p = hp w p := by rw [← hw1]; rfl
  have xc1 : CX w1 p (hp w1 p) U ow' kd' Fv' P' (W + k + 1) B Y := by rw [← hw1]; exact CX_98 xc
  have y40 : F w1 140 = -1 := by rw [← hw1]; exact h140
  have tp : ∀ i, i < W + k + 1 → TPb b U ow kd P U ow' kd' P' (m.2.2.2 (pq p 35) i) (w1.2.2.2 91 (46000 * p + i)) := fun i hi => ⟨pl1.2.2.1.2.2 i hi, pt.2.2.1.2 i hi, xc1.2.2.2.2.2.2.2.1 i hi⟩
  unfold hm_Ma_list hb_Ma_list_0 hm_Ma_sizes hb_Ma_sizes_0 fm_M_listRun fb_M_listRun_0
  have s2 : (2 : Int32) * I ((k : Nat) : Int) = I ((2 * k : Nat) : Int) := by
    rw [show (2 : Int32) = I 2 from rfl, I_mul]
    congr 1
  rw [s2, show I ((k : Nat) : Int) + 1 = I ((k + 1 : Nat) : Int) from addN, show (0 : Int32) = I ((0 : Nat) : Int) from rfl]
  refine l_bb ?_
  refine lsz_lp (tl := 1) (dl := 0) (U := U) (W := W + k + 1) (l := l) (k := k) hpp rfl rfl hp1 g pl.1.1.2.2 hF g' pl.1.2.1 tp pl.2.2.1.1 hl hl2 x33 pl1.2.2.1.2.1 hW (by omega) hk2 (by omega) (fun m2 w2 M2 Z Z' f2 f3 hZ b1 b2 => ?_) (k + 1) N N m w1 0 (2 * k) (2 * k) (by omega) FR.rf FR.rf (by omega) (by omega) (by omega)
  have fm2 : FGm p m m2 := FR.mo f2 (by simp) (by simp) (by simp) (by simp)
  have fw2 : FGw p j w1 w2 := FGw_141 f3
  have jq : ∀ d, m2.2.2.2 (pq p d) = m.2.2.2 (pq p d) := fun d => f2.2.2.2 _ (by simp; exact fun c => pq_n (by omega) c.symm)
  have pl2 : PLs b p m2 w2 U B (W + k + 1) Y := PLs_4541 pl1 f2 f3
  have ru2 : RUb m2 w2 p j nb Hs Os y := RUb_fg (RUb_fg (RUs_b ru) FGm.rf g1) fm2 fw2
  rw [show (500 : Int32) = I ((500 : Nat) : Int) from rfl, decI (by omega) (by omega) (by omega) (by omega), decI (by omega) (by omega) (by omega) (by omega)]
  by_cases cz : Z ≤ 500
  · have cz' : Z' ≤ 500 := by omega
    rw [decide_eq_true (by omega), decide_eq_true (by omega), br_t, br_t]
    unfold lstB
    have y33 : F w2 133 = ((p : Nat) : Int) := by rw [FR.F f3 (by simp)]; exact x33
    have y402 : F w2 140 = -1 := by rw [FR.F f3 (by simp)]; exact y40
    have pt2 : PTQ m2 p U ow kd Fv P B (W + k + 1) Y := PTQ_same pt (fun d _ => f2.1 _ (by simp)) (fun d _ => jq d)
    have cx2 : CTX Fv P m2 := CTX_fr cx (f2.1 22 (by simp)) (f2.2.2.1 3 (by simp))
    have xc2 : CX w2 p (hp w2 p) U ow' kd' Fv' P' (W + k + 1) B Y := CX_141 xc1 f3
    have e9 : F m2 (pq p 9) ≠ 3 := by rw [FR.F f2 (by simp), r5]; omega
    have ee2 : F m2 955 = ((ee : Nat) : Int) ∧ ee < 24 := ⟨by rw [FR.F f2 (by simp)]; exact hee.1, hee.2⟩
    rw [I_F' y33, s2]
    refine l_bb (r_bb ?_)
    refine pp_bb (pp_mo (room_pp (N := N) (k := 2 * k) pt2 cx2 xc2 pl2 y402 (by omega) e9 ee2 hN) (fun m4 r4 w4 r5' q9 => ?_))
    rcases q9 with ⟨rfl, rfl, a4, a5, b2', U2, pl4, rm4, ⟨ow2, kd2, pt4⟩, -⟩ | ⟨rfl, rfl, m5, a4, a5, rfl, h5⟩
    · rw [show decide ((1 : Int32) = 0) = false from rfl, br_f, show decide ((1 : Int32) = I ((0 : Nat) : Int)) = false from rfl, br_f, show decide (I ((1 : Nat) : Int) = 1) = true from rfl, br_t]
      have fm4 : FGm p m m4 := FGm.tr fm2 (FGm_xr a4)
      have fw4 : FGw p j w1 w4 := FGw.tr fw2 (FGw_xr a5)
      have z33 : F w4 133 = ((p : Nat) : Int) := by rw [FR.F a5.1 (by simp)]; exact y33
      have z4 : F m4 (pq p 4) = ((U2 : Nat) : Int) := pl4.1.1.1
      obtain ⟨l4, e1, e2, e3⟩ := pt4.2.2.2.2.2.1
      have e5 : F m4 1105 = ((a : Nat) : Int) := by rw [FR.F a4 (by simp [pq_n]), FR.F f2 (by simp)]; exact r2
      refine rb_bnd (pk_mo (take_r (N := N) (W := W + k) hpp z33 pl4.2.2.1.2.1 (by omega)) (fun w5 r e => ?_))
      obtain ⟨rfl, rfl⟩ := e
      unfold fb_M_listRun_89
      rw [I_F' z4, show (I ((0 : Nat) : Int)) = I ((0 : Nat) : Int) from rfl]
      have pl5 : PLs b2' p (wi m4 (pq p 26) ((W + k : Nat) : Int)) (wa w4 92 p ((W + k : Nat) : Int)) U2 B (W + k) Y := PLs_drop (k := 1) pl4 (by omega)
      refine list_mk (j := j) (K2 := fun u _ => K2 u) (l := l4) (a := a) hpp hk (by omega) hW pl4.2.2.1.1 e1 ⟨e2, e3⟩ e5 (by omega) z4 pl5 z33 (pl4.2.2.1.2.2 (W + k) (by omega)) (fun b3 U3 m7 w7 p7 t1 t4 fw7 s98 => ?_)
      have fm7 : FGm p m m7 := FGm.tr fm4 (FR.mo t1 (by simp) (by simp) (by simp) (by simp))
      have fw8 : FGw p j w1 w7 := FGw.tr fw4 (FGw.tr FGw.w92 fw7)
      have x98' : A w7 98 (60 * p + j) = ((n + 1 : Nat) : Int) := by
        show (w7.2.2.1 98 _).toInt = _
        rw [s98, wa_21 (by omega)]
        show A w4 98 (60 * p + j) = _
        rw [FR.A a5.1 (by simp), FR.A f3 (by simp)]
        exact x98
      exact kS b3 U3 m7 w7 p7 (RUs_mv ru fm7 (FGw.tr g1 fw8) t4 x98' cr) fm7 (FGw.tr g1 fw8)
    · rw [show decide ((0 : Int32) = 0) = true from rfl, br_t, show decide ((0 : Int32) = I ((0 : Nat) : Int)) = true from rfl, br_t]
      have z33 : F w4 133 = ((p : Nat) : Int) := by rw [FR.F a5.1 (by simp)]; exact y33
      have g4 : FGw p j w w4 := FGw.tr g1 (FGw.tr fw2 (FGw_xr a5))
      have e109 : A w4 109 p ≠ 3 := by rw [FR.A g4.1 (by simp), r6]; omega
      have e150 : F w4 150 = ((ee' : Nat) : Int) := by rw [FR.F g4.1 (by simp)]; exact hee'.1
      rw [noR_e hpp z33 e109 e150 hee'.2]
      exact kE m5 w4 (FGm.tr fm2 (FGm_xr a4)) g4 h5
  · have cz' : ¬ Z' ≤ 500 := by omega
    rw [decide_eq_false (by omega), decide_eq_false (by omega), br_f, br_f, show (11 : Int32) = I 11 from rfl, wrong_e, bnd_so]
    refine r_bb ?_
    exact kX m2 w2 fm2 (FGw.tr g1 fw2) pl2 ru2 (PTQ_same pt (fun d _ => f2.1 _ (by simp)) (fun d _ => jq d)) (CX_141 xc1 f3) (by rw [FR.F f3 (by simp)]; exact y40)
end
