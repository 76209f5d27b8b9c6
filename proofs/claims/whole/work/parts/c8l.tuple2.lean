/-! a TUPLE is made: how large it will be; both sides -/
set_option maxRecDepth 100000
/-- behind the sizes, here -/
def tupB (N M : Nat) (u : MS) (v1 : Int32) : Option (MS × Unit) := bnd (fm_M_wants N u (u.1 133) (1 + v1)) (fun u6 r6 => br (decide (r6 = 0)) (bnd (fm_M_noRoom N u6) (fun u10 _ => some (u10, ()))) (ck (inb (u6.1 133) (ln 89)) (lt (u6.2.2.1 89 (u6.1 133).toNatClampNeg) (fun y7 => ck (inb (u6.1 133) (ln 89)) (ck (inb (u6.1 133) (ln 89)) (lt (upA u6 89 (upd (u6.2.2.1 89) (u6.1 133).toNatClampNeg ((u6.2.2.1 89 (u6.1 133).toNatClampNeg) + (1 + v1)))) (fun w8 => ck (inb (((w8.1 133) * 500) + y7) (ln 88)) (lt (upJ w8 88 (vp_updL (w8.2.2.2 88) (((w8.1 133) * 500) + y7).toNatClampNeg (v1.toInt64))) (fun w9 => (gg_M_tupleRun N M).2 w9 (v1) (y7) (0))))))))))
section
variable {α β : Type} {b : Int → Nat → Nat → Prop} {Fv Fv' : Int64 → Int64 → Prop} {P P' : Int64 → Prop} {ow kd ow' kd' : Nat → Nat} {N p U W l k : Nat} {m0 w0 : MS} {h h' : Nat → Int64} {Q : MS → α → MS → β → Prop} {K1 : MS → Int32 → Option (MS × α)} {K2 : MS → Unit → Option (MS × β)}
theorem tsz_lp (hpp : p < 24) (hh : m0.2.2.2 (pq p 2) = h) (hh' : hp w0 p = h') (g : HPc h U ow kd Fv P) (hU : U ≤ 500) (hF : FVc Fv) (g' : HP h' U ow' kd' Fv' P') (s : ISb b h U h' U) (tp : ∀ i, i < W → TPb b U ow kd P U ow' kd' P' (m0.2.2.2 (pq p 35) i) (w0.2.2.2 91 (46000 * p + i))) (h26 : F m0 (pq p 26) = ((W : Nat) : Int)) (hl : F m0 (pq p 45) = ((l : Nat) : Int)) (hl2 : W ≤ l ∧ l ≤ 1000000) (h133 : F w0 133 = ((p : Nat) : Int)) (h92 : A w0 92 p = ((W : Nat) : Int)) (hW : W ≤ 46000) (hk : k ≤ W) (hk2 : k ≤ 100) (hN : 6000 ≤ N)
    (kk : ∀ m2 w2 M2 Z Z', FR [] [] [] [45] m0 m2 → FR [] [] [] [141] w0 w2 → ((Z ≤ 500 ∧ Z' = Z) ∨ (500 < Z ∧ 500 < Z')) → Z ≤ 200 + 1000 * k → Z' ≤ 200 + 1000 * k → PP Q (K1 m2 (I ((Z : Nat) : Int))) (bnd (br (decide (I ((Z' : Nat) : Int) ≤ 500)) (tupB N M2 w2 (I ((k : Nat) : Int))) (bnd (fr_M_error N w2 11) (fun u11 _ => some (u11, ())))) K2)) : ∀ (d M M2 : Nat) (m w : MS) (i z z' : Nat), i + d = k → FR [] [] [] [45] m0 m → FR [] [] [] [141] w0 w → ((z ≤ 500 ∧ z' = z) ∨ (500 < z ∧ 500 < z')) → z ≤ 200 + 1000 * i → z' ≤ 200 + 1000 * i → PP Q (bnd (hg_Ma_sizes N M m p (I ((k : Nat) : Int)) (I ((z : Nat) : Int)) (I ((i : Nat) : Int))) K1) (bnd ((gg_M_tupleRun N M2).1 w (I ((k : Nat) : Int)) (I ((z' : Nat) : Int)) (I ((i : Nat) : Int))) K2) := by
  intro d
  induction d with
  | zero =>
    intro M M2 m w i z z' hi fm fw hz b1 b2
    have : i = k := by omega
    subst this
    cases M with
    | zero => exact pp_nl
    | succ M =>
    cases M2 with
    | zero => exact pp_nr
    | succ M2 =>
    show PP Q (bnd (hb_Ma_sizes_5 N (hg_Ma_sizes N M) m p (I ((i : Nat) : Int)) (I ((z : Nat) : Int)) (I ((i : Nat) : Int))) K1) (bnd (fb_M_tupleRun_6 N (gg_M_tupleRun N M2) w (I ((i : Nat) : Int)) (I ((z' : Nat) : Int)) (I ((i : Nat) : Int))) K2)
    unfold hb_Ma_sizes_5 fb_M_tupleRun_6
    rw [decI (by omega) (by omega) (by omega) (by omega), decide_eq_true (by omega), br_t, bnd_so, br_t]
    exact kk m w M2 z z' fm fw hz b1 b2
  | succ d ih =>
    intro M M2 m w i z z' hi fm fw hz b1 b2
    cases M with
    | zero => exact pp_nl
    | succ M =>
    cases M2 with
    | zero => exact pp_nr
    | succ M2 =>
    show PP Q (bnd (hb_Ma_sizes_5 N (hg_Ma_sizes N M) m p (I ((k : Nat) : Int)) (I ((z : Nat) : Int)) (I ((i : Nat) : Int))) K1) (bnd (fb_M_tupleRun_6 N (gg_M_tupleRun N M2) w (I ((k : Nat) : Int)) (I ((z' : Nat) : Int)) (I ((i : Nat) : Int))) K2)
    unfold hb_Ma_sizes_5 fb_M_tupleRun_6
    have e26 : F m (pq p 26) = ((W : Nat) : Int) := by rw [FR.F fm (by simp)]; exact h26
    have e45 : F m (pq p 45) = ((l : Nat) : Int) := by rw [FR.F fm (by simp)]; exact hl
    have x33 : F w 133 = ((p : Nat) : Int) := by rw [FR.F fw (by simp)]; exact h133
    have x92 : A w 92 p = ((W : Nat) : Int) := by rw [FR.A fw (by simp)]; exact h92
    rw [decI (by omega) (by omega) (by omega) (by omega), decide_eq_false (by omega), br_f, br_f, below_e (k := i) (W := W) (l := l) e26 e45 hl2.1 hl2.2 rfl (by omega), bnd_so]
    refine rb_bnd (pk_mo (top_r (N := N) (k := i) hpp x33 x92 hW (by omega)) (fun w2 r e => ?_))
    obtain ⟨rfl, rfl⟩ := e
    rw [I_F' x33]
    have j2 : m.2.2.2 (pq p 2) = h := by rw [fm.2.2.2 _ (by simp; exact fun c => pq_n (by omega) c.symm)]; exact hh
    have j35 : m.2.2.2 (pq p 35) = m0.2.2.2 (pq p 35) := fm.2.2.2 _ (by simp; exact fun c => pq_n (by omega) c.symm)
    have hp2 : hp w2 p = h' := by
      rw [← hh']
      funext q
      show w2.2.2.2 88 _ = _
      rw [fw.2.2.2 88 (by simp)]
      rfl
    have t2 := tp (W - 1 - i) (by omega)
    rw [← j35, ← fw.2.2.2 91 (by simp)] at t2
    refine l_bb (r_bb ?_)
    refine pp_bb (pp_mo (size_pp (N := N) (v := pq p 2) (fun c => pq_n (by omega) c.symm) j2 hp2 g hU hF g' hU (by omega) s t2 hN) (fun m3 r3 w3 r4 q => ?_))
    obtain ⟨⟨f3, f4⟩, z1, hz1, -, -, rfl, rfl⟩ := q
    rw [addN, addN, show I ((i : Nat) : Int) + 1 = I ((i + 1 : Nat) : Int) from addN]
    refine ih M M2 m3 w3 (i + 1) _ _ (by omega) (FR.tr fm f3) (FR.tr fw f4) ?_ (by omega) ?_
    · by_cases c : z1 ≤ 500
      · rw [if_pos c]
        omega
      · rw [if_neg c]
        omega
    · by_cases c : z1 ≤ 500
      · rw [if_pos c]
        omega
      · rw [if_neg c]
        omega
end
section
variable {α β : Type} {b : Int → Nat → Nat → Prop} {Fv Fv' : Int64 → Int64 → Prop} {P P' : Int64 → Prop} {ow kd ow' kd' : Nat → Nat} {N p U B W Y l k j a n ee ee' : Nat} {m w : MS} {nb : Nat → Nat} {Hs Os : Nat → List Nat} {y : Option (Nat × Nat × Nat)} {v : Int} {Q : MS → α → MS → β → Prop} {K1 : MS → Option (MS × α)} {K2 : MS → Option (MS × β)}
theorem one_4 : fm_M_one N w (I v) (I 4) = bnd (fm_M_goTo N w (I v + 1)) (fun u7 _ => ck (inb (I v) (ln 25)) (bnd (fm_M_tupleRun N u7 (u7.2.2.1 25 (I v).toNatClampNeg)) (fun u23 _ => some (u23, ())))) := rfl
theorem CX_98 {i : Nat} {z : Int} (q : CX w p (hp w p) U ow' kd' Fv' P' W B Y) : CX (wa w 98 i z) p (hp (wa w 98 i z) p) U ow' kd' Fv' P' W B Y := by
  obtain ⟨-, c2, c3, c4, ⟨c5, c6⟩, ⟨c7, c8⟩, ⟨c9, c10⟩, c11, c12, c13, c14⟩ := q
  exact ⟨rfl, c2, c3, c4, ⟨by rw [wa_rne (by omega)]; exact c5, c6⟩, ⟨by rw [wa_rne (by omega)]; exact c7, c8⟩, ⟨by rw [wa_rne (by omega)]; exact c9, c10⟩, c11, c12, c13, c14⟩
theorem CX_141 {w2 : MS} (q : CX w p (hp w p) U ow' kd' Fv' P' W B Y) (f : FR [] [] [] [141] w w2) : CX w2 p (hp w2 p) U ow' kd' Fv' P' W B Y := by
  obtain ⟨-, c2, c3, c4, ⟨c5, c6⟩, ⟨c7, c8⟩, ⟨c9, c10⟩, c11, c12, c13, c14⟩ := q
  have e : hp w2 p = hp w p := by funext i; show w2.2.2.2 88 _ = _; rw [f.2.2.2 88 (by simp)]; rfl
  refine ⟨rfl, by rw [e]; exact c2, c3, c4, ⟨by rw [FR.A f (by simp)]; exact c5, c6⟩, ⟨by rw [FR.A f (by simp)]; exact c7, c8⟩, ⟨by rw [FR.A f (by simp)]; exact c9, c10⟩, fun i hi => by rw [f.2.2.2 91 (by simp)]; exact c11 i hi, fun i hi => by rw [f.2.2.2 93 (by simp)]; exact c12 i hi, fun i hi => by rw [f.2.2.2 107 (by simp)]; exact c13 i hi, fun h => ?_⟩
  rw [f.2.1 139 (by simp)]
  exact c14 (by rw [← FR.F f (by simp)]; exact h)
/-- a TUPLE is made -/
theorem op_tuple (hpp : p < 24) (pl : PLs b p m w U B W Y) (ru : RUs m w p j nb Hs Os y a n) (hW : W < 46000) (hl : F m (pq p 45) = ((l : Nat) : Int)) (hl2 : W ≤ l ∧ l ≤ 1000000) (pt : PTQ m p U ow kd Fv P B W Y) (cx : CTX Fv P m) (xc : CX w p (hp w p) U ow' kd' Fv' P' W B Y) (g : HPc (m.2.2.2 (pq p 2)) U ow kd Fv P) (g' : HP (hp w p) U ow' kd' Fv' P') (hF : FVc Fv) (h140 : F w 140 = -1) (h25 : A w 25 n = ((k : Nat) : Int)) (hk : k ≤ W) (hk2 : k ≤ 100) (c1 : A m 23 (a + 1) = ((k : Nat) : Int)) (hee : F m 955 = ((ee : Nat) : Int) ∧ ee < 24) (hee' : F w 150 = ((ee' : Nat) : Int) ∧ ee' < 4000) (hN : 2200000 ≤ N) (cr : ∃ f, CRs (A m 23) (ROs w) (w.2.2.2 34) f y (a + 2) (n + 1) (Hs j) (Os j))
    (kS : ∀ b3 U3 m3 w3, PLs b3 p m3 w3 U3 B (W - k + 1) Y → RUs m3 w3 p j nb Hs Os y (a + 2) (n + 1) → FGm p m m3 → FGw p j w w3 → PP Q (K1 m3) (K2 w3))
    (kX : ∀ m3 w3, FGm p m m3 → FGw p j w w3 → PLs b p m3 w3 U B W Y → RUb m3 w3 p j nb Hs Os y → PTQ m3 p U ow kd Fv P B W Y → CX w3 p (hp w3 p) U ow' kd' Fv' P' W B Y → F w3 140 = -1 → PP Q (K1 (tld m3 1 (-1) (mk 1 11))) (bnd (fr_M_error N w3 11) (fun u _ => K2 u)))
    (kE : ∀ m3 w3, FGm p m m3 → FGw p j w w3 → m3.1 (pq p 5) = w3.2.2.1 90 p → PP Q (K1 (enS m3 p (mk 1 20) p ee)) (K2 (wi (enR w3 p 0 ((p : Nat) : Int) (mk 1 20) ee') 151 1))) : PP Q (bnd (hm_Ma_making N m p (I 4)) (fun u _ => K1 u)) (bnd (fm_M_one N w (I ((n : Nat) : Int)) (I 4)) (fun u _ => K2 u)) := by
  obtain ⟨⟨fa, ct⟩, ⟨r2, r3⟩, ⟨f0, cr0⟩, ⟨r5, r6⟩, r7, ⟨r8, r9, r10⟩, r11, r12, r13⟩ := id ru
  have cb := CR_b cr0
  have hj : j < 60 := fa.1.2.2
  rw [mak4, one_4, I_F' r2, show I ((a : Nat) : Int) + 1 = I ((a + 1 : Nat) : Int) from addN, Co_e (k := a + 1) rfl (by omega), bnd_so, c1, show I ((n : Nat) : Int) + 1 = I ((n + 1 : Nat) : Int) from addN]
  refine l_bb (r_bb ?_)
  refine r_bnd (pk_mo (goto_r (N := N) (n := ((n + 1 : Nat) : Int)) hpp r11 fa.1.2.1 hj) (fun w1 _ e => ?_))
  subst e
  refine rb_ck (fun _ => ?_)
  have e25 : A (wa w 98 (60 * p + j) ((n + 1 : Nat) : Int)) 25 n = ((k : Nat) : Int) := by rw [wa_rne (by omega)]; exact h25
  rw [tnI (n := n) rfl (by omega), I_A' e25]
  refine r_bb ?_
  generalize hw1 : wa w 98 (60 * p + j) ((n + 1 : Nat) : Int) = w1
  have g1 : FGw p j w w1 := by rw [← hw1]; exact FGw.goto
  have pl1 : PLs b p m w1 U B W Y := by rw [← hw1]; exact PLs_98 pl
  have x33 : F w1 133 = ((p : Nat) : Int) := by rw [← hw1]; exact r11
  have x98 : A w1 98 (60 * p + j) = ((n + 1 : Nat) : Int) := by rw [← hw1, wa_sm (by omega) (by omega)]
  have hp1 : hp w1 p = hp w p := by rw [← hw1]; rfl
  have xc1 : CX w1 p (hp w1 p) U ow' kd' Fv' P' W B Y := by rw [← hw1]; exact CX_98 xc
  have tp : ∀ i, i < W → TPb b U ow kd P U ow' kd' P' (m.2.2.2 (pq p 35) i) (w1.2.2.2 91 (46000 * p + i)) := fun i hi => ⟨pl1.2.2.1.2.2 i hi, pt.2.2.1.2 i hi, xc1.2.2.2.2.2.2.2.1 i hi⟩
  unfold hm_Ma_tuple hb_Ma_tuple_0 hm_Ma_sizes hb_Ma_sizes_0 fm_M_tupleRun fb_M_tupleRun_0
  rw [show (1 : Int32) + I ((k : Nat) : Int) = I ((1 + k : Nat) : Int) from addN, show I ((k : Nat) : Int) + 1 = I ((k + 1 : Nat) : Int) from addN, show (0 : Int32) = I ((0 : Nat) : Int) from rfl]
  refine l_bb ?_
  refine tsz_lp (U := U) (W := W) (l := l) (k := k) hpp rfl hp1 g pl.1.1.2.2 hF g' pl.1.2.1 tp pl.2.2.1.1 hl hl2 x33 pl1.2.2.1.2.1 (by omega) hk hk2 (by omega) (fun m2 w2 M2 Z Z' f2 f3 hZ b1 b2 => ?_) k N N m w1 0 (k + 1) (1 + k) (by omega) FR.rf FR.rf (by omega) (by omega) (by omega)
  have fm2 : FGm p m m2 := FR.mo f2 (by simp) (by simp) (by simp) (by simp)
  have fw2 : FGw p j w1 w2 := ⟨FR.mo f3 (by simp) (by simp) (by simp) (by simp), fun _ _ => ⟨FR.A f3 (by simp), by rw [f3.2.2.1 90 (by simp)], FR.A f3 (by simp)⟩, fun _ _ => FR.A f3 (by simp), fun _ _ => by rw [f3.2.2.2 88 (by simp)], fun _ _ => by rw [f3.2.2.2 91 (by simp)], fun _ _ => by rw [f3.2.2.2 93 (by simp)], fun _ _ => by rw [f3.2.2.2 107 (by simp)]⟩
  have jq : ∀ d, m2.2.2.2 (pq p d) = m.2.2.2 (pq p d) := fun d => f2.2.2.2 _ (by simp; exact fun c => pq_n (by omega) c.symm)
  have pl2 : PLs b p m2 w2 U B W Y := PLs_cg pl1 (fun d _ => f2.1 _ (by simp)) (fun i _ => by rw [jq]) (fun i _ => by rw [jq]) (fun i _ => by rw [jq]) (fun i _ => by rw [jq]) (fun K hK => by rw [f3.2.2.1 K (by simp)]) (fun i _ => by rw [f3.2.2.2 88 (by simp)]) (fun i _ => by rw [f3.2.2.2 93 (by simp)]) (fun i _ => by rw [f3.2.2.2 91 (by simp)]) (fun i _ => by rw [f3.2.2.2 107 (by simp)])
  have ru2 : RUb m2 w2 p j nb Hs Os y := RUb_fg (RUb_fg (RUs_b ru) FGm.rf g1) fm2 fw2
  rw [show (500 : Int32) = I ((500 : Nat) : Int) from rfl, decI (by omega) (by omega) (by omega) (by omega), decI (by omega) (by omega) (by omega) (by omega)]
  by_cases cz : Z ≤ 500
  · have cz' : Z' ≤ 500 := by omega
    rw [decide_eq_true (by omega), decide_eq_true (by omega), br_t, br_t]
    unfold tupB
    have y33 : F w2 133 = ((p : Nat) : Int) := by rw [FR.F f3 (by simp)]; exact x33
    have y40 : F w2 140 = -1 := by rw [FR.F f3 (by simp), ← hw1]; exact h140
    have pt2 : PTQ m2 p U ow kd Fv P B W Y := PTQ_same pt (fun d _ => f2.1 _ (by simp)) (fun d _ => jq d)
    have cx2 : CTX Fv P m2 := CTX_fr cx (f2.1 22 (by simp)) (f2.2.2.1 3 (by simp))
    have xc2 : CX w2 p (hp w2 p) U ow' kd' Fv' P' W B Y := CX_141 xc1 f3
    have e9 : F m2 (pq p 9) ≠ 3 := by
      rw [FR.F f2 (by simp), r5]; omega
    have ee2 : F m2 955 = ((ee : Nat) : Int) ∧ ee < 24 := ⟨by rw [FR.F f2 (by simp)]; exact hee.1, hee.2⟩
    rw [I_F' y33, show (1 : Int32) + I ((k : Nat) : Int) = I ((k + 1 : Nat) : Int) by rw [lit1, I_add]; congr 1; omega]
    refine l_bb (r_bb ?_)
    refine pp_bb (pp_mo (room_pp (N := N) (k := k + 1) pt2 cx2 xc2 pl2 y40 (by omega) e9 ee2 hN) (fun m4 r4 w4 r5' q9 => ?_))
    rcases q9 with ⟨rfl, rfl, a4, a5, b2', U2, pl4, rm4, ⟨ow2, kd2, pt4⟩, -⟩ | ⟨rfl, rfl, m5, a4, a5, rfl, h5⟩
    · rw [show decide ((1 : Int32) = 0) = false from rfl, br_f, show decide ((1 : Int32) = I ((0 : Nat) : Int)) = false from rfl, br_f]
      have fm4 : FGm p m m4 := FGm.tr fm2 (FGm_xr a4)
      have fw4 : FGw p j w1 w4 := FGw.tr fw2 (FGw_xr a5)
      have z33 : F w4 133 = ((p : Nat) : Int) := by rw [FR.F a5.1 (by simp)]; exact y33
      have z89 : A w4 89 p = ((U2 : Nat) : Int) := pl4.1.1.2.1
      have z4 : F m4 (pq p 4) = ((U2 : Nat) : Int) := pl4.1.1.1
      obtain ⟨l4, e1, e2, e3⟩ := pt4.2.2.2.2.2.1
      -- there
      rw [show (8 : Int32) = I 8 from rfl, e_make, bnd_so, I_F' z4, (I_inb (by omega) (by omega)).mpr ⟨by omega, by omega⟩, ck_t, tnI (n := U2) rfl (by omega), wj_e, lt_e]
      -- here
      refine rb_ck (fun _ => ?_)
      rw [lt_e]
      refine rb_ck (fun _ => rb_ck (fun _ => ?_))
      rw [I_F' z33, tnI (n := p) rfl (by omega), I_A' z89, addN, wa_e, lt_e]
      refine rb_ck (fun _ => ?_)
      have z33' : F (wa w4 89 p ((U2 + (k + 1) : Nat) : Int)) 133 = ((p : Nat) : Int) := z33
      have sp : I ((p : Nat) : Int) * 500 + I ((U2 : Nat) : Int) = I ((500 * p + U2 : Nat) : Int) := by
        rw [show (500 : Int32) = I 500 from rfl, I_mul, I_add]
        congr 1
        omega
      rw [I_F' z33', sp, tnI (n := 500 * p + U2) rfl (by omega), wj_e, lt_e]
      generalize hm6 : wj m4 (pq p 2) U2 (mk 8 ((k : Nat) : Int)) = m6
      generalize hw6 : wj (wa w4 89 p ((U2 + (k + 1) : Nat) : Int)) 88 (500 * p + U2) (I ((k : Nat) : Int)).toInt64 = w6
      have i6 : m6.1 = m4.1 := by rw [← hm6]; rfl
      have f6 : ∀ d, F m6 d = F m4 d := fun d => by show (m6.1 d).toInt = _; rw [i6]; rfl
      have e5 : F m6 1105 = ((a : Nat) : Int) := by
        rw [f6, FR.F a4 (by simp [pq_n]), FR.F f2 (by simp)]
        exact r2
      refine l_bnd (pk_mo (tup_m (N := N) (k := k) (U := U2) (W := W) (l := l4) (a := a) (m := m6) ((f6 _).trans pl4.2.2.1.1) ((f6 _).trans e1) ⟨e2, e3⟩ hk ((f6 _).trans z4) rm4 e5 (by omega) k N m6 0 (by omega) FR.rf (fun q _ h => by omega) (fun _ _ => rfl)) (fun m7 _ hh => ?_))
      obtain ⟨t1, t2, t3, t4, t5, t6, t7⟩ := hh
      have z336 : F w6 133 = ((p : Nat) : Int) := by rw [← hw6]; exact z33
      have z926 : A w6 92 p = ((W : Nat) : Int) := by
        rw [← hw6]
        show A (wa w4 89 p ((U2 + (k + 1) : Nat) : Int)) 92 p = _
        rw [wa_rne (by omega)]
        exact pl4.2.2.1.2.1
      refine r_bnd (pk_mo (tup_r (N := N) (k := k) (U := U2) (W := W) (w := w6) hpp z336 z926 (by omega) hk rm4 k M2 w6 0 (by omega) FR.rf (fun q => by rw [if_neg (by omega)])) (fun w7 _ hh => ?_))
      obtain ⟨w5, s1, s2, rfl⟩ := hh
      show PP Q (K1 m7) (K2 _)
      -- the new cells
      have cm : ∀ q, m7.2.2.2 (pq p 2) q = m7.2.2.2 (pq p 2) q := fun _ => rfl
      have hU2 : U2 + (k + 1) ≤ 500 := rm4
      have hm7d : m7.2.2.2 (pq p 2) U2 = mk 8 ((k : Nat) : Int) := by rw [t5 U2 (Nat.le_refl _), ← hm6, wj_row, if_pos rfl]
      have hm7o : ∀ i, i < U2 → m7.2.2.2 (pq p 2) i = m4.2.2.2 (pq p 2) i := fun i hi => by rw [t5 i (by omega), ← hm6, wj_row, if_neg (by omega)]
      have m635 : m6.2.2.2 (pq p 35) = m4.2.2.2 (pq p 35) := by rw [← hm6]; exact wj_22 (pq_inj (by omega))
      generalize hw7 : wa (wj (wa w5 92 p ((W - k : Nat) : Int)) 91 (46000 * p + (W - k)) (mk 5 ((U2 : Nat) : Int))) 92 p ((W - k + 1 : Nat) : Int) = w7
      have w788 : w7.2.2.2 88 = w5.2.2.2 88 := by
        rw [← hw7]
        show (wj (wa w5 92 p ((W - k : Nat) : Int)) 91 (46000 * p + (W - k)) (mk 5 ((U2 : Nat) : Int))).2.2.2 88 = _
        rw [wj_22 (by omega)]; rfl
      have w688 : ∀ q, w6.2.2.2 88 q = if q = 500 * p + U2 then (I ((k : Nat) : Int)).toInt64 else w4.2.2.2 88 q := fun q => by rw [← hw6, wj_row]; rfl
      have w691 : w6.2.2.2 91 = w4.2.2.2 91 := by rw [← hw6, wj_22 (by omega)]; rfl
      have hw7d : hp w7 p U2 = (I ((k : Nat) : Int)).toInt64 := by
        show w7.2.2.2 88 (500 * p + U2) = _
        rw [w788, s2, if_neg (by omega), w688, if_pos rfl]
      have hw7o : ∀ i, i < U2 → hp w7 p i = hp w4 p i := fun i hi => by
        show w7.2.2.2 88 (500 * p + i) = _
        rw [w788, s2, if_neg (by omega), w688, if_neg (by omega)]
        rfl
      have hw7c : ∀ i, i < k → hp w7 p (U2 + 1 + i) = w4.2.2.2 91 (46000 * p + (W - k + i)) := fun i hi => by
        show w7.2.2.2 88 (500 * p + (U2 + 1 + i)) = _
        rw [w788, s2, if_pos (by omega), w691, show 46000 * p + (W - k) + (500 * p + (U2 + 1 + i) - (500 * p + U2 + 1)) = 46000 * p + (W - k + i) by omega]
      have vk : vn (mk 8 ((k : Nat) : Int)) = k := by unfold vn; rw [va_mk (by omega) (by omega)]; omega
      have vk' : vn ((I ((k : Nat) : Int)).toInt64) = k := by unfold vn; rw [va_w, I_ti (by omega) (by omega)]; omega
      have ti := tup_iso (k := k) (L := (List.range k).map (fun i => m4.2.2.2 (pq p 35) (W - k + i))) (L' := (List.range k).map (fun i => w4.2.2.2 91 (46000 * p + (W - k + i)))) (h2 := m7.2.2.2 (pq p 2)) (h2' := hp w7 p) pl4.1.2.1 (by simp) (by simp) (fun i t x ht hx => by
        simp only [List.getElem?_map, List.getElem?_range, Option.map_eq_some_iff] at ht hx
        obtain ⟨i1, h1, rfl⟩ := ht
        obtain ⟨i2, h2, rfl⟩ := hx
        rw [h1] at h2
        injection h2 with h2
        subst h2
        have il : i1 < k := by
          have := List.getElem?_eq_some_iff.mp h1
          obtain ⟨q1, q2⟩ := this
          simp at q1 q2
          omega
        exact pl4.2.2.1.2.2 (W - k + i1) (by omega)) (by omega) (by rw [hm7d]; exact vk) (by rw [hw7d]; exact vk') (fun i t ht => by
        simp only [List.getElem?_map, Option.map_eq_some_iff] at ht
        obtain ⟨i1, h1, rfl⟩ := ht
        obtain ⟨q1, q2⟩ := List.getElem?_eq_some_iff.mp h1
        simp at q1 q2
        subst q2
        rw [t6 i q1, m635]) (fun i t ht => by
        simp only [List.getElem?_map, Option.map_eq_some_iff] at ht
        obtain ⟨i1, h1, rfl⟩ := ht
        obtain ⟨q1, q2⟩ := List.getElem?_eq_some_iff.mp h1
        simp at q1 q2
        subst q2
        exact hw7c i q1) hm7o hw7o
      obtain ⟨is7, rt7⟩ := ti
      have fm7 : FGm p m m7 := FGm.tr fm4 (FGm.tr (m2 := m6) (by rw [← hm6]; exact FR.wj FR.rf (by simp)) (FR.mo t1 (by simp) (by simp) (by simp) (by simp)))
      have fw7 : FGw p j w1 w7 := by
        refine FGw.tr fw4 ⟨?_, fun d hd => ⟨?_, ?_, ?_⟩, fun d _ => ?_, fun i hi => ?_, fun i hi => ?_, fun i _ => ?_, fun i _ => ?_⟩
        · rw [← hw7]
          refine FR.wa (FR.wj (FR.wa (FR.tr ?_ (FR.mo s1 (by simp) (by simp) (by simp) (by simp))) (by simp)) (by simp)) (by simp)
          rw [← hw6]
          exact FR.wj (FR.wa FR.rf (by simp)) (by simp)
        · rw [← hw7, wa_rne (by omega)]
          show A (wa w5 92 p ((W - k : Nat) : Int)) 89 d = _
          rw [wa_rne (by omega), FR.A s1 (by simp), ← hw6]
          show A (wa w4 89 p ((U2 + (k + 1) : Nat) : Int)) 89 d = _
          rw [wa_ro (by omega) (by omega), if_neg hd]
        · rw [← hw7, wa_21 (by omega)]
          show (wa w5 92 p ((W - k : Nat) : Int)).2.2.1 90 d = _
          rw [wa_21 (by omega), s1.2.2.1 90 (by simp), ← hw6]
          show (wa w4 89 p ((U2 + (k + 1) : Nat) : Int)).2.2.1 90 d = _
          rw [wa_21 (by omega)]
        · rw [← hw7, wa_ro (by omega) (by omega), if_neg hd]
          show A (wa w5 92 p ((W - k : Nat) : Int)) 92 d = _
          rw [wa_ro (by omega) (by omega), if_neg hd, FR.A s1 (by simp), ← hw6]
          show A (wa w4 89 p ((U2 + (k + 1) : Nat) : Int)) 92 d = _
          rw [wa_rne (by omega)]
        · rw [← hw7, wa_rne (by omega)]
          show A (wa w5 92 p ((W - k : Nat) : Int)) 98 d = _
          rw [wa_rne (by omega), FR.A s1 (by simp), ← hw6]
          show A (wa w4 89 p ((U2 + (k + 1) : Nat) : Int)) 98 d = _
          rw [wa_rne (by omega)]
        · rw [w788, s2, if_neg (by omega), w688, if_neg (by omega)]
        · rw [← hw7]
          show (wj (wa w5 92 p ((W - k : Nat) : Int)) 91 (46000 * p + (W - k)) (mk 5 ((U2 : Nat) : Int))).2.2.2 91 i = _
          rw [wj_row, if_neg (by omega)]
          show w5.2.2.2 91 i = _
          rw [s1.2.2.2 91 (by simp), w691]
        · rw [← hw7]
          show (wj (wa w5 92 p ((W - k : Nat) : Int)) 91 (46000 * p + (W - k)) (mk 5 ((U2 : Nat) : Int))).2.2.2 93 i = _
          rw [wj_22 (by omega)]
          show w5.2.2.2 93 i = _
          rw [s1.2.2.2 93 (by simp), ← hw6, wj_22 (by omega)]
          rfl
        · rw [← hw7]
          show (wj (wa w5 92 p ((W - k : Nat) : Int)) 91 (46000 * p + (W - k)) (mk 5 ((U2 : Nat) : Int))).2.2.2 107 i = _
          rw [wj_22 (by omega)]
          show w5.2.2.2 107 i = _
          rw [s1.2.2.2 107 (by simp), ← hw6, wj_22 (by omega)]
          rfl
      have m7q : ∀ d, d ≠ 4 → d ≠ 26 → d ≠ 45 → m7.1 (pq p d) = m4.1 (pq p d) := fun d h1 h2 h3 => by
        rw [t1.1 _ (by
          simp only [List.mem_cons, List.not_mem_nil, or_false]
          intro c
          rcases c with c | c | c | c
          · exact pq_inj h1 c
          · exact pq_inj h2 c
          · exact pq_inj h3 c
          · exact pq_n (by omega) c.symm), i6]
      have m7j : ∀ d, d ≠ 2 → d ≠ 35 → m7.2.2.2 (pq p d) = m4.2.2.2 (pq p d) := fun d h1 h2 => by
        rw [t1.2.2.2 _ (by simp; exact ⟨pq_inj h1, pq_inj h2⟩), ← hm6]
        exact wj_22 (pq_inj h1)
      have w7A : ∀ K i, K ≠ 89 → K ≠ 92 → w7.2.2.1 K i = w4.2.2.1 K i := fun K i h1 h2 => by
        rw [← hw7, wa_21 h2]
        show (wa w5 92 p ((W - k : Nat) : Int)).2.2.1 K i = _
        rw [wa_21 h2, s1.2.2.1 K (by simp), ← hw6]
        show (wa w4 89 p ((U2 + (k + 1) : Nat) : Int)).2.2.1 K i = _
        rw [wa_21 h1]
      have w791 : ∀ i, w7.2.2.2 91 i = if i = 46000 * p + (W - k) then mk 5 ((U2 : Nat) : Int) else w4.2.2.2 91 i := fun i => by
        rw [← hw7]
        show (wj (wa w5 92 p ((W - k : Nat) : Int)) 91 (46000 * p + (W - k)) (mk 5 ((U2 : Nat) : Int))).2.2.2 91 i = _
        rw [wj_row]
        by_cases c : i = 46000 * p + (W - k)
        · rw [if_pos c, if_pos c]
        · rw [if_neg c, if_neg c]
          show w5.2.2.2 91 i = _
          rw [s1.2.2.2 91 (by simp), w691]
      have w7J : ∀ K, K = 93 ∨ K = 107 → w7.2.2.2 K = w4.2.2.2 K := fun K h => by
        rw [← hw7]
        show (wj (wa w5 92 p ((W - k : Nat) : Int)) 91 (46000 * p + (W - k)) (mk 5 ((U2 : Nat) : Int))).2.2.2 K = _
        rw [wj_22 (by omega)]
        show w5.2.2.2 K = _
        rw [s1.2.2.2 K (by simp; omega), ← hw6, wj_22 (by omega)]
        rfl
      have pl7 : PLs (fun k a c => b2' k a c ∨ (k = so (mk 5 ((U2 : Nat) : Int)) ∧ a = U2 ∧ c = U2)) p m7 w7 (U2 + (k + 1)) B (W - k + 1) Y := by
        obtain ⟨⟨⟨q1, q2, q3⟩, q4, q5⟩, ⟨q6, q7, q8⟩, ⟨q9, q10, q11⟩, q12, q13, q14⟩ := pl4
        have up : ∀ {t x : Int64}, RTb b2' t x → RTb (fun k a c => b2' k a c ∨ (k = so (mk 5 ((U2 : Nat) : Int)) ∧ a = U2 ∧ c = U2)) t x := fun h => RTb_mo (fun _ _ _ c => Or.inl c) h
        refine ⟨⟨⟨t2, ?_, by omega⟩, is7, ?_⟩, ⟨?_, ?_, fun i hi => ?_⟩, ⟨t3, ?_, fun i hi => ?_⟩, ?_, ?_, fun i hi => ?_⟩
        · rw [← hw7, wa_rne (by omega)]
          show A (wa w5 92 p ((W - k : Nat) : Int)) 89 p = _
          rw [wa_rne (by omega), FR.A s1 (by simp), ← hw6]
          show A (wa w4 89 p ((U2 + (k + 1) : Nat) : Int)) 89 p = _
          rw [wa_sm (by omega) (by omega)]
        · rw [m7q 5 (by omega) (by omega) (by omega), w7A 90 p (by omega) (by omega)]; exact q5
        · rw [show F m7 (pq p 24) = F m4 (pq p 24) from congrArg Int32.toInt (m7q 24 (by omega) (by omega) (by omega))]; exact q6
        · rw [show A w7 94 p = A w4 94 p from congrArg Int32.toInt (w7A 94 p (by omega) (by omega))]; exact q7
        · rw [m7j 33 (by omega) (by omega), w7J 93 (by omega)]; exact up (q8 i hi)
        · rw [← hw7, wa_sm (by omega) (by omega)]
        · rw [t7 i (by omega), w791]
          by_cases c : i = W - k
          · rw [if_pos c, if_pos (by omega)]
            exact rt7
          · rw [if_neg c, if_neg (by omega), m635]
            exact up (q11 i (by omega))
        · rw [show F m7 (pq p 7) = F m4 (pq p 7) from congrArg Int32.toInt (m7q 7 (by omega) (by omega) (by omega))]; exact q12
        · rw [show A w7 108 p = A w4 108 p from congrArg Int32.toInt (w7A 108 p (by omega) (by omega))]; exact q13
        · rw [m7j 6 (by omega) (by omega), w7J 107 (by omega)]; exact up (q14 i hi)
      have x98' : A w7 98 (60 * p + j) = ((n + 1 : Nat) : Int) := by
        show (w7.2.2.1 98 _).toInt = _
        rw [w7A 98 _ (by omega) (by omega)]
        show A w4 98 (60 * p + j) = _
        rw [FR.A a5.1 (by simp), FR.A f3 (by simp)]
        exact x98
      exact kS _ _ m7 w7 pl7 (RUs_mv ru fm7 (FGw.tr g1 fw7) t4 x98' cr) fm7 (FGw.tr g1 fw7)
    · rw [show decide ((0 : Int32) = 0) = true from rfl, br_t, show decide ((0 : Int32) = I ((0 : Nat) : Int)) = true from rfl, br_t]
      have z33 : F w4 133 = ((p : Nat) : Int) := by rw [FR.F a5.1 (by simp)]; exact y33
      have g4 : FGw p j w w4 := FGw.tr g1 (FGw.tr fw2 (FGw_xr a5))
      have e109 : A w4 109 p ≠ 3 := by
        rw [FR.A g4.1 (by simp), r6]; omega
      have e150 : F w4 150 = ((ee' : Nat) : Int) := by
        rw [FR.F g4.1 (by simp)]; exact hee'.1
      rw [noR_e hpp z33 e109 e150 hee'.2]
      exact kE m5 w4 (FGm.tr fm2 (FGm_xr a4)) g4 h5
  · have cz' : ¬ Z' ≤ 500 := by omega
    rw [decide_eq_false (by omega), decide_eq_false (by omega), br_f, br_f]
    rw [show (11 : Int32) = I 11 from rfl, wrong_e, bnd_so]
    refine r_bb ?_
    exact kX m2 w2 fm2 (FGw.tr g1 fw2) pl2 ru2 (PTQ_same pt (fun d _ => f2.1 _ (by simp)) (fun d _ => jq d)) (CX_141 xc1 f3) (by rw [FR.F f3 (by simp), ← hw1]; exact h140)
end
