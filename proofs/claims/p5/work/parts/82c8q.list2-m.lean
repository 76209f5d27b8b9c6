section
set_option maxRecDepth 100000
def lstB (N M : Nat) (u : MS) (v1 v2 : Int32) : Option (MS × Unit) := bnd (fm_M_wants N u (u.1 133) (2 * v1)) (fun u5 r5 => br (decide (r5 = 0)) (bnd (fm_M_noRoom N u5) (fun u8 _ => some (u8, ()))) (br (decide (v2 = 1)) (bnd (fm_M_take N u5) (fun u7 r7 => fb_M_listRun_89 N (gg_M_listRun N M) u7 (v1) (r7))) (bnd (fm_M_term N u5 6 0) (fun u6 r6 => fb_M_listRun_89 N (gg_M_listRun N M) u6 (v1) (r6)))))
section
variable {α β : Type} {b : Int → Nat → Nat → Prop} {Fv Fv' : Int64 → Int64 → Prop} {P P' : Int64 → Prop} {ow kd ow' kd' : Nat → Nat} {N p U W l k tl dl : Nat} {m0 w0 : MS} {h h' : Nat → Int64} {Q : MS → α → MS → β → Prop} {K1 : MS → Int32 → Option (MS × α)} {K2 : MS → Unit → Option (MS × β)}
theorem lsz_lp (hpp : p < 24) (htl : tl + dl = 1) (hh : m0.2.2.2 (pq p 2) = h) (hh' : hp w0 p = h') (g : HPc h U ow kd Fv P) (hU : U ≤ 500) (hF : FVc Fv) (g' : HP h' U ow' kd' Fv' P') (s : ISb b h U h' U) (tp : ∀ i, i < W → TPb b U ow kd P U ow' kd' P' (m0.2.2.2 (pq p 35) i) (w0.2.2.2 91 (46000 * p + i))) (h26 : F m0 (pq p 26) = ((W + dl : Nat) : Int)) (hl : F m0 (pq p 45) = ((l : Nat) : Int)) (hl2 : W + dl ≤ l ∧ l ≤ 1000000) (h133 : F w0 133 = ((p : Nat) : Int)) (h92 : A w0 92 p = ((W : Nat) : Int)) (hW : W ≤ 46000) (hk : k + tl ≤ W) (hk2 : k ≤ 100) (hN : 6000 ≤ N)
    (kk : ∀ m2 w2 M2 Z Z', FR [] [] [] [45] m0 m2 → FR [] [] [] [141] w0 w2 → ((Z ≤ 500 ∧ Z' = Z) ∨ (500 < Z ∧ 500 < Z')) → Z ≤ 200 + 1000 * (k + 1) → Z' ≤ 200 + 1000 * (k + 1) → PP Q (K1 m2 (I ((Z : Nat) : Int))) (bnd (br (decide (I ((Z' : Nat) : Int) ≤ 500)) (lstB N M2 w2 (I ((k : Nat) : Int)) (I ((tl : Nat) : Int))) (bnd (fr_M_error N w2 11) (fun u11 _ => some (u11, ())))) K2)) : ∀ (d M M2 : Nat) (m w : MS) (i z z' : Nat), i + d = k + tl → FR [] [] [] [45] m0 m → FR [] [] [] [141] w0 w → ((z ≤ 500 ∧ z' = z) ∨ (500 < z ∧ 500 < z')) → z ≤ 200 + 1000 * i → z' ≤ 200 + 1000 * i → PP Q (bnd (hg_Ma_sizes N M m p (I ((k + 1 : Nat) : Int)) (I ((z : Nat) : Int)) (I ((i + dl : Nat) : Int))) K1) (bnd ((gg_M_listRun N M2).1 w (I ((k : Nat) : Int)) (I ((tl : Nat) : Int)) (I ((z' : Nat) : Int)) (I ((i : Nat) : Int))) K2) := by
  intro d
  induction d with
  | zero =>
    intro M M2 m w i z z' hi fm fw hz b1 b2
    have : i = k + tl := by omega
    subst this
    cases M with
    | zero => exact pp_nl
    | succ M =>
    cases M2 with
    | zero => exact pp_nr
    | succ M2 =>
    show PP Q (bnd (hb_Ma_sizes_5 N (hg_Ma_sizes N M) m p (I ((k + 1 : Nat) : Int)) (I ((z : Nat) : Int)) (I ((k + tl + dl : Nat) : Int))) K1) (bnd (fb_M_listRun_7 N (gg_M_listRun N M2) w (I ((k : Nat) : Int)) (I ((tl : Nat) : Int)) (I ((z' : Nat) : Int)) (I ((k + tl : Nat) : Int))) K2)
    unfold hb_Ma_sizes_5 fb_M_listRun_7
    rw [addN, decI (by omega) (by omega) (by omega) (by omega), decide_eq_true (by omega), br_tq, bnd_so, decI (by omega) (by omega) (by omega) (by omega), decide_eq_true (by omega), br_tq]
    exact kk m w M2 z z' fm fw hz (by omega) (by omega)
  | succ d ih =>
    intro M M2 m w i z z' hi fm fw hz b1 b2
    cases M with
    | zero => exact pp_nl
    | succ M =>
    cases M2 with
    | zero => exact pp_nr
    | succ M2 =>
    show PP Q (bnd (hb_Ma_sizes_5 N (hg_Ma_sizes N M) m p (I ((k + 1 : Nat) : Int)) (I ((z : Nat) : Int)) (I ((i + dl : Nat) : Int))) K1) (bnd (fb_M_listRun_7 N (gg_M_listRun N M2) w (I ((k : Nat) : Int)) (I ((tl : Nat) : Int)) (I ((z' : Nat) : Int)) (I ((i : Nat) : Int))) K2)
    unfold hb_Ma_sizes_5 fb_M_listRun_7
    have e26 : F m (pq p 26) = ((W + dl : Nat) : Int) := by rw [FR.F fm (by simp)]; exact h26
    have e45 : F m (pq p 45) = ((l : Nat) : Int) := by rw [FR.F fm (by simp)]; exact hl
    have x33 : F w 133 = ((p : Nat) : Int) := by rw [FR.F fw (by simp)]; exact h133
    have x92 : A w 92 p = ((W : Nat) : Int) := by rw [FR.A fw (by simp)]; exact h92
    rw [addN, decI (by omega) (by omega) (by omega) (by omega), decide_eq_false (by omega), br_fq, decI (by omega) (by omega) (by omega) (by omega), decide_eq_false (by omega), br_fq, below_e (k := i + dl) (W := W + dl) (l := l) e26 e45 hl2.1 hl2.2 rfl (by omega), bnd_so, show W + dl - 1 - (i + dl) = W - 1 - i by omega]
    refine rb_bnd (pk_mo (top_r (N := N) (k := i) hpp x33 x92 hW (by omega)) (fun w2 r e => ?_))
    obtain ⟨rfl, rfl⟩ := e
    rw [I_F' x33]
    have j2 : m.2.2.2 (pq p 2) = h := by rw [fm.2.2.2 _ (by simp; exact fun c => pq_n (by omega) c.symm)]; exact hh
    have j35 : m.2.2.2 (pq p 35) = m0.2.2.2 (pq p 35) := fm.2.2.2 _ (by simp; exact fun c => pq_n (by omega) c.symm)
    have hp2 : hp w2 p = h' := by
      rw [← hh']
      funext q
      show w2.2.2.2 88 _ = _
      rw [fw.2.2.2 88 (by simp)]
      rfl
    have t2 := tp (W - 1 - i) (by omega)
    rw [← j35, ← fw.2.2.2 91 (by simp)] at t2
    refine l_bb (r_bb ?_)
    refine pp_bb (pp_mo (size_pp (N := N) (v := pq p 2) (fun c => pq_n (by omega) c.symm) j2 hp2 g hU hF g' hU (by omega) s t2 hN) (fun m3 r3 w3 r4 q => ?_))
    obtain ⟨⟨f3, f4⟩, z1, hz1, -, -, rfl, rfl⟩ := q
    rw [addN, addN, show I ((i + dl : Nat) : Int) + 1 = I ((i + 1 + dl : Nat) : Int) by rw [show i + 1 + dl = i + dl + 1 by omega]; exact addN, show I ((i : Nat) : Int) + 1 = I ((i + 1 : Nat) : Int) from addN]
    refine ih M M2 m3 w3 (i + 1) _ _ (by omega) (FR.tr fm f3) (FR.tr fw f4) ?_ (by omega) ?_
    · by_cases c : z1 ≤ 500
      · rw [if_pos c]
        omega
      · rw [if_neg c]
        omega
    · by_cases c : z1 ≤ 500
      · rw [if_pos c]
        omega
      · rw [if_neg c]
        omega
end
section
variable {α β : Type} {b : Int → Nat → Nat → Prop} {Fv Fv' : Int64 → Int64 → Prop} {P P' : Int64 → Prop} {ow kd ow' kd' : Nat → Nat} {N p U B W Y l k tl dl j a n ee ee' : Nat} {m w m1 w1 : MS} {te xe : Int64} {Q : MS → α → MS → β → Prop} {K1 : MS → Option (MS × α)} {K2 : MS → Unit → Option (MS × β)}
theorem list_mk {M2 : Nat} {b2 : Int → Nat → Nat → Prop} (hpp : p < 24) (hk : 0 < k) (hU : U + 2 * k ≤ 500) (hW : W + k + 1 ≤ 46000) (h26 : F m (pq p 26) = ((W + k + 1 : Nat) : Int)) (hl : F m (pq p 45) = ((l : Nat) : Int)) (hl2 : W + k + 1 ≤ l ∧ l ≤ 1000000) (h5 : F m 1105 = ((a : Nat) : Int)) (ha : a < 24000) (h4 : F m (pq p 4) = ((U : Nat) : Int)) (pl : PLs b2 p (wi m (pq p 26) ((W + k : Nat) : Int)) w U B (W + k) Y) (h133 : F w 133 = ((p : Nat) : Int)) (rt : RTb b2 (m.2.2.2 (pq p 35) (W + k)) xe)
    (kS : ∀ b3 U3 m3 w3, PLs b3 p m3 w3 U3 B (W + 1) Y → FR [pq p 4, pq p 26, pq p 45, 1105] [] [] [pq p 2, pq p 35] m m3 → F m3 1105 = ((a + 2 : Nat) : Int) → FGw p j w w3 → w3.2.2.1 98 = w.2.2.1 98 → PP Q (K1 m3) (K2 w3 ())) : PP Q (bnd (hg_Ma_list N N m p (I ((k : Nat) : Int)) (I ((U : Nat) : Int)) (I ((0 : Nat) : Int))) (fun u _ => K1 u)) (bnd ((gg_M_listRun N M2).2 w (I ((k : Nat) : Int)) xe (I ((0 : Nat) : Int))) K2) := by
  have j35 : (wi m (pq p 26) ((W + k : Nat) : Int)).2.2.2 = m.2.2.2 := rfl
  refine l_bnd (pk_mo (lst_m (N := N) (U := U) (W := W) (k := k) (lc := l) (a := a) (m0 := m) h26 hl hl2 h5 ha hk hU k N m 0 (by omega) FR.rf ⟨fun _ _ => rfl, fun r hr => by omega⟩) (fun m7 _ hh => ?_))
  obtain ⟨t1, t2, t3, t4, t5, t6, t7⟩ := hh
  refine r_bnd (pk_mo (lst_r (N := N) (U := U) (W := W) (k := k) (w0 := w) (te := xe) hpp h133 (by omega) hU k M2 w 0 xe (by omega) FR.rf (by rw [pl.1.1.2.1]; congr 1) (by rw [pl.2.2.1.2.1]; congr 1) (fun _ _ => ⟨rfl, rfl⟩) (fun _ _ => rfl) ⟨fun _ _ => rfl, fun r hr => by omega⟩ (by rw [if_pos rfl])) (fun w7 _ hh => ?_))
  obtain ⟨w5, s1, s89, so1, so2, ls, rfl⟩ := hh
  generalize hw7 : wa (wj w5 91 (46000 * p + W) (if k = 0 then xe else mk 7 ((U + 2 * (k - 1) : Nat) : Int))) 92 p ((W + 1 : Nat) : Int) = w7
  have kz : (if k = 0 then xe else mk 7 ((U + 2 * (k - 1) : Nat) : Int)) = mk 7 ((U + 2 * (k - 1) : Nat) : Int) := if_neg (by omega)
  rw [kz] at hw7
  have f7 : FR [] [] [89, 92] [88, 91] w w7 := by
    rw [← hw7]
    exact FR.wa (FR.wj (FR.mo s1 (by simp) (by simp) (by simp) (by simp)) (by simp)) (by simp)
  have hp7 : hp w7 p = hp w5 p := by
    funext i
    rw [← hw7]
    show (wj w5 91 (46000 * p + W) (mk 7 ((U + 2 * (k - 1) : Nat) : Int))).2.2.2 88 (500 * p + i) = _
    rw [wj_22 (by omega)]
    rfl
  have w791 : ∀ i, w7.2.2.2 91 i = if i = 46000 * p + W then mk 7 ((U + 2 * (k - 1) : Nat) : Int) else w.2.2.2 91 i := fun i => by
    rw [← hw7]
    show (wj w5 91 (46000 * p + W) _).2.2.2 91 i = _
    rw [wj_row]
    by_cases c : i = 46000 * p + W
    · rw [if_pos c, if_pos c]
    · rw [if_neg c, if_neg c, s1.2.2.2 91 (by simp)]
  have e89 : A w7 89 p = ((U + 2 * k : Nat) : Int) := by
    rw [← hw7, wa_rne (by omega)]
    exact s89
  have e92 : A w7 92 p = ((W + 1 : Nat) : Int) := by rw [← hw7, wa_sm (by omega) (by omega)]
  have fw7 : FGw p j w w7 := by
    refine FGw_mk f7 (fun r hr => ?_) (fun r hr => ?_) (fun i hi => ?_) (fun i hi => ?_)
    · rw [← hw7, wa_rne (by omega)]
      exact (so1 r hr).1
    · rw [← hw7, wa_ro (by omega) (by omega), if_neg hr]
      exact (so1 r hr).2
    · rw [← hw7]
      show (wj w5 91 (46000 * p + W) (mk 7 ((U + 2 * (k - 1) : Nat) : Int))).2.2.2 88 i = _
      rw [wj_22 (by omega)]
      exact so2 i hi
    · rw [w791, if_neg (by omega)]
  obtain ⟨is7, rt7⟩ := pairs_iso (l := k) (h2 := m7.2.2.2 (pq p 2)) (h2' := hp w7 p) (tt := fun i => m.2.2.2 (pq p 35) (W + i)) (xx := fun i => w.2.2.2 91 (46000 * p + (W + i))) (te := m.2.2.2 (pq p 35) (W + k)) (xe := xe) pl.1.2.1 hU hk t5 t6 (by rw [hp7]; exact ls) (fun i hi => pl.2.2.1.2.2 (W + i) (by omega)) rt
  refine kS (fun k_1 a c => b2 k_1 a c ∨ bnL U U k k_1 a c) (U + 2 * k) m7 w7 ?_ t1 t4 fw7 (f7.2.2.1 98 (by simp))
  have t1' : FR [pq p 4, pq p 26, pq p 45, 1105] [] [] [pq p 2, pq p 35] (wi m (pq p 26) ((W + k : Nat) : Int)) m7 := ⟨fun i hi => by
    rw [t1.1 i hi]
    exact (wi_1 (fun c => hi (by rw [c]; simp))).symm, t1.2.1, t1.2.2.1, t1.2.2.2⟩
  exact PLs_mk pl (fun _ _ _ hh => Or.inl hh) t1' t2 t3 (by omega) t7 f7 e89 hU e92 (fun i hi => by
    rw [w791]
    by_cases c : i = W
    · rw [if_pos c, if_pos (by omega)]
    · rw [if_neg c, if_neg (by omega)]) is7 rt7
end
end
section
set_option maxRecDepth 100000
section
variable {α β : Type} {b : Int → Nat → Nat → Prop} {Fv Fv' : Int64 → Int64 → Prop} {P P' : Int64 → Prop} {ow kd ow' kd' : Nat → Nat} {N p U B W Y l k j a n ee ee' : Nat} {m w : MS} {nb : Nat → Nat} {Hs Os : Nat → List Nat} {y : Option (Nat × Nat × Nat)} {v : Int} {Q : MS → α → MS → β → Prop} {K1 : MS → Option (MS × α)} {K2 : MS → Option (MS × β)}
theorem one_5 : fm_M_one N w (I v) (I 5) = bnd (fm_M_goTo N w (I v + 1)) (fun u7 _ => ck (inb (I v) (ln 25)) (ck (inb (I v) (ln 26)) (bnd (fm_M_listRun N u7 (u7.2.2.1 25 (I v).toNatClampNeg) (u7.2.2.1 26 (I v).toNatClampNeg)) (fun u22 _ => some (u22, ()))))) := rfl
theorem FGw_141 {w2 : MS} (f : FR [] [] [] [141] w w2) : FGw p j w w2 := ⟨FR.mo f (by simp) (by simp) (by simp) (by simp), fun _ _ => ⟨FR.A f (by simp), by rw [f.2.2.1 90 (by simp)], FR.A f (by simp)⟩, fun _ _ => FR.A f (by simp), fun _ _ => by rw [f.2.2.2 88 (by simp)], fun _ _ => by rw [f.2.2.2 91 (by simp)], fun _ _ => by rw [f.2.2.2 93 (by simp)], fun _ _ => by rw [f.2.2.2 107 (by simp)]⟩
theorem PLs_4541 {m2 w2 : MS} (pl : PLs b p m w U B W Y) (f2 : FR [] [] [] [45] m m2) (f3 : FR [] [] [] [141] w w2) : PLs b p m2 w2 U B W Y := by
  have jq : ∀ d, m2.2.2.2 (pq p d) = m.2.2.2 (pq p d) := fun d => f2.2.2.2 _ (by simp; exact fun c => pq_n (by omega) c.symm)
  exact PLs_cg pl (fun d _ => f2.1 _ (by simp)) (fun i _ => by rw [jq]) (fun i _ => by rw [jq]) (fun i _ => by rw [jq]) (fun i _ => by rw [jq]) (fun K hK => by rw [f3.2.2.1 K (by simp)]) (fun i _ => by rw [f3.2.2.2 88 (by simp)]) (fun i _ => by rw [f3.2.2.2 93 (by simp)]) (fun i _ => by rw [f3.2.2.2 91 (by simp)]) (fun i _ => by rw [f3.2.2.2 107 (by simp)])
theorem op_list1 (hpp : p < 24) (pl : PLs b p m w U B (W + k + 1) Y) (ru : RUs m w p j nb Hs Os y a n) (hW : W + k + 1 ≤ 46000) (hl : F m (pq p 45) = ((l : Nat) : Int)) (hl2 : W + k + 1 ≤ l ∧ l ≤ 1000000) (pt : PTQ m p U ow kd Fv P B (W + k + 1) Y) (cx : CTX Fv P m) (xc : CX w p (hp w p) U ow' kd' Fv' P' (W + k + 1) B Y) (g : HPc (m.2.2.2 (pq p 2)) U ow kd Fv P) (g' : HP (hp w p) U ow' kd' Fv' P') (hF : FVc Fv) (h140 : F w 140 = -1) (h25 : A w 25 n = ((k : Nat) : Int)) (h26 : A w 26 n = 1) (hk : 0 < k) (hk2 : k ≤ 100) (c1 : A m 23 (a + 1) = ((k : Nat) : Int)) (hee : F m 955 = ((ee : Nat) : Int) ∧ ee < 24) (hee' : F w 150 = ((ee' : Nat) : Int) ∧ ee' < 4000) (hN : 2200000 ≤ N) (cr : ∃ f, CRs (A m 23) (ROs w) (w.2.2.2 34) f y (a + 2) (n + 1) (Hs j) (Os j))
    (kS : ∀ b3 U3 m3 w3, PLs b3 p m3 w3 U3 B (W + 1) Y → RUs m3 w3 p j nb Hs Os y (a + 2) (n + 1) → FGm p m m3 → FGw p j w w3 → PP Q (K1 m3) (K2 w3))
    (kX : ∀ m3 w3, FGm p m m3 → FGw p j w w3 → PLs b p m3 w3 U B (W + k + 1) Y → RUb m3 w3 p j nb Hs Os y → PTQ m3 p U ow kd Fv P B (W + k + 1) Y → CX w3 p (hp w3 p) U ow' kd' Fv' P' (W + k + 1) B Y → F w3 140 = -1 → PP Q (K1 (tld m3 1 (-1) (mk 1 11))) (bnd (fr_M_error N w3 11) (fun u _ => K2 u)))
    (kE : ∀ m3 w3, FGm p m m3 → FGw p j w w3 → m3.1 (pq p 5) = w3.2.2.1 90 p → PP Q (K1 (enS m3 p (mk 1 20) p ee)) (K2 (wi (enR w3 p 0 ((p : Nat) : Int) (mk 1 20) ee') 151 1))) : PP Q (bnd (hm_Ma_making N m p (I 5)) (fun u _ => K1 u)) (bnd (fm_M_one N w (I ((n : Nat) : Int)) (I 5)) (fun u _ => K2 u)) := by
  obtain ⟨⟨fa, ct⟩, ⟨r2, r3⟩, ⟨f0, cr0⟩, ⟨r5, r6⟩, r7, ⟨r8, r9, r10⟩, r11, r12, r13⟩ := id ru
  have cb := CR_b cr0
  have hj : j < 60 := fa.1.2.2
  rw [mak5, one_5, I_F' r2, show I ((a : Nat) : Int) + 1 = I ((a + 1 : Nat) : Int) from addN, Co_e (k := a + 1) rfl (by omega), bnd_so, c1, show I ((n : Nat) : Int) + 1 = I ((n + 1 : Nat) : Int) from addN]
  refine l_bb (r_bb ?_)
  refine r_bnd (pk_mo (goto_r (N := N) (n := ((n + 1 : Nat) : Int)) hpp r11 fa.1.2.1 hj) (fun w1 _ e => ?_))
  subst e
  refine rb_ck (fun _ => rb_ck (fun _ => ?_))
  have e25 : A (wa w 98 (60 * p + j) ((n + 1 : Nat) : Int)) 25 n = ((k : Nat) : Int) := by rw [wa_rne (by omega)]; exact h25
  have e26 : A (wa w 98 (60 * p + j) ((n + 1 : Nat) : Int)) 26 n = ((1 : Nat) : Int) := by rw [wa_rne (by omega)]; exact h26
  rw [tnI (n := n) rfl (by omega), I_A' e25, I_A' e26]
  refine r_bb ?_
  generalize hw1 : wa w 98 (60 * p + j) ((n + 1 : Nat) : Int) = w1
  have g1 : FGw p j w w1 := by rw [← hw1]; exact FGw.goto
  have pl1 : PLs b p m w1 U B (W + k + 1) Y := by rw [← hw1]; exact PLs_98 pl
  have x33 : F w1 133 = ((p : Nat) : Int) := by rw [← hw1]; exact r11
  have x98 : A w1 98 (60 * p + j) = ((n + 1 : Nat) : Int) := by rw [← hw1, wa_sm (by omega) (by omega)]
  have hp1 : hp w1 p = hp w p := by rw [← hw1]; rfl
  have xc1 : CX w1 p (hp w1 p) U ow' kd' Fv' P' (W + k + 1) B Y := by rw [← hw1]; exact CX_98 xc
  have y40 : F w1 140 = -1 := by rw [← hw1]; exact h140
  have tp : ∀ i, i < W + k + 1 → TPb b U ow kd P U ow' kd' P' (m.2.2.2 (pq p 35) i) (w1.2.2.2 91 (46000 * p + i)) := fun i hi => ⟨pl1.2.2.1.2.2 i hi, pt.2.2.1.2 i hi, xc1.2.2.2.2.2.2.2.1 i hi⟩
  unfold hm_Ma_list hb_Ma_list_0 hm_Ma_sizes hb_Ma_sizes_0 fm_M_listRun fb_M_listRun_0
  have s2 : (2 : Int32) * I ((k : Nat) : Int) = I ((2 * k : Nat) : Int) := by
    rw [show (2 : Int32) = I 2 from rfl, I_mul]
    congr 1
  rw [s2, show I ((k : Nat) : Int) + 1 = I ((k + 1 : Nat) : Int) from addN, show (0 : Int32) = I ((0 : Nat) : Int) from rfl]
  refine l_bb ?_
  refine lsz_lp (tl := 1) (dl := 0) (U := U) (W := W + k + 1) (l := l) (k := k) hpp rfl rfl hp1 g pl.1.1.2.2 hF g' pl.1.2.1 tp pl.2.2.1.1 hl hl2 x33 pl1.2.2.1.2.1 hW (by omega) hk2 (by omega) (fun m2 w2 M2 Z Z' f2 f3 hZ b1 b2 => ?_) (k + 1) N N m w1 0 (2 * k) (2 * k) (by omega) FR.rf FR.rf (by omega) (by omega) (by omega)
  have fm2 : FGm p m m2 := FR.mo f2 (by simp) (by simp) (by simp) (by simp)
  have fw2 : FGw p j w1 w2 := FGw_141 f3
  have jq : ∀ d, m2.2.2.2 (pq p d) = m.2.2.2 (pq p d) := fun d => f2.2.2.2 _ (by simp; exact fun c => pq_n (by omega) c.symm)
  have pl2 : PLs b p m2 w2 U B (W + k + 1) Y := PLs_4541 pl1 f2 f3
  have ru2 : RUb m2 w2 p j nb Hs Os y := RUb_fg (RUb_fg (RUs_b ru) FGm.rf g1) fm2 fw2
  rw [show (500 : Int32) = I ((500 : Nat) : Int) from rfl, decI (by omega) (by omega) (by omega) (by omega), decI (by omega) (by omega) (by omega) (by omega)]
  by_cases cz : Z ≤ 500
  · have cz' : Z' ≤ 500 := by omega
    rw [decide_eq_true (by omega), decide_eq_true (by omega), br_tq, br_tq]
    unfold lstB
    have y33 : F w2 133 = ((p : Nat) : Int) := by rw [FR.F f3 (by simp)]; exact x33
    have y402 : F w2 140 = -1 := by rw [FR.F f3 (by simp)]; exact y40
    have pt2 : PTQ m2 p U ow kd Fv P B (W + k + 1) Y := PTQ_same pt (fun d _ => f2.1 _ (by simp)) (fun d _ => jq d)
    have cx2 : CTX Fv P m2 := CTX_fr cx (f2.1 22 (by simp)) (f2.2.2.1 3 (by simp))
    have xc2 : CX w2 p (hp w2 p) U ow' kd' Fv' P' (W + k + 1) B Y := CX_141 xc1 f3
    have e9 : F m2 (pq p 9) ≠ 3 := by rw [FR.F f2 (by simp), r5]; omega
    have ee2 : F m2 955 = ((ee : Nat) : Int) ∧ ee < 24 := ⟨by rw [FR.F f2 (by simp)]; exact hee.1, hee.2⟩
    rw [I_F' y33, s2]
    refine l_bb (r_bb ?_)
    refine pp_bb (pp_mo (room_pp (N := N) (k := 2 * k) pt2 cx2 xc2 pl2 y402 (by omega) e9 ee2 hN) (fun m4 r4 w4 r5' q9 => ?_))
    rcases q9 with ⟨rfl, rfl, a4, a5, b2', U2, pl4, rm4, ⟨ow2, kd2, pt4⟩, -⟩ | ⟨rfl, rfl, m5, a4, a5, rfl, h5⟩
    · rw [show decide ((1 : Int32) = 0) = false from rfl, br_fq, show decide ((1 : Int32) = I ((0 : Nat) : Int)) = false from rfl, br_fq, show decide (I ((1 : Nat) : Int) = 1) = true from rfl, br_tq]
      have fm4 : FGm p m m4 := FGm.tr fm2 (FGm_xr a4)
      have fw4 : FGw p j w1 w4 := FGw.tr fw2 (FGw_xr a5)
      have z33 : F w4 133 = ((p : Nat) : Int) := by rw [FR.F a5.1 (by simp)]; exact y33
      have z4 : F m4 (pq p 4) = ((U2 : Nat) : Int) := pl4.1.1.1
      obtain ⟨l4, e1, e2, e3⟩ := pt4.2.2.2.2.2.1
      have e5 : F m4 1105 = ((a : Nat) : Int) := by rw [FR.F a4 (by simp [pq_n]), FR.F f2 (by simp)]; exact r2
      refine rb_bnd (pk_mo (take_r (N := N) (W := W + k) hpp z33 pl4.2.2.1.2.1 (by omega)) (fun w5 r e => ?_))
      obtain ⟨rfl, rfl⟩ := e
      unfold fb_M_listRun_89
      rw [I_F' z4, show (I ((0 : Nat) : Int)) = I ((0 : Nat) : Int) from rfl]
      have pl5 : PLs b2' p (wi m4 (pq p 26) ((W + k : Nat) : Int)) (wa w4 92 p ((W + k : Nat) : Int)) U2 B (W + k) Y := PLs_drop (k := 1) pl4 (by omega)
      refine list_mk (j := j) (K2 := fun u _ => K2 u) (l := l4) (a := a) hpp hk (by omega) hW pl4.2.2.1.1 e1 ⟨e2, e3⟩ e5 (by omega) z4 pl5 z33 (pl4.2.2.1.2.2 (W + k) (by omega)) (fun b3 U3 m7 w7 p7 t1 t4 fw7 s98 => ?_)
      have fm7 : FGm p m m7 := FGm.tr fm4 (FR.mo t1 (by simp) (by simp) (by simp) (by simp))
      have fw8 : FGw p j w1 w7 := FGw.tr fw4 (FGw.tr FGw.w92 fw7)
      have x98' : A w7 98 (60 * p + j) = ((n + 1 : Nat) : Int) := by
        show (w7.2.2.1 98 _).toInt = _
        rw [s98, wa_21 (by omega)]
        show A w4 98 (60 * p + j) = _
        rw [FR.A a5.1 (by simp), FR.A f3 (by simp)]
        exact x98
      exact kS b3 U3 m7 w7 p7 (RUs_mv ru fm7 (FGw.tr g1 fw8) t4 x98' cr) fm7 (FGw.tr g1 fw8)
    · rw [show decide ((0 : Int32) = 0) = true from rfl, br_tq, show decide ((0 : Int32) = I ((0 : Nat) : Int)) = true from rfl, br_tq]
      have z33 : F w4 133 = ((p : Nat) : Int) := by rw [FR.F a5.1 (by simp)]; exact y33
      have g4 : FGw p j w w4 := FGw.tr g1 (FGw.tr fw2 (FGw_xr a5))
      have e109 : A w4 109 p ≠ 3 := by rw [FR.A g4.1 (by simp), r6]; omega
      have e150 : F w4 150 = ((ee' : Nat) : Int) := by rw [FR.F g4.1 (by simp)]; exact hee'.1
      rw [noR_e hpp z33 e109 e150 hee'.2]
      exact kE m5 w4 (FGm.tr fm2 (FGm_xr a4)) g4 h5
  · have cz' : ¬ Z' ≤ 500 := by omega
    rw [decide_eq_false (by omega), decide_eq_false (by omega), br_fq, br_fq, show (11 : Int32) = I 11 from rfl, wrong_e, bnd_so]
    refine r_bb ?_
    exact kX m2 w2 fm2 (FGw.tr g1 fw2) pl2 ru2 (PTQ_same pt (fun d _ => f2.1 _ (by simp)) (fun d _ => jq d)) (CX_141 xc1 f3) (by rw [FR.F f3 (by simp)]; exact y40)
end
end
section
set_option maxRecDepth 100000
section
variable {Sf : MS → Int32 → Prop} {β : Type} {b : Int → Nat → Nat → Prop} {Fv Fv' : Int64 → Int64 → Prop} {P P' : Int64 → Prop} {ow kd ow' kd' : Nat → Nat} {N p U B W Y l k j a n ee ee' M1 vk : Nat} {m w : MS} {nb : Nat → Nat} {Hs Os : Nat → List Nat} {y : Option (Nat × Nat × Nat)} {v : Int} {Q : MS → Int32 → MS → β → Prop} {K2 : MS → Option (MS × β)}
theorem op_list0 (hpp : p < 24) (pl : PLs b p m w U B (W + k) Y) (ru : RUs m w p j nb Hs Os y a n) (hW : W + k + 1 ≤ 46000) (hvk : vk + 1 < 1000000000) (h956 : F m 955 ≤ F m 956) (hl : F m (pq p 45) = ((l : Nat) : Int)) (hl2 : W + k ≤ l ∧ l ≤ 1000000) (lb : LNB m p) (pt : PTQ m p U ow kd Fv P B (W + k) Y) (cx : CTX Fv P m) (xc : CX w p (hp w p) U ow' kd' Fv' P' (W + k) B Y) (g : HPc (m.2.2.2 (pq p 2)) U ow kd Fv P) (g' : HP (hp w p) U ow' kd' Fv' P') (hF : FVc Fv) (p6 : P (mk 6 0)) (h140 : F w 140 = -1) (h25 : A w 25 n = ((k : Nat) : Int)) (h26 : A w 26 n = 0) (hk : 0 < k) (hk2 : k ≤ 100) (d1 : A m 23 (a + 1) = 6) (d2 : A m 23 (a + 2) = 0) (d3 : A m 23 (a + 3) = 5) (d4 : A m 23 (a + 3 + 1) = ((k : Nat) : Int)) (hee : F m 955 = ((ee : Nat) : Int) ∧ ee < 24) (hee' : F w 150 = ((ee' : Nat) : Int) ∧ ee' < 4000) (hN : 2200000 ≤ N) (cr : ∃ f, CRs (A m 23) (ROs w) (w.2.2.2 34) f y (a + 3 + 2) (n + 1) (Hs j) (Os j))
    (kS : ∀ M' vk' b3 U3 m3 w3, M' ≤ M1 → vk' ≤ vk + 1 → PLs b3 p m3 w3 U3 B (W + 1) Y → RUs m3 w3 p j nb Hs Os y (a + 3 + 2) (n + 1) → FGm p m m3 → FGw p j w w3 → PP Q (q195 Sf N (qgo Sf N M') m3 p (I ((vk' : Nat) : Int))) (K2 w3))
    (kX : ∀ M' vk' m3 w3, M' ≤ M1 → vk' ≤ vk + 1 → FGm p m m3 → FGw p j w w3 → PLs b p (wi m3 (pq p 26) ((W + k : Nat) : Int)) w3 U B (W + k) Y → RUb m3 w3 p j nb Hs Os y → PTQ m3 p U ow kd Fv P B (W + k + 1) Y → CX w3 p (hp w3 p) U ow' kd' Fv' P' (W + k) B Y → F w3 140 = -1 → PP Q (q195 Sf N (qgo Sf N M') (tld m3 1 (-1) (mk 1 11)) p (I ((vk' : Nat) : Int))) (bnd (fr_M_error N w3 11) (fun u _ => K2 u)))
    (kE : ∀ M' vk' m3 w3, M' ≤ M1 → vk' ≤ vk + 1 → FGm p m m3 → FGw p j w w3 → m3.1 (pq p 5) = w3.2.2.1 90 p → PP Q (q195 Sf N (qgo Sf N M') (enS m3 p (mk 1 20) p ee) p (I ((vk' : Nat) : Int))) (K2 (wi (enR w3 p 0 ((p : Nat) : Int) (mk 1 20) ee') 151 1))) : PP Q (bnd (hm_Ma_making N m p (I 1)) (fun u _ => q195 Sf N (qgo Sf N M1) u p (I ((vk : Nat) : Int)))) (bnd (fm_M_one N w (I ((n : Nat) : Int)) (I 5)) (fun u _ => K2 u)) := by
  obtain ⟨⟨fa, ct⟩, ⟨r2, r3⟩, ⟨f0, cr0⟩, ⟨r5, r6⟩, r7, ⟨r8, r9, r10⟩, r11, r12, r13⟩ := id ru
  have cb := CR_b cr0
  have hj : j < 60 := fa.1.2.2
  have cb2 : a + 3 + 2 + 1 < 24000 := by
    obtain ⟨f9, cr9⟩ := cr
    exact (CR_b cr9).1
  rw [mak1, I_F' r2, show I ((a : Nat) : Int) + 1 = I ((a + 1 : Nat) : Int) from addN, Co_e (k := a + 1) rfl (by omega), bnd_so, d1, I_F' r2, show I ((a : Nat) : Int) + 2 = I ((a + 2 : Nat) : Int) from addN, Co_e (k := a + 2) rfl (by omega), bnd_so, d2, e_make, bnd_so]
  refine lb_bnd (pk_mo (pk_andq (push_m (N := N) (t := mk 6 0) pl.2.2.1.1 hl hl2.1 hl2.2) (pk_ok (push_t (N := N) (t := mk 6 0) pt lb (by omega) (Or.inl ⟨nh_mk (by omega), p6⟩)))) (fun m0 _ hh => ?_))
  obtain ⟨⟨z1, z2, z3⟩, -, pt0, -⟩ := hh
  have e50 : F m0 1105 = ((a : Nat) : Int) := by rw [FR.F z1 (by simp [pq_n])]; exact r2
  rw [I_F' e50, show I ((a : Nat) : Int) + 3 = I ((a + 3 : Nat) : Int) from addN, wi_e, lt_e, bnd_so]
  generalize hm1 : wi m0 1105 ((a + 3 : Nat) : Int) = m1
  have f1 : FGm p m m1 := by rw [← hm1]; exact FGm.tr (FGm.push z1) FGm.pc
  have f1r : FR [pq p 26, pq p 45, 1105] [] [] [pq p 35] m m1 := by
    rw [← hm1]
    exact FR.wi (FR.mo z1 (by simp) (by simp) (by simp) (by simp)) (by simp)
  have g5 : F m1 1105 = ((a + 3 : Nat) : Int) := by rw [← hm1, wi_sm (by omega) (by omega)]
  have q1 : ∀ d, d ≠ 26 → d ≠ 45 → m1.1 (pq p d) = m.1 (pq p d) := fun d h1 h2 => f1r.1 _ (by
    simp only [List.mem_cons, List.not_mem_nil, or_false]
    intro c
    rcases c with c | c | c
    · exact pq_inj h1 c
    · exact pq_inj h2 c
    · exact pq_n (by omega) c.symm)
  have gF : ∀ d, d < 2000 → d ≠ 1105 → F m1 d = F m d := fun d h0 h => congrArg Int32.toInt (f1r.1 d (by simp [pq_n h0]; exact h))
  have g26 : F m1 (pq p 26) = ((W + k + 1 : Nat) : Int) := by rw [← hm1, wi_ne (fun c => pq_n (by omega) c.symm)]; exact z2
  have j35 : ∀ i, i ≤ W + k → m1.2.2.2 (pq p 35) i = if i = W + k then mk 6 0 else m.2.2.2 (pq p 35) i := fun i hi => by rw [← hm1]; exact z3 i hi
  have jd : ∀ d, d ≠ 35 → m1.2.2.2 (pq p d) = m.2.2.2 (pq p d) := fun d h => f1r.2.2.2 _ (by simp; exact pq_inj h)
  have a23 : ∀ i, A m1 23 i = A m 23 i := fun i => FR.A f1r (by simp)
  have pt1 : PTQ m1 p U ow kd Fv P B (W + k + 1) Y := PTQ_same pt0 (fun d _ => by rw [← hm1, wi_1 (fun c => pq_n (by omega) c.symm)]) (fun d _ => by rw [← hm1]; rfl)
  have cx1 : CTX Fv P m1 := CTX_fr cx (f1r.1 22 (by simp [pq_n])) (f1r.2.2.1 3 (by simp))
  obtain ⟨l1, e1l, e2l, e3l⟩ := pt1.2.2.2.2.2.1
  refine go195 ((gF 1109 (by omega) (by omega)).trans r9) (by rw [gF 955 (by omega) (by omega), gF 956 (by omega) (by omega)]; exact h956) (fun hsf => ?_)
  cases M1 with
  | zero => exact pp_nl
  | succ M1 =>
  show PP Q (q67 Sf N (qgo Sf N M1) m1 p (I ((vk + 1 : Nat) : Int))) _
  rw [go_mk ((congrArg Int32.toInt (q1 9 (by omega) (by omega))).trans r5) ((gF 1108 (by omega) (by omega)).trans r8) (by omega) g5 (by omega) ((a23 _).trans d3) ⟨by omega, by omega⟩, mak5, one_5, I_F' g5, show I ((a + 3 : Nat) : Int) + 1 = I ((a + 3 + 1 : Nat) : Int) from addN, Co_e (k := a + 3 + 1) rfl (by omega), bnd_so, a23, d4, show I ((n : Nat) : Int) + 1 = I ((n + 1 : Nat) : Int) from addN]
  refine l_bb (r_bb ?_)
  refine r_bnd (pk_mo (goto_r (N := N) (n := ((n + 1 : Nat) : Int)) hpp r11 fa.1.2.1 hj) (fun w1 _ e => ?_))
  subst e
  refine rb_ck (fun _ => rb_ck (fun _ => ?_))
  have e25 : A (wa w 98 (60 * p + j) ((n + 1 : Nat) : Int)) 25 n = ((k : Nat) : Int) := by rw [wa_rne (by omega)]; exact h25
  have e26 : A (wa w 98 (60 * p + j) ((n + 1 : Nat) : Int)) 26 n = ((0 : Nat) : Int) := by rw [wa_rne (by omega)]; exact h26
  rw [tnI (n := n) rfl (by omega), I_A' e25, I_A' e26]
  refine r_bb ?_
  generalize hw1 : wa w 98 (60 * p + j) ((n + 1 : Nat) : Int) = w1
  have g1 : FGw p j w w1 := by rw [← hw1]; exact FGw.goto
  have plw : PLs b p m w1 U B (W + k) Y := by rw [← hw1]; exact PLs_98 pl
  have x33 : F w1 133 = ((p : Nat) : Int) := by rw [← hw1]; exact r11
  have x98 : A w1 98 (60 * p + j) = ((n + 1 : Nat) : Int) := by rw [← hw1, wa_sm (by omega) (by omega)]
  have hp1 : hp w1 p = hp w p := by rw [← hw1]; rfl
  have xc1 : CX w1 p (hp w1 p) U ow' kd' Fv' P' (W + k) B Y := by rw [← hw1]; exact CX_98 xc
  have y40 : F w1 140 = -1 := by rw [← hw1]; exact h140
  have pl1 : PLs b p (wi m1 (pq p 26) ((W + k : Nat) : Int)) w1 U B (W + k) Y := by
    refine PLs_cg plw (fun d hd => ?_) (fun i _ => by show m1.2.2.2 (pq p 2) i = _; rw [jd 2 (by omega)]) (fun i _ => by show m1.2.2.2 (pq p 33) i = _; rw [jd 33 (by omega)]) (fun i hi => by show m1.2.2.2 (pq p 35) i = _; rw [j35 i (by omega), if_neg (by omega)]) (fun i _ => by show m1.2.2.2 (pq p 6) i = _; rw [jd 6 (by omega)]) (fun _ _ => rfl) (fun _ _ => rfl) (fun _ _ => rfl) (fun _ _ => rfl) (fun _ _ => rfl)
    simp only [List.mem_cons, List.not_mem_nil, or_false] at hd
    by_cases c : d = 26
    · subst c
      apply Int32.toInt_inj.mp
      show F (wi m1 (pq p 26) ((W + k : Nat) : Int)) (pq p 26) = F m (pq p 26)
      rw [wi_sm (by omega) (by omega), pl.2.2.1.1]
    · rw [wi_1 (pq_inj c)]
      exact q1 d c (by omega)
  have tp : ∀ i, i < W + k → TPb b U ow kd P U ow' kd' P' (m1.2.2.2 (pq p 35) i) (w1.2.2.2 91 (46000 * p + i)) := fun i hi => by
    rw [j35 i (by omega), if_neg (by omega)]
    exact ⟨plw.2.2.1.2.2 i hi, pt.2.2.1.2 i hi, xc1.2.2.2.2.2.2.2.1 i hi⟩
  unfold hm_Ma_list hb_Ma_list_0 hm_Ma_sizes hb_Ma_sizes_0 fm_M_listRun fb_M_listRun_0
  have s2 : (2 : Int32) * I ((k : Nat) : Int) = I ((2 * k : Nat) : Int) := by
    rw [show (2 : Int32) = I 2 from rfl, I_mul]
    congr 1
  rw [s2, show I ((k : Nat) : Int) + 1 = I ((k + 1 : Nat) : Int) from addN, show (0 : Int32) = I ((0 : Nat) : Int) from rfl]
  refine l_bb ?_
  obtain ⟨N', rfl⟩ : ∃ N', N = N' + 1 := ⟨N - 1, by omega⟩
  show PP Q (bnd (hb_Ma_sizes_5 (N' + 1) (hg_Ma_sizes (N' + 1) N') m1 p (I ((k + 1 : Nat) : Int)) (I ((2 * k : Nat) : Int)) (I ((0 : Nat) : Int))) _) _
  unfold hb_Ma_sizes_5
  have be : hm_Fr_below (N' + 1) m1 p (I ((0 : Nat) : Int)) = some (m1, mk 6 0) := by
    have := below_e (N := N' + 1) (x := 0) (k := 0) (W := W + k + 1) (l := l1) g26 e1l e2l e3l rfl (by omega)
    rw [show W + k + 1 - 1 - 0 = W + k by omega, j35 _ (Nat.le_refl _), if_pos rfl] at this
    exact this
  rw [decI (by omega) (by omega) (by omega) (by omega), decide_eq_false (by omega), br_fq, be, bnd_so]
  have hz : SZc (m.2.2.2 (pq p 2)) U ow kd Fv P 1 (mk 6 0) 0 := Or.inl ⟨nh_mk (by omega), p6, rfl⟩
  refine l_bb (l_bnd (pk_mo (pk_ok (size_ok (N := N' + 1) (b := pq p 2) (u := m1) (fun c => pq_n (by omega) c.symm) (jd 2 (by omega)) (by have := pl.1.1.2.2; omega) hF.1 (by omega) hz (by omega))) (fun m1' r e => ?_)))
  obtain ⟨f1s, rfl⟩ := e
  rw [show I ((2 * k : Nat) : Int) + I ((0 : Nat) : Int) = I ((2 * k : Nat) : Int) from addN, show I ((0 : Nat) : Int) + 1 = I ((0 + 1 : Nat) : Int) from addN]
  have js : ∀ d, m1'.2.2.2 (pq p d) = m1.2.2.2 (pq p d) := fun d => f1s.2.2.2 _ (by simp; exact fun c => pq_n (by omega) c.symm)
  have is1 : ∀ d, m1'.1 d = m1.1 d := fun d => f1s.1 d (by simp)
  have fs1 : ∀ d, F m1' d = F m1 d := fun d => congrArg Int32.toInt (is1 d)
  refine lsz_lp (tl := 0) (dl := 1) (U := U) (W := W + k) (l := l1) (k := k) (m0 := m1') hpp rfl ((js 2).trans (jd 2 (by omega))) hp1 g pl.1.1.2.2 hF g' pl.1.2.1 (fun i hi => by rw [js]; exact tp i hi) ((fs1 _).trans g26) ((fs1 _).trans e1l) ⟨e2l, e3l⟩ x33 plw.2.2.1.2.1 (by omega) (by omega) hk2 (by omega) (fun m2 w2 M2 Z Z' f2 f3 hZ b1 b2 => ?_) k N' (N' + 1) m1' w1 0 (2 * k) (2 * k) (by omega) FR.rf FR.rf (by omega) (by omega) (by omega)
  have f12 : FR [] [] [] [45] m1 m2 := FR.tr f1s f2
  have fm2 : FGm p m m2 := FGm.tr f1 (FR.mo f12 (by simp) (by simp) (by simp) (by simp))
  have fw2 : FGw p j w1 w2 := FGw_141 f3
  have jq : ∀ d, m2.2.2.2 (pq p d) = m1.2.2.2 (pq p d) := fun d => f12.2.2.2 _ (by simp; exact fun c => pq_n (by omega) c.symm)
  have iq : ∀ d, m2.1 d = m1.1 d := fun d => f12.1 d (by simp)
  have fq : ∀ d, F m2 d = F m1 d := fun d => congrArg Int32.toInt (iq d)
  have pl2 : PLs b p (wi m2 (pq p 26) ((W + k : Nat) : Int)) w2 U B (W + k) Y := by
    refine PLs_cg pl1 (fun d _ => ?_) (fun i _ => by show m2.2.2.2 (pq p 2) i = _; rw [jq]; rfl) (fun i _ => by show m2.2.2.2 (pq p 33) i = _; rw [jq]; rfl) (fun i _ => by show m2.2.2.2 (pq p 35) i = _; rw [jq]; rfl) (fun i _ => by show m2.2.2.2 (pq p 6) i = _; rw [jq]; rfl) (fun K hK => by rw [f3.2.2.1 K (by simp)]) (fun i _ => by rw [f3.2.2.2 88 (by simp)]) (fun i _ => by rw [f3.2.2.2 93 (by simp)]) (fun i _ => by rw [f3.2.2.2 91 (by simp)]) (fun i _ => by rw [f3.2.2.2 107 (by simp)])
    by_cases c : d = 26
    · subst c
      exact (if_pos rfl).trans (if_pos rfl).symm
    · rw [wi_1 (pq_inj c), wi_1 (pq_inj c), iq]
  have ru2 : RUb m2 w2 p j nb Hs Os y := RUb_fg (RUb_fg (RUs_b ru) FGm.rf g1) fm2 fw2
  rw [show (500 : Int32) = I ((500 : Nat) : Int) from rfl, decI (by omega) (by omega) (by omega) (by omega), decI (by omega) (by omega) (by omega) (by omega)]
  by_cases cz : Z ≤ 500
  · have cz' : Z' ≤ 500 := by omega
    rw [decide_eq_true (by omega), decide_eq_true (by omega), br_tq, br_tq]
    unfold lstB
    have y33 : F w2 133 = ((p : Nat) : Int) := by rw [FR.F f3 (by simp)]; exact x33
    have y402 : F w2 140 = -1 := by rw [FR.F f3 (by simp)]; exact y40
    have pt2 : PTQ m2 p U ow kd Fv P B (W + k + 1) Y := PTQ_same pt1 (fun d _ => iq _) (fun d _ => jq d)
    have cx2 : CTX Fv P m2 := CTX_fr cx1 (iq 22) (f12.2.2.1 3 (by simp))
    have xc2 : CX w2 p (hp w2 p) U ow' kd' Fv' P' (W + k) B Y := CX_141 xc1 f3
    have e9 : F m2 (pq p 9) ≠ 3 := by
      rw [fq, show F m1 (pq p 9) = F m (pq p 9) from congrArg Int32.toInt (q1 9 (by omega) (by omega)), r5]; omega
    have ee2 : F m2 955 = ((ee : Nat) : Int) ∧ ee < 24 := ⟨by rw [fq, gF 955 (by omega) (by omega)]; exact hee.1, hee.2⟩
    rw [I_F' y33, s2]
    refine l_bb (r_bb ?_)
    refine pp_bb (pp_mo (room_pz (N := N' + 1) (k := 2 * k) (W := W + k) (e := 1) pt2 cx2 xc2 pl2 (fun i h1 h2 => by
      rw [jq, show i = W + k by omega, j35 _ (Nat.le_refl _), if_pos rfl]
      exact nh_mk (by omega)) y402 (by omega) (by omega) e9 ee2 hN) (fun m4 r4 w4 r5' q9 => ?_))
    rcases q9 with ⟨rfl, rfl, a4, a5, ax, b2', U2, pl4, rm4, ⟨ow2, kd2, pt4⟩, -⟩ | ⟨rfl, rfl, m5, a4, a5, rfl, h5⟩
    · rw [show decide ((1 : Int32) = 0) = false from rfl, br_fq, show decide ((1 : Int32) = I ((0 : Nat) : Int)) = false from rfl, br_fq, show decide (I ((0 : Nat) : Int) = 1) = false from rfl, br_fq]
      have fm4 : FGm p m m4 := FGm.tr fm2 (FGm_xr a4)
      have fw4 : FGw p j w1 w4 := FGw.tr fw2 (FGw_xr a5)
      have z33 : F w4 133 = ((p : Nat) : Int) := by rw [FR.F a5.1 (by simp)]; exact y33
      have z4 : F m4 (pq p 4) = ((U2 : Nat) : Int) := pt4.1.1
      obtain ⟨l4, e1, e2, e3⟩ := pt4.2.2.2.2.2.1
      have e5 : F m4 1105 = ((a + 3 : Nat) : Int) := by rw [FR.F a4 (by simp [pq_n]), fq]; exact g5
      have top4 : m4.2.2.2 (pq p 35) (W + k) = mk 6 0 := by rw [ax _ (Nat.le_refl _) (by omega), jq, j35 _ (Nat.le_refl _), if_pos rfl]
      rw [show fm_M_term (N' + 1) w4 6 0 = some (w4, mk 6 0) from rfl, rb_bnd_so]
      unfold fb_M_listRun_89
      rw [I_F' z4]
      refine list_mk (j := j) (K2 := fun u _ => K2 u) (K1 := fun u => q195 Sf (N' + 1) (qgo Sf (N' + 1) M1) u p (I ((vk + 1 : Nat) : Int))) (l := l4) (a := a + 3) hpp hk (by omega) hW pt4.2.2.1.1 e1 ⟨e2, e3⟩ e5 (by omega) z4 pl4 z33 (by rw [top4]; exact lit_b (Or.inr (Or.inr rfl)) (fun _ => rfl) ⟨by omega, by omega⟩) (fun b3 U3 m7 w7 p7 t1 t4 fw7 s98 => ?_)
      have fm7 : FGm p m m7 := FGm.tr fm4 (FR.mo t1 (by simp) (by simp) (by simp) (by simp))
      have fw8 : FGw p j w1 w7 := FGw.tr fw4 fw7
      have x98' : A w7 98 (60 * p + j) = ((n + 1 : Nat) : Int) := by
        show (w7.2.2.1 98 _).toInt = _
        rw [s98]
        show A w4 98 (60 * p + j) = _
        rw [FR.A a5.1 (by simp), FR.A f3 (by simp)]
        exact x98
      exact kS M1 (vk + 1) b3 U3 m7 w7 (by omega) (by omega) p7 (RUs_mv ru fm7 (FGw.tr g1 fw8) t4 x98' cr) fm7 (FGw.tr g1 fw8)
    · rw [show decide ((0 : Int32) = 0) = true from rfl, br_tq, show decide ((0 : Int32) = I ((0 : Nat) : Int)) = true from rfl, br_tq]
      have z33 : F w4 133 = ((p : Nat) : Int) := by rw [FR.F a5.1 (by simp)]; exact y33
      have g4 : FGw p j w w4 := FGw.tr g1 (FGw.tr fw2 (FGw_xr a5))
      have e109 : A w4 109 p ≠ 3 := by rw [FR.A g4.1 (by simp), r6]; omega
      have e150 : F w4 150 = ((ee' : Nat) : Int) := by rw [FR.F g4.1 (by simp)]; exact hee'.1
      rw [noR_e hpp z33 e109 e150 hee'.2]
      exact kE M1 (vk + 1) m5 w4 (by omega) (by omega) (FGm.tr fm2 (FGm_xr a4)) g4 h5
  · have cz' : ¬ Z' ≤ 500 := by omega
    rw [decide_eq_false (by omega), decide_eq_false (by omega), br_fq, br_fq, show (11 : Int32) = I 11 from rfl, wrong_e, bnd_so]
    refine r_bb ?_
    exact kX M1 (vk + 1) m2 w2 (by omega) (by omega) fm2 (FGw.tr g1 fw2) pl2 ru2 (PTQ_same pt1 (fun d _ => iq _) (fun d _ => jq d)) (CX_141 xc1 f3) (by rw [FR.F f3 (by simp)]; exact y40)
end
end
section
set_option maxRecDepth 100000
section
variable {Sf : MS → Int32 → Prop} {β : Type} {b : Int → Nat → Nat → Prop} {N p j Y sc a U B W l M M1 vk d kd : Nat} {m w : MS} {nb : Nat → Nat} {Hs Os : Nat → List Nat} {Q : MS → Int32 → MS → β → Prop} {K : MS → Unit → Option (MS × β)} {c wd : Int}
theorem none02_pp (hpp : p < 24) (hkd : (kd = 0 ∧ wd = 36 ∧ c = 14) ∨ (kd = 2 ∧ wd = 38 ∧ c = 16)) (tt : TRs m w p j nb Hs Os kd sc a (-1)) (hB : B = nb j + (Hs j).length + (Os j).length) (hvk : vk < 1000000000)
    (kU : ∀ (d : Nat) (K2 : MS → Option (MS × β)), (∀ (D : Option (MS × Int32)) (w3 : MS), PP Q D (K w3 ()) → PP Q D (K2 w3)) → PP Q (q195 Sf N (qgo Sf N M1) (tld m 1 (-1) (mk 1 c)) p (I ((vk : Nat) : Int))) (bnd (fm_M_goesUp N (rc_M_error N d) (wa w 94 p ((B : Nat) : Int)) (I 0) (mk 1 c)) (fun u _ => K2 u))) : PP Q (q67 Sf N (qgo Sf N M1) m p (I ((vk : Nat) : Int))) (bnd (gg_M_choose N (rc_M_error N d) (M + 1) w 1) K) := by
  obtain ⟨ru, hpc, ⟨h153, h154, h156⟩, tr, nd, f, g, zr⟩ := tt
  obtain ⟨-, ⟨r5, r6⟩, -, ⟨r8, r9, r10⟩, r11, r12, r13⟩ := id ru
  rw [← hB] at h156
  have zc : a + 1 < 24000 ∧ A m 23 a = wd := by
    cases g with
    | zero => exact zr.elim
    | succ g =>
      rcases zr with ⟨z0, ⟨-, ⟨q1, q2⟩ | ⟨q1, q2⟩ | ⟨q1, q2⟩ | ⟨q1, q2, -⟩⟩ | ⟨k0, ⟨z, -⟩, -⟩⟩
      · exact ⟨z0, by omega⟩
      · omega
      · exact ⟨z0, by omega⟩
      · omega
      · omega
  refine cho_n hpp r11 h156 h154 ?_
  cases d with
  | zero => exact pp_nr
  | succ d =>
  show PP Q _ (bnd (fm_M_nonePart N (rc_M_error N d) (wa w 94 p ((B : Nat) : Int))) (fun u8 r8 => bnd (gg_M_choose N (rc_M_error N (d + 1)) M u8 r8) K))
  have el : q67 Sf N (qgo Sf N M1) m p (I ((vk : Nat) : Int)) = q195 Sf N (qgo Sf N M1) (tld m 1 (-1) (mk 1 c)) p (I ((vk : Nat) : Int)) := by
    rcases hkd with ⟨-, rfl, rfl⟩ | ⟨-, rfl, rfl⟩
    · rw [go_fl r5 r8 hvk hpc (by omega) zc.2 ⟨by omega, by omega⟩, flo36, I_F' hpc, show I ((a : Nat) : Int) + 1 = I ((a + 1 : Nat) : Int) from addN, Co_e (k := a + 1) rfl zc.1, bnd_so, show (14 : Int32) = I 14 from rfl, wrong_e, bnd_so, bnd_so, bnd_so]
      rfl
    · rw [go_fl r5 r8 hvk hpc (by omega) zc.2 ⟨by omega, by omega⟩, flo38, I_F' hpc, show I ((a : Nat) : Int) + 1 = I ((a + 1 : Nat) : Int) from addN, Co_e (k := a + 1) rfl zc.1, bnd_so, show (16 : Int32) = I 16 from rfl, wrong_e, bnd_so, bnd_so, bnd_so]
      rfl
  rw [el]
  have y153 : F (wa w 94 p ((B : Nat) : Int)) 153 = ((kd : Nat) : Int) := h153
  have er : fm_M_nonePart N (rc_M_error N d) (wa w 94 p ((B : Nat) : Int)) = bnd ((rc_M_error N d).1 (wa w 94 p ((B : Nat) : Int)) (I c)) (fun u1 _ => ck (isb 0) (some (u1, 0))) := by
    unfold fm_M_nonePart fb_M_nonePart_0 fb_M_nonePart_119 fb_M_nonePart_122
    rcases hkd with ⟨rfl, rfl, rfl⟩ | ⟨rfl, rfl, rfl⟩
    · rw [I_F' y153, show decide (I ((0 : Nat) : Int) = 3) = false from rfl, br_fq, show decide (I ((0 : Nat) : Int) = 1) = false from rfl, br_fq, show decide (I ((0 : Nat) : Int) = 2) = false from rfl, br_fq]
      rfl
    · rw [I_F' y153, show decide (I ((2 : Nat) : Int) = 3) = false from rfl, br_fq, show decide (I ((2 : Nat) : Int) = 1) = false from rfl, br_fq, show decide (I ((2 : Nat) : Int) = 2) = true from rfl, br_tq]
      rfl
  rw [er]
  refine r_bb ?_
  refine er_pp (K2 := fun u => bnd (ck (isb 0) (some (u, 0))) (fun u8 r8 => bnd (gg_M_choose N (rc_M_error N (d + 1)) M u8 r8) K)) (fun d2 => ?_)
  exact kU d2 _ (fun D w3 h => rb_ck (fun _ => cho_0 h))
theorem none1_pp (hpp : p < 24) (tt : TRs m w p j nb Hs Os 1 sc a (-1)) (hB : B = nb j + (Hs j).length + (Os j).length) (hvk : vk < 1000000000) (pl : PLs b p m (wa w 94 p ((B : Nat) : Int)) U B (W + 1) Y) (hW : W + 1 ≤ 46000) (hl : F m (pq p 45) = ((l : Nat) : Int)) (hl2 : W + 1 ≤ l ∧ l ≤ 1000000)
    (kU : ∀ (d : Nat) (K2 : MS → Option (MS × β)), (∀ (D : Option (MS × Int32)) (w3 : MS), PP Q D (K w3 ()) → PP Q D (K2 w3)) → PP Q (q195 Sf N (qgo Sf N M1) (tld m 1 15 (m.2.2.2 (pq p 35) W)) p (I ((vk : Nat) : Int))) (bnd ((rc_M_error N d).2.1 (wa w 94 p ((B : Nat) : Int)) 15 (w.2.2.2 91 (46000 * p + W))) (fun u _ => K2 u))) : PP Q (q67 Sf N (qgo Sf N M1) m p (I ((vk : Nat) : Int))) (bnd (gg_M_choose N (rc_M_error N d) (M + 1) w 1) K) := by
  obtain ⟨ru, hpc, ⟨h153, h154, h156⟩, tr, nd, f, g, zr⟩ := tt
  obtain ⟨-, ⟨r5, r6⟩, -, ⟨r8, r9, r10⟩, r11, r12, r13⟩ := id ru
  rw [← hB] at h156
  have zc : a + 1 < 24000 ∧ A m 23 a = 37 := by
    cases g with
    | zero => exact zr.elim
    | succ g =>
      rcases zr with ⟨z0, ⟨-, ⟨q1, q2⟩ | ⟨q1, q2⟩ | ⟨q1, q2⟩ | ⟨q1, q2, -⟩⟩ | ⟨k0, ⟨z, -⟩, -⟩⟩
      · omega
      · exact ⟨z0, q2⟩
      · omega
      · omega
      · omega
  refine cho_n hpp r11 h156 h154 ?_
  cases d with
  | zero => exact pp_nr
  | succ d =>
  show PP Q _ (bnd (fm_M_nonePart N (rc_M_error N d) (wa w 94 p ((B : Nat) : Int))) (fun u8 r8 => bnd (gg_M_choose N (rc_M_error N (d + 1)) M u8 r8) K))
  have be : hm_Fr_below N m p 0 = some (m, m.2.2.2 (pq p 35) W) := by
    have := below_e (N := N) (x := 0) (k := 0) (W := W + 1) (l := l) pl.2.2.1.1 hl hl2.1 hl2.2 rfl (by omega)
    rw [show W + 1 - 1 - 0 = W by omega] at this
    exact this
  have el : q67 Sf N (qgo Sf N M1) m p (I ((vk : Nat) : Int)) = q195 Sf N (qgo Sf N M1) (tld m 1 15 (m.2.2.2 (pq p 35) W)) p (I ((vk : Nat) : Int)) := by
    rw [go_fl r5 r8 hvk hpc (by omega) zc.2 ⟨by omega, by omega⟩, flo37, I_F' hpc, show I ((a : Nat) : Int) + 1 = I ((a + 1 : Nat) : Int) from addN, Co_e (k := a + 1) rfl zc.1, bnd_so, be, bnd_so, show (1 : Int32) = I 1 from rfl, show (15 : Int32) = I 15 from rfl, tell_e, bnd_so, bnd_so, bnd_so]
    rfl
  rw [el]
  have y153 : F (wa w 94 p ((B : Nat) : Int)) 153 = 1 := h153
  unfold fm_M_nonePart fb_M_nonePart_0 fb_M_nonePart_122
  rw [I_F' y153, show decide (I 1 = 3) = false from rfl, br_fq, show decide (I 1 = 1) = true from rfl, br_tq, show (0 : Int32) = I ((0 : Nat) : Int) from rfl]
  refine rb_bnd (pk_mo (top_r (N := N) (k := 0) hpp r11 pl.2.2.1.2.1 hW (by omega)) (fun w2 r h => ?_))
  obtain ⟨rfl, rfl⟩ := h
  rw [show W + 1 - 1 - 0 = W by omega]
  refine r_bb ?_
  exact kU d (fun u => bnd (ck (isb (I ((0 : Nat) : Int))) (some (u, I ((0 : Nat) : Int)))) (fun u8 r8 => bnd (gg_M_choose N (rc_M_error N (d + 1)) M u8 r8) K)) (fun D w3 h => rb_ck (fun _ => cho_0 h))
end
end
section
set_option maxRecDepth 100000
section
variable {Sf : MS → Int32 → Prop} {N p U B W Wc Y a : Nat} {m w m2 : MS} {t x : Int64} {ow kd ow' kd' : Nat → Nat} {Fv Fv' : Int64 → Int64 → Prop} {P P' : Int64 → Prop} {how ar v : Int} {j : Nat} {nb : Nat → Nat} {Hs Os : Nat → List Nat} {y : Option (Nat × Nat × Nat)} {b : Int → Nat → Nat → Prop}
theorem PTQ_pair (pt : PTQ m p U ow kd Fv P B W Y) (cx : CTX Fv P m) (g : GT U ow kd P t) (h5 : U + 3 ≤ 500) (hv : 0 ≤ v ∧ v < 22) : PK (fun m2 r => ∃ ow2 kd2, PTQ m2 p (U + 3) ow2 kd2 Fv P B W Y ∧ GT (U + 3) ow2 kd2 P r) (hm_Pr_pair N m p (I v) t) := by
  obtain ⟨z, rfl⟩ : ∃ z : Nat, v = ((z : Nat) : Int) := ⟨v.toNat, by omega⟩
  refine pk_mo (pk_ok (pair_t (N := N) cx pt.1.1 (by omega) pt.1.2.2 g (a := z) (by omega))) (fun w r h => ?_)
  obtain ⟨fc, h4, -, ow2, kd2, k1, k2, k3⟩ := h
  exact ⟨ow2, kd2, PTQ_cells pt fc h4 h5 k1 k3, k2⟩
theorem CX_two (hq : p < 24) (h3 : F w 133 = ((p : Nat) : Int)) (hu : A w 89 p = ((U : Nat) : Int)) (xc : CX w p (hp w p) U ow' kd' Fv' P' W B Y) (g : GT U ow' kd' P' x) (pa : P' (mk 1 v)) (h5 : U + 3 ≤ 500) : PK (fun w2 r => ∃ ow2 kd2, CX w2 p (hp w2 p) (U + 3) ow2 kd2 Fv' P' W B Y ∧ GT (U + 3) ow2 kd2 P' r) (fm_M_two N w (I v) x) := by
  refine pk_mo (two_r (N := N) (v := v) (x := x) hq h3 hu h5) (fun w2 r h => ?_)
  obtain ⟨rfl, rfl⟩ := h
  obtain ⟨-, q2, q3, q4, q5, q6, q7, q8, q9, q10, q11⟩ := xc
  have cw : ∀ i, hp (wa (wj (wj (wj w 88 (500 * p + U) 2) 88 (500 * p + (U + 1)) (mk 1 v)) 88 (500 * p + (U + 2)) x) 89 p ((U + 3 : Nat) : Int)) p i = if i = U + 2 then x else if i = U + 1 then mk 1 v else if i = U then 2 else hp w p i := fun i => by
    show (wj (wj (wj w 88 (500 * p + U) 2) 88 (500 * p + (U + 1)) (mk 1 v)) 88 (500 * p + (U + 2)) x).2.2.2 88 (500 * p + i) = _
    rw [wj_row, wj_row, wj_row]
    by_cases c1 : i = U + 2
    · rw [if_pos c1, if_pos (by omega)]
    · rw [if_neg c1, if_neg (by omega)]
      by_cases c2 : i = U + 1
      · rw [if_pos c2, if_pos (by omega)]
      · rw [if_neg c2, if_neg (by omega)]
        by_cases c3 : i = U
        · rw [if_pos c3, if_pos (by omega)]
        · rw [if_neg c3, if_neg (by omega)]
          rfl
  have e5 : so (mk 5 ((U : Nat) : Int)) = 5 := so_mk (by omega) (by omega)
  have v5 : va (mk 5 ((U : Nat) : Int)) = ((U : Nat) : Int) := va_mk (by omega) (by omega)
  have n5 : vn (mk 5 ((U : Nat) : Int)) = U := by unfold vn; rw [v5]; omega
  have va2 : va (2 : Int64) = 2 := by decide
  have na : ¬ isH (mk 1 v) := nh_mk (by omega)
  generalize hw2 : wa (wj (wj (wj w 88 (500 * p + U) 2) 88 (500 * p + (U + 1)) (mk 1 v)) 88 (500 * p + (U + 2)) x) 89 p ((U + 3 : Nat) : Int) = w2 at cw ⊢
  have c0 : hp w2 p U = 2 := by rw [cw, if_neg (by omega), if_neg (by omega), if_pos rfl]
  have c1 : hp w2 p (U + 1) = mk 1 v := by rw [cw, if_neg (by omega), if_pos rfl]
  have c2 : hp w2 p (U + 2) = x := by rw [cw, if_pos rfl]
  have bb : blk (hp w2 p) (mk 5 ((U : Nat) : Int)) = 3 := by unfold blk; rw [e5, n5, c0]; simp; unfold vn; rw [va2]; decide
  have pp : prt (mk 5 ((U : Nat) : Int)) = 1 := by unfold prt; rw [e5]; rfl
  obtain ⟨ow2, kd2, r1, r2, r3, -⟩ := HP_new (h2 := hp w2 p) (m := 3) (x := mk 5 ((U : Nat) : Int)) q2 (fun i hi => by rw [cw, if_neg (by omega), if_neg (by omega), if_neg (by omega)]) (Or.inr (Or.inl e5)) (by omega) n5 bb (fun _ => by rw [c0]; exact HDC2) (fun e => by omega) (fun i h1 h2 => by
    rw [pp] at h1
    by_cases e : i = 1
    · rw [e, c1]; exact Or.inl ⟨na, pa⟩
    · have : i = 2 := by omega
      rw [this, c2]; exact g) (Or.inl ⟨e5, rfl, by rw [c1]; exact na⟩)
  have fr : FR [] [] [89] [88] w w2 := by rw [← hw2]; exact FR.wa (FR.wj (FR.wj (FR.wj FR.rf (by simp)) (by simp)) (by simp)) (by simp)
  refine ⟨ow2, kd2, ⟨rfl, r1, h5, q4, ⟨by rw [FR.A fr (by simp)]; exact q5.1, q5.2⟩, ⟨by rw [FR.A fr (by simp)]; exact q6.1, q6.2⟩, ⟨by rw [FR.A fr (by simp)]; exact q7.1, q7.2⟩, fun i hi => by rw [fr.2.2.2 91 (by simp)]; exact r3 _ (q8 i hi), fun i hi => by rw [fr.2.2.2 93 (by simp)]; exact r3 _ (q9 i hi), fun i hi => by rw [fr.2.2.2 107 (by simp)]; exact r3 _ (q10 i hi), fun e => by rw [fr.2.1 139 (by simp)]; exact r3 _ (q11 (by rw [← FR.F fr (by simp)]; exact e))⟩, r2⟩
theorem PTQ_drop (pt : PTQ m p U ow kd Fv P B Wc Y) (hW : W ≤ Wc) : PTQ (wi m (pq p 26) ((W : Nat) : Int)) p U ow kd Fv P B W Y := by
  have bb := PTQ_b pt
  obtain ⟨⟨q1, q2, q3⟩, ⟨q4, q5⟩, ⟨q6, q7⟩, ⟨q8, q9⟩, ⟨l1, e1, e2, e3⟩, ⟨l2, e4, e5, e6⟩, e7⟩ := pt
  exact ⟨⟨by rw [wi_ne (pq_inj (by omega))]; exact q1, q2, q3⟩, ⟨by rw [wi_ne (pq_inj (by omega))]; exact q4, q5⟩, ⟨wi_sm (by omega) (by omega), fun i hi => q7 i (by omega)⟩, ⟨by rw [wi_ne (pq_inj (by omega))]; exact q8, q9⟩, ⟨l1, by rw [wi_ne (pq_inj (by omega))]; exact e1, e2, e3⟩, ⟨l2, by rw [wi_ne (pq_inj (by omega))]; exact e4, by omega, e6⟩, e7⟩
theorem RUb_l10 (h : RUb m w p j nb Hs Os y) : RUb (wl m 1110 t) w p j nb Hs Os y := by
  obtain ⟨r1, ⟨r5, r6⟩, r7, ⟨r8, r9, r10⟩, r11, r12, r13⟩ := h
  refine ⟨FC_w r1 (fun k c => rfl) (fun k c => rfl) rfl (fun K c => rfl) (fun K r c1 c2 c3 c4 => rfl) (fun K c c1 c2 c3 => rfl) (fun _ _ => rfl) rfl, ⟨r5, r6⟩, ?_, ⟨r8, r9, r10⟩, r11, r12, r13⟩
  rcases r7 with ⟨c1, c2, c3⟩ | ⟨kd, k, sc, c1, fl, W0, O0, X, c2, ⟨c3, c4, c5, c6⟩, cw, c12, f2, g, c13⟩
  · exact Or.inl ⟨c1, c2, c3⟩
  · refine Or.inr ⟨kd, k, sc, c1, fl, W0, O0, X, c2, ⟨c3, c4, c5, c6⟩, cw, fun e3 => ?_, f2, g, c13⟩
    obtain ⟨d1, n2, d2⟩ := c12 e3
    exact ⟨⟨d1.1, by rw [wl_21 (fun c => pq_n (by omega) c.symm)]; exact d1.2⟩, n2, d2⟩
theorem GGm_l10 : GGm p m (wl m 1110 t) := ⟨fun d _ k hk => ⟨rfl, wl_21 (fun c => pq_n (by omega) c.symm), rfl, rfl⟩, ⟨rfl, rfl, rfl, rfl⟩, rfl, rfl, rfl, fun _ _ => rfl, fun k hk => rfl⟩
theorem raise_o (h12 : F m 1112 = 0) (hr : RG how) (ha : 0 ≤ ar ∧ ar < 22) : hm_Ma_raise N (tld m how ar t) p = bnd (hm_Fr_push N (trs m how ar t) p t) (fun u29 _ => bnd (hm_Ma_wrap N u29 p (u29.1 1111)) (fun u32 r32 => br (decide (r32 = 0)) (some (u32, ())) (bnd (hm_Fr_below N u32 p 0) (fun u34 r34 => lt (upL u34 1110 r34) (fun w36 => hb_Ma_raise_65 N () w36 p (I how)))))) := by
  unfold hm_Ma_raise hb_Ma_raise_0
  have e1 : F (trs m how ar t) 1112 = 0 := (congrArg Int32.toInt (trs_1 (by omega) (by omega))).trans h12
  have e2 : F (trs m how ar t) 1111 = ar := trs_11 ⟨by omega, by omega⟩
  rw [show upI (tld m how ar t) 1109 0 = trs m how ar t from rfl, lt_e, I_F' e1, show decide (I 0 = 0) = true from rfl, br_tq, I_F' e2, show (-1 : Int32) = I (-1) from rfl, decE (by omega) (by omega) (by omega) (by omega), decide_eq_false (by omega), br_fq, trs_10, I_F' (tld_9 hr)]
end
section
variable {Sf : MS → Int32 → Prop} {β : Type} {b : Int → Nat → Nat → Prop} {N p PR U B W Y j ee ee' d : Nat} {m w : MS} {t x : Int64} {nb : Nat → Nat} {Hs Os : Nat → List Nat} {Q : MS → Int32 → MS → β → Prop} {K2 : MS → Option (MS × β)} {ow kw ow' kd' : Nat → Nat} {Fv Fv' : Int64 → Int64 → Prop} {P P' : Int64 → Prop} {ar : Int} {v3 : Int32} {G : MS → Nat → Int32 → Option (MS × Int32)}
theorem errOf_pp (hpp : p < 24) (hpr : p < PR) (pl : PLs b p m w U B W Y) (ru : RUb m w p j nb Hs Os none) (bd : B ≤ 2500 ∧ W < 46000) (lb : LNB m p) (pt : PTQ m p U ow kw Fv P B W Y) (cx : CTX Fv P m) (xc : CX w p (hp w p) U ow' kd' Fv' P' W B Y) (pb : PB P' PR) (g : GT U ow kw P t) (g' : GT U ow' kd' P' x) (rt : RTb b t x) (ca : CTa m w p W) (har : 0 ≤ ar ∧ ar < 22) (hee : F m 955 = ((ee : Nat) : Int) ∧ ee < 24) (hee' : F w 150 = ((ee' : Nat) : Int) ∧ ee' < 4000) (hN : 2200000 ≤ N)
    (kk : ∀ b3 U3 W3 r k a0 nn m3 w3, PLs b3 p m3 w3 U3 (nb r + (Hs r).length + k) (W3 + 1) Y → RUs m3 w3 p r nb Hs (tkO Os r k) none a0 nn → GGm p m m3 → GGw p w w3 → (SCs p m w → SCs p m3 w3) → PP Q (q206 Sf N G m3 p v3) (K2 w3))
    (ke : ∀ m3 w3 wr t3 x3, GGm p m m3 → GGw p w w3 → (SCs p m w → SCs p m3 w3) → m3.1 (pq p 5) = w3.2.2.1 90 p → (wr = 0 ∨ wr = 1 ∨ wr = 2) → RQs Fv P Fv' P' PR (enS m3 p t3 p ee) (enR w3 p wr ((p : Nat) : Int) x3 ee') p wr p x3 → PP Q (q206 Sf N G (enS m3 p t3 p ee) p v3) (K2 (wi (enR w3 p wr ((p : Nat) : Int) x3 ee') 151 1))) : PP Q (q195 Sf N G (tld m 1 ar t) p v3) (bnd ((rc_M_error N d).2.1 w (I ar) x) (fun u _ => K2 u)) := by
  cases d with
  | zero => exact pp_nr
  | succ d =>
  show PP Q _ (bnd (fm_M_errorOf N (rc_M_error N d) w (I ar) x) (fun u _ => K2 u))
  obtain ⟨⟨fa, ct⟩, ⟨r5, r6⟩, r7, ⟨r8, r9, r10⟩, r11, r12, r13⟩ := id ru
  obtain ⟨h12, h152⟩ : F m 1112 = 0 ∧ F w 152 = 0 := by
    rcases r7 with ⟨_, c3, c4⟩ | ⟨_, _, _, c, _⟩
    · exact ⟨c3, c4⟩
    · cases c
  have hj : j < 60 := fa.1.2.2
  have sc' : SCs p m w → SCs p (trs m 1 ar t) w := fun s => SC_ow s (fun _ _ => trs_q) rfl (fun _ _ _ => rfl)
  unfold fm_M_errorOf fb_M_errorOf_0 fb_M_errorOf_66
  refine err195 (by omega) ?_
  rw [raise_o h12 ⟨by omega, by omega⟩ har, I_F' h152, show decide (I 0 = 0) = true from rfl, br_tq, I_F' r11, hand_e, bnd_so]
  refine l_bb (r_bb ?_)
  have pl0 := PLs_trs (how := 1) (ar := ar) (t := t) pl
  have pt0 := PTQ_trs (how := 1) (ar := ar) (t := t) pt
  have ru0 := RUb_trs (how := 1) (ar := ar) (t := t) ru
  obtain ⟨l, e45, lw, lm⟩ := pt0.2.2.2.2.2.1
  refine l_bnd (pk_mo (pk_andq (push_m (N := N) (t := t) pl0.2.2.1.1 e45 lw lm) (pk_ok (push_t (N := N) (t := t) pt0 (LNB_trs lb) (by omega) g))) (fun m3 _ h => ?_))
  obtain ⟨⟨h1, h2, h3⟩, -, p3, lb3, -⟩ := h
  have i3 : ∀ k, k < 2000 → m3.1 k = (trs m 1 ar t).1 k := fun k hk => h1.1 k (by simp; unfold pq; omega)
  have q3 : ∀ k, k ≠ 26 → k ≠ 45 → m3.1 (pq p k) = m.1 (pq p k) := fun k d3 d5 => by
    rw [h1.1 _ (by
      simp only [List.mem_cons, List.not_mem_nil, or_false]
      intro z
      rcases z with z | z
      · exact pq_inj d3 z
      · exact pq_inj d5 z)]
    exact trs_q
  have jn : ∀ k, k ≠ 35 → m3.2.2.2 (pq p k) = m.2.2.2 (pq p k) := fun k hk => h1.2.2.2 _ (by simp; exact pq_inj hk)
  have e11 : F m3 1111 = ar := (congrArg Int32.toInt (i3 1111 (by omega))).trans (trs_11 ⟨by omega, by omega⟩)
  have pl3 : PLs b p (wi m3 (pq p 26) ((W : Nat) : Int)) w U B W Y := by
    refine PLs_cg pl (fun k hk => ?_) (fun i _ => by show m3.2.2.2 (pq p 2) i = _; rw [jn 2 (by omega)]) (fun i _ => by show m3.2.2.2 (pq p 33) i = _; rw [jn 33 (by omega)]) (fun i hi => by show m3.2.2.2 (pq p 35) i = _; rw [h3 i (by omega), if_neg (by omega)]; rfl) (fun i _ => by show m3.2.2.2 (pq p 6) i = _; rw [jn 6 (by omega)]) (fun _ _ => rfl) (fun _ _ => rfl) (fun _ _ => rfl) (fun _ _ => rfl) (fun _ _ => rfl)
    by_cases d6 : k = 26
    · subst d6
      rw [I_F' pl.2.2.1.1]
      exact wi_s1
    · rw [wi_1 (pq_inj d6)]
      exact q3 k d6 (by simp at hk; omega)
  have rp := room_pe (N := N) (e := 1) (ee := ee) (x := x) p3 (CTX_fr cx ((i3 22 (by omega)).trans (trs_1 (by omega) (by omega))) (h1.2.2.1 3 (by simp))) xc pl3 (fun i c1 c2 => by
    have : i = W := by omega
    subst this
    rw [h3 i (Nat.le_refl _), if_pos rfl]
    exact rt) g' (by omega) (by omega) (by
    show (m3.1 (pq p 9)).toInt ≠ 3
    rw [q3 9 (by omega) (by omega)]
    have : (m.1 (pq p 9)).toInt = 0 := r5
    omega) ⟨by show (m3.1 955).toInt = _; rw [i3 955 (by omega), trs_1 (by omega) (by omega)]; exact hee.1, hee.2⟩ r11 hN
  rw [hand_e, bnd_so] at rp
  refine l_bb ?_
  unfold hm_Ma_wrap hb_Ma_wrap_0
  refine l_bb ?_
  have f3 : FGm p (trs m 1 ar t) m3 := FGm.push h1
  refine pp_bb (pp_mo rp (fun m4 r4 w4 r5' q9 => ?_))
  have wF : ∀ {z : MS}, XRr p (wl (wi w 140 ((p : Nat) : Int)) 139 x) z → F z 133 = ((p : Nat) : Int) := fun h => by rw [FR.F h.1 (by simp), F_wl, wi_ne (by omega)]; exact r11
  rcases q9 with ⟨rfl, rfl, a4, a5, b2, U2, pl4, hx4, rm4, ⟨ow2, kd2, pt4⟩, ow3, kd3, xc4⟩ | ⟨rfl, rfl, m5, a4, a5, rfl, h5⟩
  · rw [handN_e, bnd_so, show decide ((1 : Int32) = 0) = false from rfl, br_fq, br_fq]
    obtain ⟨l4, e1, e2, e3⟩ := pt4.2.2.2.2.2.1
    have be : hm_Fr_below N m4 p 0 = some (m4, m4.2.2.2 (pq p 35) W) := by
      have := below_e (N := N) (x := 0) (k := 0) (W := W + 1) (l := l4) pt4.2.2.1.1 e1 e2 e3 rfl (by omega)
      rw [show W + 1 - 1 - 0 = W by omega] at this
      exact this
    have w133 : F (wl (wi w4 140 (-1)) 139 (mk 6 0)) 133 = ((p : Nat) : Int) := by
      rw [F_wl, wi_ne (by omega)]
      exact wF a5
    have w140 : F w4 140 = ((p : Nat) : Int) := by
      rw [FR.F a5.1 (by simp), F_wl, wi_sm (by omega) (by omega)]
    have hU4 : F m4 (pq p 4) = ((U2 : Nat) : Int) := pt4.1.1
    have hu4 : A (wl (wi w4 140 (-1)) 139 (mk 6 0)) 89 p = ((U2 : Nat) : Int) := pl4.1.1.2.1
    rw [be, bnd_so]
    refine l_bb (r_bb ?_)
    have m11 : m3.1 1111 = I ar := I_F' e11
    rw [m11]
    have cx4 : CTX Fv P m4 := CTX_fr cx ((XRm_G a4 (by omega)).trans ((i3 22 (by omega)).trans (trs_1 (by omega) (by omega)))) ((a4.2.2.1 3 (by simp)).trans (h1.2.2.1 3 (by simp)))
    have pp1 := pair_pp (N := N) (b := b2) (t := m4.2.2.2 (pq p 35) W) (x := w4.2.1 139) (v := ar) hpp w133 hU4 hu4 rm4 pl4.1.2.1 (hx4 W (Nat.le_refl _) (by omega)) ⟨by omega, by omega⟩
    have pp2 := PTQ_pair (N := N) (v := ar) pt4 cx4 (pt4.2.2.1.2 W (by omega)) rm4 har
    have pp3 := CX_two (N := N) (v := ar) hpp w133 hu4 (CX_hand (z := -1) (x := mk 6 0) xc4 (Or.inl ⟨nh_mk (by omega), pb.2.2.2.2⟩)) (xc4.2.2.2.2.2.2.2.2.2.2 w140) (pb.1 ar har.1 har.2) rm4
    refine pp_bb (fun m6 t6 w6 x6 ee1 ee2 => ?_)
    obtain ⟨b3, is6, rt6, mo, ⟨u6, v6⟩, fm6, fw6, l6, l6'⟩ := pp1 m6 t6 w6 x6 ee1 ee2
    obtain ⟨ow5, kd5, pt6, gt6⟩ := pp2 m6 t6 ee1
    obtain ⟨ow6, kd6, xc6, gx6⟩ := pp3 w6 x6 ee2
    have i6 : ∀ k, k ≠ 4 → m6.1 (pq p k) = m4.1 (pq p k) := fun k hk => fm6.1 _ (by simp; exact pq_inj hk)
    have e26 : F m6 (pq p 26) = ((W + 1 : Nat) : Int) := pt6.2.2.1.1
    unfold hm_Ma_answer hb_Ma_answer_0
    rw [show (1 : Int32) = I 1 from rfl, drop_e (W := W + 1) (k := 1) (x := 1) e26 rfl (by omega), bnd_so, Nat.add_sub_cancel]
    refine l_bb (l_bb ?_)
    have pl6 : PLs b3 p (wi m6 (pq p 26) ((W : Nat) : Int)) w6 (U2 + 3) B W Y := by
      refine PLs_new (PLs_h (o := -1) (t := mk 6 0) pl4) mo (fun k hk => ?_) (fun k hk => ?_) (fun K hK => by rw [fw6.2.2.1 K (by simp at hK ⊢; omega)]) (fun K hK => fw6.2.2.2 K (by simp at hK ⊢; omega)) ?_ v6 (by omega) is6
      · by_cases d6 : k = 26
        · subst d6
          rw [wi_s1, wi_s1]
        · rw [wi_1 (pq_inj d6), wi_1 (pq_inj d6), i6 k (by simp at hk; omega)]
      · show m6.2.2.2 (pq p k) = m4.2.2.2 (pq p k)
        exact fm6.2.2.2 _ (by simp; exact pq_inj (by simp at hk; omega))
      · rw [wi_ne (pq_inj (by omega))]; exact u6
    have pt6' := PTQ_drop (W := W) pt6 (by omega)
    have lb6 : LNB (wi m6 (pq p 26) ((W : Nat) : Int)) p := LNB_fc lb3 (fun k hk => by
      rw [wi_1 (pq_inj (by simp at hk; omega)), i6 k (by simp at hk; omega)]
      exact XRm_F a4 (by simp at hk; omega) (by simp at hk; omega))
    obtain ⟨l6a, e61, e62, e63⟩ := pt6'.2.2.2.2.2.1
    refine l_bnd (pk_mo (pk_andq (push_m (N := N) (t := t6) pl6.2.2.1.1 e61 e62 e63) (pk_ok (push_t (N := N) (t := t6) pt6' lb6 (by omega) gt6))) (fun m8 _ h => ?_))
    obtain ⟨⟨z1, z2, z3⟩, -, p8, lb8, -⟩ := h
    obtain ⟨l8, e81, e82, e83⟩ := p8.2.2.2.2.2.1
    have be8 : hm_Fr_below N m8 p 0 = some (m8, t6) := by
      have := below_e (N := N) (x := 0) (k := 0) (W := W + 1) (l := l8) p8.2.2.1.1 e81 e82 e83 rfl (by omega)
      rw [show W + 1 - 1 - 0 = W by omega, z3 W (Nat.le_refl _), if_pos rfl] at this
      exact this
    show PP Q (bnd (br (decide (I 1 = 0)) (some (m8, ())) (bnd (hm_Fr_below N m8 p 0) (fun u34 r34 => lt (upL u34 1110 r34) (fun w36 => hb_Ma_raise_65 N () w36 p (I 1))))) (fun u _ => q206 Sf N G u p v3)) _
    rw [show decide (I 1 = 0) = false from rfl, br_fq, be8, bnd_so, wl_e, lt_e]
    refine r_bb ?_
    cases d with
    | zero => exact pp_nr
    | succ d =>
    show PP Q _ (bnd (fm_M_goesUp N (rc_M_error N d) w6 (I 0) x6) (fun u _ => K2 u))
    have f8 : FGm p (trs m 1 ar t) m8 := FGm.tr (FGm.tr (FGm.tr (FGm.tr f3 (FGm_xr a4)) (FGm_pa fm6)) FGm.drop) (FGm.push z1)
    have g8 : FGw p j w w6 := FGw.tr (FGw.tr (FGw.tr FGw_hand (FGw_xr a5)) FGw_hand) (FGw_two fw6 l6 l6')
    have i8 : ∀ k, k < 2000 → k ≠ 1105 → m8.1 k = (trs m 1 ar t).1 k := fun k hk h5 => f8.1 k (by simp; unfold pq; omega)
    have q8 : ∀ k, k ≠ 4 → k ≠ 5 → k ≠ 26 → k ≠ 45 → m8.1 (pq p k) = m.1 (pq p k) := fun k d4 d5 d6 d7 => by
      rw [f8.1 _ (by
        simp only [List.mem_cons, List.not_mem_nil, or_false]
        intro z
        rcases z with z | z | z | z | z
        · exact pq_inj d4 z
        · exact pq_inj d5 z
        · exact pq_inj d6 z
        · exact pq_inj d7 z
        · exact pq_n (by omega) z.symm)]
      exact trs_q
    have gg8 : GGm p m (wl m8 1110 t6) := GGm.tr GGm_trs (GGm.tr (GGm_fg f8) GGm_l10)
    have gw8 : GGw p w w6 := GGw_fg g8 hj
    have sc8 : SCs p m w → SCs p (wl m8 1110 t6) w6 := fun s => SC_ow (SC_fg (sc' s) f8 g8) (fun _ _ => rfl) rfl (fun _ _ _ => rfl)
    have pl8 : PLs b3 p (wi (wl m8 1110 t6) (pq p 26) ((W : Nat) : Int)) w6 (U2 + 3) B W Y := by
      have jn8 : ∀ k, k ≠ 35 → m8.2.2.2 (pq p k) = m6.2.2.2 (pq p k) := fun k hk => z1.2.2.2 _ (by simp; exact pq_inj hk)
      refine PLs_cg pl6 (fun k hk => ?_) (fun i _ => by show m8.2.2.2 (pq p 2) i = _; rw [jn8 2 (by omega)]; rfl) (fun i _ => by show m8.2.2.2 (pq p 33) i = _; rw [jn8 33 (by omega)]; rfl) (fun i hi => by show m8.2.2.2 (pq p 35) i = _; rw [z3 i (by omega), if_neg (by omega)]) (fun i _ => by show m8.2.2.2 (pq p 6) i = _; rw [jn8 6 (by omega)]; rfl) (fun _ _ => rfl) (fun _ _ => rfl) (fun _ _ => rfl) (fun _ _ => rfl) (fun _ _ => rfl)
      by_cases d6 : k = 26
      · subst d6
        rw [wi_s1, wi_s1]
      · rw [wi_1 (pq_inj d6)]
        show m8.1 (pq p k) = _
        exact z1.1 _ (by
          simp only [List.mem_cons, List.not_mem_nil, or_false] at hk ⊢
          intro z
          rcases z with z | z
          · exact pq_inj d6 z
          · exact pq_inj (by omega) z)
    have aw : ∀ K i, K = 104 ∨ K = 103 → A w6 K i = A w K i := fun K i hK => FR.A g8.1 (by simp; omega)
    have ca8 : CTa (wl m8 1110 t6) w6 p W := fun c hc => by
      obtain ⟨c1, ⟨W0, c2, c3⟩, c4⟩ := ca c ((congrArg Int32.toInt (q8 28 (by omega) (by omega) (by omega) (by omega))).symm.trans hc)
      exact ⟨c1, ⟨W0, by rw [aw 104 _ (by omega)]; exact c2, c3⟩, fun nd h => c4 nd (by rw [← aw 103 _ (by omega)]; exact h)⟩
    refine up_pp (K1 := fun u => q206 Sf N G u p v3) (Or.inl ⟨rfl, rfl⟩) hpp hpr pl8 (RUb_l10 (RUb_fg ru0 f8 g8)) (Wc := W + 1) (by omega) bd (LNB_fc lb8 (fun _ _ => rfl)) (PTQ_same p8 (fun _ _ => rfl) (fun _ _ => rfl)) (CTX_fr cx ((i8 22 (by omega) (by omega)).trans (trs_1 (by omega) (by omega))) (f8.2.2.1 3 (by simp))) xc6 pb (by rw [show (wl m8 1110 t6).2.1 1110 = t6 from wl_s1]; exact gt6) gx6 (by rw [show (wl m8 1110 t6).2.1 1110 = t6 from wl_s1]; exact rt6) ca8 ⟨by show (m8.1 955).toInt = _; rw [i8 955 (by omega) (by omega), trs_1 (by omega) (by omega)]; exact hee.1, hee.2⟩ ⟨by rw [FR.F g8.1 (by simp)]; exact hee'.1, hee'.2⟩ hN (fun b4 U4 W4 r k a0 nn m9 w9 c1 c2 c3 c4 c5 => kk b4 U4 W4 r k a0 nn m9 w9 c1 c2 (GGm.tr gg8 c3) (GGw.tr gw8 c4) (fun s => c5 (sc8 s))) (fun m9 w9 wr t9 x9 c1 c2 c3 c4 c5 c6 => ke m9 w9 wr t9 x9 (GGm.tr gg8 c1) (GGw.tr gw8 c2) (fun s => c3 (sc8 s)) c4 c5 c6)
  · rw [handN_e, bnd_so, show decide ((0 : Int32) = 0) = true from rfl, br_tq, br_tq]
    have w133 : F (wl (wi w4 140 (-1)) 139 (mk 6 0)) 133 = ((p : Nat) : Int) := by
      rw [F_wl, wi_ne (by omega)]
      exact wF a5
    have g4 : FGw p j w (wl (wi w4 140 (-1)) 139 (mk 6 0)) := FGw.tr (FGw.tr FGw_hand (FGw_xr a5)) FGw_hand
    have e109 : A (wl (wi w4 140 (-1)) 139 (mk 6 0)) 109 p ≠ 3 := by
      rw [FR.A g4.1 (by simp), r6]
      omega
    have e150 : F (wl (wi w4 140 (-1)) 139 (mk 6 0)) 150 = ((ee' : Nat) : Int) := by
      rw [FR.F g4.1 (by simp)]
      exact hee'.1
    rw [noR_e hpp w133 e109 e150 hee'.2]
    show PP Q (q206 Sf N G (enS m5 p (mk 1 20) p ee) p v3) _
    have f5 : FGm p (trs m 1 ar t) m5 := FGm.tr f3 (FGm_xr a4)
    have p20 : P (mk 1 20) := cx.2.2.2.2.2.1 20 (by omega) (by have := cx.2.2.2.1; omega)
    exact ke _ _ 0 _ _ (GGm.tr GGm_trs (GGm_fg f5)) (GGw_fg g4 hj) (fun s => SC_fg (sc' s) f5 g4) h5 (by omega) (RQ_lit hpr hpp (nh_mk (by omega)) (fun c => by rw [so_mk (by omega) (by omega)] at c; omega) p20 (pb.1 20 (by omega) (by omega)))
end
end
section
set_option maxRecDepth 100000
def NKs (H O : List Nat) (v i : Int) (k0 : Nat) : Prop := k0 < (H ++ O).length ∧ (∃ s : Nat, v = ((s : Nat) : Int) ∧ (H ++ O)[k0]? = some s ∧ ∀ k e : Nat, k0 < k → (H ++ O)[k]? = some e → e ≠ s) ∧ ((0 ≤ i ∧ ((k0 : Nat) : Int) = ((H.length : Nat) : Int) + i) ∨ (i < 0 ∧ ((k0 : Nat) : Int) = -2 - i))
def NMx (m : MS) (p nbj : Nat) (H O : List Nat) : Prop := F m (pq p 24) = ((nbj + (H ++ O).length : Nat) : Int) ∧ nbj + (H ++ O).length ≤ 2500 ∧ NMs m p nbj (H ++ O)
def NWx (w : MS) (p jf nbj : Nat) (H : List Nat) : Prop := p < 24 ∧ F w 133 = ((p : Nat) : Int) ∧ A w 95 p = ((jf + 1 : Nat) : Int) ∧ jf < 60 ∧ A w 99 (60 * p + jf) = ((nbj : Nat) : Int) ∧ A w 101 (60 * p + jf) = ((H.length : Nat) : Int)
section
variable {N p nbj jf k0 : Nat} {m w m2 w2 : MS} {H O : List Nat} {v i : Int}
theorem nk_of (nd : O.Nodup ∧ H.Nodup) (lk : LKP H O v i) : ∃ k0, NKs H O v i k0 := by
  obtain ⟨s, k0, e1, e2, e3, e4⟩ := LKP_g nd lk
  exact ⟨k0, (List.getElem?_eq_some_iff.mp e2).1, ⟨s, e1, e2, e3⟩, e4⟩
theorem NMx_fr {is js : List Nat} (h : NMx m p nbj H O) (f : FR is [] [] js m m2) (hi : pq p 24 ∉ is) : NMx m2 p nbj H O := ⟨by rw [FR.F f hi]; exact h.1, h.2.1, fun i x hx => by rw [FR.A f (by simp)]; exact h.2.2 i x hx⟩
theorem NWx_fr {is ls as js : List Nat} (h : NWx w p jf nbj H) (f : FR is ls as js w w2) (h1 : 133 ∉ is) (h2 : 95 ∉ as) (h3 : 99 ∉ as) (h4 : 101 ∉ as) : NWx w2 p jf nbj H := ⟨h.1, by rw [FR.F f h1]; exact h.2.1, by rw [FR.A f h2]; exact h.2.2.1, h.2.2.2.1, by rw [FR.A f h3]; exact h.2.2.2.2.1, by rw [FR.A f h4]; exact h.2.2.2.2.2⟩
theorem nk_m (h : NMx m p nbj H O) (nk : NKs H O v i k0) (rv : RG v) : PK (fun m2 r => m2 = m ∧ r = m.2.2.2 (pq p 33) (nbj + k0)) (hm_Fr_termOf N m p (I v)) := by
  obtain ⟨h24, hB, nms⟩ := h
  obtain ⟨k0l, ⟨s, e1, e2, e3⟩, -⟩ := nk
  unfold hm_Fr_termOf hb_Fr_termOf_0
  rw [I_F' h24, e1, show I ((nbj + (H ++ O).length : Nat) : Int) - 1 = I ((nbj + (H ++ O).length - 1 : Nat) : Int) by rw [lit1q, I_sub]; congr 1; omega]
  refine termOf_s (N := N) (m := m) (p := p) (k := nbj + k0) (l := s) (B := nbj + (H ++ O).length) (fun k h1 h2 => ?_) (nms k0 s e2) (by have := rv.2; omega) (by omega) (by omega) N (nbj + (H ++ O).length - 1) (by omega) (by omega)
  have il : k - nbj < (H ++ O).length := by omega
  have ge : (H ++ O)[k - nbj]? = some (H ++ O)[k - nbj] := List.getElem?_eq_getElem il
  have e5 := nms (k - nbj) _ ge
  rw [show nbj + (k - nbj) = k by omega] at e5
  rw [e5]
  have := e3 (k - nbj) _ (by omega) ge
  omega
theorem nk_r (h : NWx w p jf nbj H) (hB : nbj + (H ++ O).length ≤ 2500) (nk : NKs H O v i k0) (ri : RG i) : PK (fun w2 r => w2 = w ∧ r = w.2.2.2 93 (2500 * p + (nbj + k0))) (fm_M_nameAt N w (I i)) := by
  obtain ⟨hpp, h3, h95, hj, h99, h101⟩ := h
  obtain ⟨k0l, -, e4⟩ := nk
  unfold fm_M_nameAt fb_M_nameAt_0 fb_M_nameAt_43 fm_M_frame0 fb_M_frame0_0
  have ix : (I ((p : Nat) : Int) * 60 + I ((jf + 1 : Nat) : Int) - 1).toNatClampNeg = 60 * p + jf := by
    rw [show (60 : Int32) = I 60 from rfl, lit1q, I_mul, I_add, I_sub]
    exact tnI (n := 60 * p + jf) (by omega) (by omega)
  rw [I_F' h3, tnI (n := p) rfl (by omega), I_A' h95]
  refine pk_bnd (pk_ck (fun _ => pk_some ?_))
  refine pk_ck (fun _ => ?_)
  rw [ix, I_A' h99, I_A' h101, I_F' h3, lit0q]
  refine p_le ⟨by decide, by decide⟩ ri (fun z => ?_) (fun z => ?_)
  · refine pk_ck (fun _ => pk_ck (fun _ => pk_ck (fun _ => pk_some ⟨rfl, ?_⟩)))
    have : (I ((p : Nat) : Int) * 2500 + I ((nbj : Nat) : Int) + (I ((H.length : Nat) : Int) + I i)).toNatClampNeg = 2500 * p + (nbj + k0) := by
      rw [show (2500 : Int32) = I 2500 from rfl, I_mul, I_add, I_add, I_add]
      exact tnI (n := 2500 * p + (nbj + k0)) (by omega) (by omega)
    rw [this]
  · refine pk_ck (fun _ => pk_ck (fun _ => pk_some ⟨rfl, ?_⟩))
    have : (I ((p : Nat) : Int) * 2500 + I ((nbj : Nat) : Int) + (-2 - I i)).toNatClampNeg = 2500 * p + (nbj + k0) := by
      rw [show (2500 : Int32) = I 2500 from rfl, show (-2 : Int32) = I (-2) from rfl, I_mul, I_add, I_sub, I_add]
      exact tnI (n := 2500 * p + (nbj + k0)) (by omega) (by omega)
    rw [this]
end
def funA (N M : Nat) (u : MS) (p : Nat) (v1 v2 : Int32) : Option (MS × Unit) := bnd (hm_Ma_room N u p (v2 + 2)) (fun u23 r23 => br (decide (r23 = 0)) (some (u23, ())) (bnd (hm_Te_make N u23 8 v1) (fun u30 r30 => ck (inb (u23.1 (pq p 4)) 512) (lt (upJ u30 (pq p 2) (vp_updL (u30.2.2.2 (pq p 2)) (u23.1 (pq p 4)).toNatClampNeg r30)) (fun w32 => bnd (hm_Te_make N w32 8 v2) (fun u36 r36 => ck (inb ((u23.1 (pq p 4)) + 1) 512) (lt (upJ u36 (pq p 2) (vp_updL (u36.2.2.2 (pq p 2)) ((u23.1 (pq p 4)) + 1).toNatClampNeg r36)) (fun w38 => (hg_Ma_fun N M).2 w38 p (v2) ((u23.1 (pq p 4))) (0)))))))))
def funB (N M : Nat) (u : MS) (v1 v2 v3 v4 : Int32) : Option (MS × Unit) := bnd (fm_M_wants N u (u.1 133) (2 + v4)) (fun u7 r7 => br (decide (r7 = 0)) (bnd (fm_M_noRoom N u7) (fun u10 _ => some (u10, ()))) (ck (inb (u7.1 133) (ln 89)) (lt (u7.2.2.1 89 (u7.1 133).toNatClampNeg) (fun y8 => ck (inb (u7.1 133) (ln 89)) (ck (inb (u7.1 133) (ln 89)) (lt (upA u7 89 (upd (u7.2.2.1 89) (u7.1 133).toNatClampNeg ((u7.2.2.1 89 (u7.1 133).toNatClampNeg) + (2 + v4)))) (fun w9 => br (decide (v2 = 15)) (ck (inb v1 (ln 27)) (fb_M_funRun_177 N (gg_M_funRun N M) w9 (v3) (v4) (y8) (88) ((((w9.1 133) * 500) + y8)) (((-1) - (w9.2.2.1 27 v1.toNatClampNeg).toInt64)))) (fb_M_funRun_177 N (gg_M_funRun N M) w9 (v3) (v4) (y8) (88) ((((w9.1 133) * 500) + y8)) (v3.toInt64)))))))))
section
variable {α β : Type} {b : Int → Nat → Nat → Prop} {Fv Fv' : Int64 → Int64 → Prop} {P P' : Int64 → Prop} {ow kd ow' kd' kn : Nat → Nat} {N p U W l nbj jf a bb uu : Nat} {m0 w0 : MS} {h h' : Nat → Int64} {H O : List Nat} {v1 vn2 : Int32} {Q : MS → α → MS → β → Prop} {K1 : MS → Unit → Option (MS × α)} {K2 : MS → Unit → Option (MS × β)}
theorem fsz_lp (hpp : p < 24) (hh : m0.2.2.2 (pq p 2) = h) (hh' : hp w0 p = h') (g : HPc h U ow kd Fv P) (hU : U ≤ 500) (hF : FVc Fv) (g' : HP h' U ow' kd' Fv' P') (s : ISb b h U h' U) (tp : ∀ i, i < nbj + (H ++ O).length → TPb b U ow kd P U ow' kd' P' (m0.2.2.2 (pq p 33) i) (w0.2.2.2 93 (2500 * p + i))) (nm : NMx m0 p nbj H O) (nw : NWx w0 p jf nbj H) (h5 : F m0 1105 = ((a : Nat) : Int)) (ha : a + 3 + l < 24000) (h55 : A w0 55 uu = ((bb : Nat) : Int)) (hu : uu < 2147483648) (hbb : bb < 1000000) (hl : l ≤ 100) (nk : ∀ k, k < l → NKs H O (A m0 23 (a + 3 + k)) (A w0 57 (bb + k)) (kn k)) (hN : 6000 ≤ N)
    (kk : ∀ m2 w2 M M2 Z Z', FR [] [] [] [45] m0 m2 → FR [] [] [] [141] w0 w2 → ((Z ≤ 500 ∧ Z' = Z) ∨ (500 < Z ∧ 500 < Z')) → Z ≤ 200 + 1000 * l → Z' ≤ 200 + 1000 * l → PP Q (bnd (br (decide (I ((Z : Nat) : Int) ≤ 500)) (funA N M m2 p v1 (I ((l : Nat) : Int))) (bnd (hm_Ma_wrong N m2 p 11) (fun u39 _ => some (u39, ())))) K1) (bnd (br (decide (I ((Z' : Nat) : Int) ≤ 500)) (funB N M2 w2 vn2 (I 14) (I ((uu : Nat) : Int)) (I ((l : Nat) : Int))) (bnd (fr_M_error N w2 11) (fun u11 _ => some (u11, ())))) K2)) : ∀ (d M M2 : Nat) (m w : MS) (i z z' : Nat), i + d = l → FR [] [] [] [45] m0 m → FR [] [] [] [141] w0 w → ((z ≤ 500 ∧ z' = z) ∨ (500 < z ∧ 500 < z')) → z ≤ 200 + 1000 * i → z' ≤ 200 + 1000 * i → PP Q (bnd ((hg_Ma_fun N M).1 m p v1 (I ((l : Nat) : Int)) (I ((z : Nat) : Int)) (I ((i : Nat) : Int))) K1) (bnd ((gg_M_funRun N M2).1 w vn2 (I 14) (I ((uu : Nat) : Int)) (I ((l : Nat) : Int)) (I ((z' : Nat) : Int)) (I ((i : Nat) : Int))) K2) := by
  intro d
  induction d with
  | zero =>
    intro M M2 m w i z z' hi fm fw hz b1 b2
    have : i = l := by omega
    subst this
    cases M with
    | zero => exact pp_nl
    | succ M =>
    cases M2 with
    | zero => exact pp_nr
    | succ M2 =>
    show PP Q (bnd (hb_Ma_fun_21 N (hg_Ma_fun N M) m p v1 (I ((i : Nat) : Int)) (I ((z : Nat) : Int)) (I ((i : Nat) : Int))) K1) (bnd (fb_M_funRun_34 N (gg_M_funRun N M2) w vn2 (I 14) (I ((uu : Nat) : Int)) (I ((i : Nat) : Int)) (I ((z' : Nat) : Int)) (I ((i : Nat) : Int))) K2)
    unfold hb_Ma_fun_21 fb_M_funRun_34
    rw [show decide (I ((i : Nat) : Int) ≤ I ((i : Nat) : Int)) = true from decide_eq_true (Int32.le_refl _), br_tq, br_tq]
    exact kk m w M M2 z z' fm fw hz b1 b2
  | succ d ih =>
    intro M M2 m w i z z' hi fm fw hz b1 b2
    cases M with
    | zero => exact pp_nl
    | succ M =>
    cases M2 with
    | zero => exact pp_nr
    | succ M2 =>
    show PP Q (bnd (hb_Ma_fun_21 N (hg_Ma_fun N M) m p v1 (I ((l : Nat) : Int)) (I ((z : Nat) : Int)) (I ((i : Nat) : Int))) K1) (bnd (fb_M_funRun_34 N (gg_M_funRun N M2) w vn2 (I 14) (I ((uu : Nat) : Int)) (I ((l : Nat) : Int)) (I ((z' : Nat) : Int)) (I ((i : Nat) : Int))) K2)
    unfold hb_Ma_fun_21 fb_M_funRun_34
    have e5 : F m 1105 = ((a : Nat) : Int) := by rw [FR.F fm (by simp)]; exact h5
    have x33 : F w 133 = ((p : Nat) : Int) := by rw [FR.F fw (by simp)]; exact nw.2.1
    have x55 : A w 55 uu = ((bb : Nat) : Int) := by rw [FR.A fw (by simp)]; exact h55
    have x57 : A w 57 (bb + i) = A w0 57 (bb + i) := FR.A fw (by simp)
    have c23 : A m 23 (a + 3 + i) = A m0 23 (a + 3 + i) := FR.A fm (by simp)
    have il : i < l := by omega
    rw [decI (by omega) (by omega) (by omega) (by omega), show decide (((l : Nat) : Int) ≤ ((i : Nat) : Int)) = false from decide_eq_false (by omega), br_fq, br_fq, I_F' e5, show I ((a : Nat) : Int) + 3 = I ((a + 3 : Nat) : Int) from addN, addN, Co_e (k := a + 3 + i) rfl (by omega), bnd_so, c23]
    refine rb_ck (fun _ => ?_)
    rw [tnI (n := uu) rfl (by omega), I_A' x55, addN]
    refine rb_ck (fun _ => ?_)
    rw [tnI (n := bb + i) rfl (by omega), I_A (k := 57), x57]
    refine lb_bnd (pk_mo (nk_m (N := N) (NMx_fr nm fm (by simp)) (nk i il) (A_r _ _ _)) (fun m2 r e => ?_))
    obtain ⟨rfl, rfl⟩ := e
    refine rb_bnd (pk_mo (nk_r (N := N) (NWx_fr nw fw (by simp) (by simp) (by simp) (by simp)) nm.2.1 (nk i il) (A_r _ _ _)) (fun w2 r e => ?_))
    obtain ⟨rfl, rfl⟩ := e
    rw [I_F' x33]
    have j2 : m2.2.2.2 (pq p 2) = h := by rw [fm.2.2.2 _ (by simp; exact fun c => pq_n (by omega) c.symm)]; exact hh
    have j33 : m2.2.2.2 (pq p 33) = m0.2.2.2 (pq p 33) := fm.2.2.2 _ (by simp; exact fun c => pq_n (by omega) c.symm)
    have hp2 : hp w2 p = h' := by
      rw [← hh']
      funext q
      show w2.2.2.2 88 _ = _
      rw [fw.2.2.2 88 (by simp)]
      rfl
    have t2 := tp (nbj + kn i) (by have := (nk i il).1; omega)
    rw [← j33, ← fw.2.2.2 93 (by simp)] at t2
    refine l_bb (r_bb ?_)
    refine pp_bb (pp_mo (size_pp (N := N) (v := pq p 2) (fun c => pq_n (by omega) c.symm) j2 hp2 g hU hF g' hU (by omega) s t2 hN) (fun m3 r3 w3 r4 q => ?_))
    obtain ⟨⟨f3, f4⟩, z1, hz1, -, -, rfl, rfl⟩ := q
    rw [addN, addN, show I ((i : Nat) : Int) + 1 = I ((i + 1 : Nat) : Int) from addN]
    refine ih M M2 m3 w3 (i + 1) _ _ (by omega) (FR.tr fm f3) (FR.tr fw f4) ?_ (by omega) ?_
    · by_cases c : z1 ≤ 500
      · rw [if_pos c]
        omega
      · rw [if_neg c]
        omega
    · by_cases c : z1 ≤ 500
      · rw [if_pos c]
        omega
      · rw [if_neg c]
        omega
theorem fcl_m {lc : Nat} (h26 : F m0 (pq p 26) = ((W : Nat) : Int)) (hlc : F m0 (pq p 45) = ((lc : Nat) : Int)) (hl2 : W ≤ lc ∧ lc ≤ 1000000) (h4 : F m0 (pq p 4) = ((U : Nat) : Int)) (h5 : F m0 1105 = ((a : Nat) : Int)) (ha : a + 3 + l < 24000) (hU : U + (l + 2) ≤ 500) (nm : NMx m0 p nbj H O) (nk : ∀ k, k < l → NKs H O (A m0 23 (a + 3 + k)) (A w0 57 (bb + k)) (kn k)) : ∀ (d M : Nat) (m : MS) (i : Nat), i + d = l → FR [] [] [] [pq p 2] m0 m → (∀ q, q < U + 2 → m.2.2.2 (pq p 2) q = m0.2.2.2 (pq p 2) q) → (∀ q, q < i → m.2.2.2 (pq p 2) (U + 2 + q) = m0.2.2.2 (pq p 33) (nbj + kn q)) → PK (fun m2 (_ : Unit) => FR [pq p 4, pq p 26, pq p 45, 1105] [] [] [pq p 2, pq p 35] m0 m2 ∧ F m2 (pq p 4) = ((U + (l + 2) : Nat) : Int) ∧ F m2 (pq p 26) = ((W + 1 : Nat) : Int) ∧ F m2 1105 = ((a + 3 + l : Nat) : Int) ∧ (∀ q, q < U + 2 → m2.2.2.2 (pq p 2) q = m0.2.2.2 (pq p 2) q) ∧ (∀ q, q < l → m2.2.2.2 (pq p 2) (U + 2 + q) = m0.2.2.2 (pq p 33) (nbj + kn q)) ∧ ∀ i, i ≤ W → m2.2.2.2 (pq p 35) i = if i = W then mk 3 ((U : Nat) : Int) else m0.2.2.2 (pq p 35) i) ((hg_Ma_fun N M).2 m p (I ((l : Nat) : Int)) (I ((U : Nat) : Int)) (I ((i : Nat) : Int))) := by
  intro d
  induction d with
  | zero =>
    intro M m i hi fr c1 c2
    have : i = l := by omega
    subst this
    cases M with
    | zero => exact pk_none
    | succ M =>
    show PK _ (hb_Ma_fun_144 N (hg_Ma_fun N M) m p (I ((i : Nat) : Int)) (I ((U : Nat) : Int)) (I ((i : Nat) : Int)))
    unfold hb_Ma_fun_144
    have e4 : F m (pq p 4) = ((U : Nat) : Int) := by rw [FR.F fr (by simp)]; exact h4
    rw [show decide (I ((i : Nat) : Int) ≤ I ((i : Nat) : Int)) = true from decide_eq_true (Int32.le_refl _), br_tq, I_F' e4, show I ((i : Nat) : Int) + 2 = I ((i + 2 : Nat) : Int) from addN, addN, wi_e, lt_e, show (3 : Int32) = I 3 from rfl, e_make, bnd_so]
    have e26 : F (wi m (pq p 4) ((U + (i + 2) : Nat) : Int)) (pq p 26) = ((W : Nat) : Int) := by rw [wi_ne (pq_inj (by omega)), FR.F fr (by simp)]; exact h26
    have e45 : F (wi m (pq p 4) ((U + (i + 2) : Nat) : Int)) (pq p 45) = ((lc : Nat) : Int) := by rw [wi_ne (pq_inj (by omega)), FR.F fr (by simp)]; exact hlc
    refine pk_bnd (pk_mo (push_m (N := N) (t := mk 3 ((U : Nat) : Int)) e26 e45 hl2.1 hl2.2) (fun m2 _ hh => ?_))
    obtain ⟨z1, z2, z3⟩ := hh
    have e5 : F m2 1105 = ((a : Nat) : Int) := by
      rw [FR.F z1 (by simp [pq_n]), wi_ne (pq_n (by omega)), FR.F fr (by simp)]
      exact h5
    rw [I_F' e5, show I 3 + I ((i : Nat) : Int) = I ((3 + i : Nat) : Int) from addN, addN, show a + (3 + i) = a + 3 + i by omega, wi_e, lt_e]
    have j2 : m2.2.2.2 (pq p 2) = m.2.2.2 (pq p 2) := z1.2.2.2 _ (by simp; exact pq_inj (by omega))
    refine pk_some ⟨?_, ?_, ?_, ?_, fun q hq => ?_, fun q hq => ?_, fun q hq => ?_⟩
    · exact FR.wi (FR.tr (FR.wi (FR.mo fr (by simp) (by simp) (by simp) (by simp)) (by simp)) (FR.mo z1 (by simp) (by simp) (by simp) (by simp))) (by simp)
    · rw [wi_ne (fun c => pq_n (by omega) c.symm), FR.F z1 (by simp; exact ⟨pq_inj (by omega), pq_inj (by omega)⟩), wi_sm (by omega) (by omega)]
    · rw [wi_ne (fun c => pq_n (by omega) c.symm)]
      exact z2
    · rw [wi_sm (by omega) (by omega)]
    · show m2.2.2.2 (pq p 2) q = _
      rw [j2]
      exact c1 q hq
    · show m2.2.2.2 (pq p 2) (U + 2 + q) = _
      rw [j2]
      exact c2 q hq
    · show m2.2.2.2 (pq p 35) q = _
      rw [z3 q hq]
      by_cases c : q = W
      · rw [if_pos c, if_pos c]
      · rw [if_neg c, if_neg c]
        show m.2.2.2 (pq p 35) q = _
        rw [fr.2.2.2 _ (by simp; exact pq_inj (by omega))]
  | succ d ih =>
    intro M m i hi fr c1 c2
    cases M with
    | zero => exact pk_none
    | succ M =>
    show PK _ (hb_Ma_fun_144 N (hg_Ma_fun N M) m p (I ((l : Nat) : Int)) (I ((U : Nat) : Int)) (I ((i : Nat) : Int)))
    unfold hb_Ma_fun_144
    have e5 : F m 1105 = ((a : Nat) : Int) := by rw [FR.F fr (by simp)]; exact h5
    have c23 : A m 23 (a + 3 + i) = A m0 23 (a + 3 + i) := FR.A fr (by simp)
    have j33 : m.2.2.2 (pq p 33) = m0.2.2.2 (pq p 33) := fr.2.2.2 _ (by simp; exact pq_inj (by omega))
    rw [decI (by omega) (by omega) (by omega) (by omega), show decide (((l : Nat) : Int) ≤ ((i : Nat) : Int)) = false from decide_eq_false (by omega), br_fq, I_F' e5, show I ((a : Nat) : Int) + 3 = I ((a + 3 : Nat) : Int) from addN, addN, Co_e (k := a + 3 + i) rfl (by omega), bnd_so, c23]
    refine pk_bnd (pk_mo (nk_m (N := N) (NMx_fr nm fr (by simp)) (nk i (by omega)) (A_r _ _ _)) (fun m2 r e => ?_))
    obtain ⟨rfl, rfl⟩ := e
    refine pk_ck (fun _ => pk_ltq ?_)
    rw [show I ((U : Nat) : Int) + 2 = I ((U + 2 : Nat) : Int) from addN, addN, tnI (n := U + 2 + i) rfl (by omega), wj_e, show I ((i : Nat) : Int) + 1 = I ((i + 1 : Nat) : Int) from addN, j33]
    refine ih M _ (i + 1) (by omega) (FR.wj fr (by simp)) (fun q hq => ?_) (fun q hq => ?_)
    · rw [wj_row, if_neg (by omega)]
      exact c1 q hq
    · rw [wj_row]
      by_cases c : q = i
      · rw [if_pos (by omega), c]
      · rw [if_neg (by omega)]
        exact c2 q (by omega)
theorem fcl_r (hpp : p < 24) (h92 : A w0 92 p = ((W : Nat) : Int)) (hW : W ≤ 46000) (hU : U + (l + 2) ≤ 500) (nw : NWx w0 p jf nbj H) (hB : nbj + (H ++ O).length ≤ 2500) (h55 : A w0 55 uu = ((bb : Nat) : Int)) (hu : uu < 2147483648) (hbb : bb + l < 1000000) (nk : ∀ k, k < l → NKs H O (A m0 23 (a + 3 + k)) (A w0 57 (bb + k)) (kn k)) : ∀ (d M : Nat) (w : MS) (i : Nat), i + d = l → FR [] [] [] [88] w0 w → (∀ q, ¬ (500 * p + U + 2 ≤ q ∧ q < 500 * p + U + 2 + l) → w.2.2.2 88 q = w0.2.2.2 88 q) → (∀ q, q < i → w.2.2.2 88 (500 * p + U + 2 + q) = w0.2.2.2 93 (2500 * p + (nbj + kn q))) → PK (fun w2 (_ : Unit) => ∃ w1 : MS, FR [] [] [] [88] w0 w1 ∧ (∀ q, ¬ (500 * p + U + 2 ≤ q ∧ q < 500 * p + U + 2 + l) → w1.2.2.2 88 q = w0.2.2.2 88 q) ∧ (∀ q, q < l → w1.2.2.2 88 (500 * p + U + 2 + q) = w0.2.2.2 93 (2500 * p + (nbj + kn q))) ∧ w2 = wa (wj w1 91 (46000 * p + W) (mk 3 ((U : Nat) : Int))) 92 p ((W + 1 : Nat) : Int)) ((gg_M_funRun N M).2 w (I ((uu : Nat) : Int)) (I ((l : Nat) : Int)) (I ((U : Nat) : Int)) (I ((i : Nat) : Int))) := by
  intro d
  induction d with
  | zero =>
    intro M w i hi fr c1 c2
    have : i = l := by omega
    subst this
    cases M with
    | zero => exact pk_none
    | succ M =>
    show PK _ (fb_M_funRun_202 N (gg_M_funRun N M) w (I ((uu : Nat) : Int)) (I ((i : Nat) : Int)) (I ((U : Nat) : Int)) (I ((i : Nat) : Int)))
    unfold fb_M_funRun_202
    have x33 : F w 133 = ((p : Nat) : Int) := by rw [FR.F fr (by simp)]; exact nw.2.1
    have x92 : A w 92 p = ((W : Nat) : Int) := by rw [FR.A fr (by simp)]; exact h92
    rw [show decide (I ((i : Nat) : Int) ≤ I ((i : Nat) : Int)) = true from decide_eq_true (Int32.le_refl _), br_tq, show (3 : Int32) = I 3 from rfl, term_e, bnd_so]
    refine pk_bnd (pk_mo (put_r (N := N) (x := mk 3 ((U : Nat) : Int)) hpp x33 x92 hW) (fun w2 _ e => ?_))
    subst e
    exact pk_some ⟨w, fr, c1, c2, rfl⟩
  | succ d ih =>
    intro M w i hi fr c1 c2
    cases M with
    | zero => exact pk_none
    | succ M =>
    show PK _ (fb_M_funRun_202 N (gg_M_funRun N M) w (I ((uu : Nat) : Int)) (I ((l : Nat) : Int)) (I ((U : Nat) : Int)) (I ((i : Nat) : Int)))
    unfold fb_M_funRun_202
    have x33 : F w 133 = ((p : Nat) : Int) := by rw [FR.F fr (by simp)]; exact nw.2.1
    have x55 : A w 55 uu = ((bb : Nat) : Int) := by rw [FR.A fr (by simp)]; exact h55
    have x57 : A w 57 (bb + i) = A w0 57 (bb + i) := FR.A fr (by simp)
    rw [decI (by omega) (by omega) (by omega) (by omega), show decide (((l : Nat) : Int) ≤ ((i : Nat) : Int)) = false from decide_eq_false (by omega), br_fq, I_F' x33, tnI (n := uu) rfl (by omega), I_A' x55, addN, tnI (n := bb + i) rfl (by omega), I_A (k := 57), x57]
    refine pk_ck (fun _ => pk_ck (fun _ => ?_))
    refine pk_bnd (pk_mo (nk_r (N := N) (NWx_fr nw fr (by simp) (by simp) (by simp) (by simp)) hB (nk i (by omega)) (A_r _ _ _)) (fun w2 r e => ?_))
    obtain ⟨rfl, rfl⟩ := e
    have sp : I ((p : Nat) : Int) * 500 + I ((U : Nat) : Int) + 2 + I ((i : Nat) : Int) = I ((500 * p + U + 2 + i : Nat) : Int) := by
      rw [show (500 : Int32) = I 500 from rfl, show (2 : Int32) = I 2 from rfl, I_mul, I_add, I_add, I_add]
      congr 1
      omega
    refine pk_ck (fun _ => pk_ltq ?_)
    rw [sp, tnI (n := 500 * p + U + 2 + i) rfl (by omega), wj_e, show I ((i : Nat) : Int) + 1 = I ((i + 1 : Nat) : Int) from addN, fr.2.2.2 93 (by simp)]
    refine ih M _ (i + 1) (by omega) (FR.wj fr (by simp)) (fun q hq => ?_) (fun q hq => ?_)
    · rw [wj_row, if_neg (by omega)]
      exact c1 q hq
    · rw [wj_row]
      by_cases c : q = i
      · rw [if_pos (by omega), c]
      · rw [if_neg (by omega)]
        exact c2 q (by omega)
theorem fun_iso {h2 h2' : Nat → Int64} {tt xx : Nat → Int64} (s : ISb b h U h' U) (hU : U + (l + 2) ≤ 1000) (pr : PLR (h2 U) (h2' U)) (hd : vn (h2 (U + 1)) = l) (hd' : vn (h2' (U + 1)) = l) (cs : ∀ q, q < l → h2 (U + 2 + q) = tt q) (cs' : ∀ q, q < l → h2' (U + 2 + q) = xx q) (rt : ∀ q, q < l → RTb b (tt q) (xx q)) (hh : ∀ i, i < U → h2 i = h i) (hh' : ∀ i, i < U → h2' i = h' i) : ISb (fun k a c => b k a c ∨ (k = so (mk 3 ((U : Nat) : Int)) ∧ a = U ∧ c = U)) h2 (U + (l + 2)) h2' (U + (l + 2)) ∧ RTb (fun k a c => b k a c ∨ (k = so (mk 3 ((U : Nat) : Int)) ∧ a = U ∧ c = U)) (mk 3 ((U : Nat) : Int)) (mk 3 ((U : Nat) : Int)) := by
  have s3 : so (mk 3 ((U : Nat) : Int)) = 3 := so_mk (by omega) (by omega)
  have v3 : va (mk 3 ((U : Nat) : Int)) = ((U : Nat) : Int) := va_mk (by omega) (by omega)
  have n3 : vn (mk 3 ((U : Nat) : Int)) = U := by unfold vn; rw [v3]; omega
  have pr3 : prt (mk 3 ((U : Nat) : Int)) = 2 := by unfold prt; rw [s3]; rfl
  refine ISb_new (m := l + 2) s (isH_mk (by omega)) rfl ⟨by rw [v3]; omega, by rw [v3]; omega⟩ n3 n3 ?_ ?_ ⟨by omega, by omega⟩ hh hh' (fun j h1 h3 => ?_) (fun _ => pr)
  · unfold blk; rw [s3, n3]; simp; rw [hd]; omega
  · unfold blk; rw [s3, n3]; simp; rw [hd']; omega
  · rw [pr3] at h1
    rw [show U + j = U + 2 + (j - 2) by omega, cs (j - 2) (by omega), cs' (j - 2) (by omega)]
    exact rt (j - 2) (by omega)
end
end
section
set_option maxRecDepth 100000
section
variable {α β : Type} {b : Int → Nat → Nat → Prop} {Fv Fv' : Int64 → Int64 → Prop} {P P' : Int64 → Prop} {ow kd ow' kd' : Nat → Nat} {N p U B W Y l j a n uu bb ff ee ee' : Nat} {m w : MS} {nb : Nat → Nat} {Hs Os : Nat → List Nat} {y : Option (Nat × Nat × Nat)} {v : Int} {Q : MS → α → MS → β → Prop} {K1 : MS → Option (MS × α)} {K2 : MS → Option (MS × β)}
theorem one_14 : fm_M_one N w (I v) (I 14) = bnd (fm_M_goTo N w (I v + 1)) (fun u7 _ => bnd (fm_M_funRun N u7 (I v) (I 14)) (fun u1 _ => some (u1, ()))) := rfl
theorem one_15 : fm_M_one N w (I v) (I 15) = bnd (fm_M_goTo N w (I v + 1)) (fun u7 _ => bnd (fm_M_funRun N u7 (I v) (I 15)) (fun u1 _ => some (u1, ()))) := rfl
theorem NMx_of (fa : FAs m w p j nb Hs Os) (hB : nb j + (Hs j ++ Os j).length ≤ 2500) : NMx m p (nb j) (Hs j) (Os j) := ⟨fa.2.2.2, hB, (fa.2.1 j (Nat.le_refl _)).2.2.2.2.2⟩
theorem NWx_of (fa : FAs m w p j nb Hs Os) (hpp : p < 24) (h3 : F w 133 = ((p : Nat) : Int)) : NWx w p j (nb j) (Hs j) := ⟨hpp, h3, fa.1.2.1, fa.1.2.2, (fa.2.1 j (Nat.le_refl _)).2.2.1.2, (fa.2.1 j (Nat.le_refl _)).2.2.2.2.1⟩
theorem op_fun (hpp : p < 24) (pl : PLs b p m w U B W Y) (ru : RUs m w p j nb Hs Os y a n) (hW : W < 46000) (hB : B ≤ 2500) (pt : PTQ m p U ow kd Fv P B W Y) (cx : CTX Fv P m) (xc : CX w p (hp w p) U ow' kd' Fv' P' W B Y) (g : HPc (m.2.2.2 (pq p 2)) U ow kd Fv P) (g' : HP (hp w p) U ow' kd' Fv' P') (hF : FVc Fv) (h140 : F w 140 = -1) (h25 : A w 25 n = ((uu : Nat) : Int)) (huu : uu < 100000) (h54 : A w 54 uu = ((l : Nat) : Int)) (h55 : A w 55 uu = ((bb : Nat) : Int)) (hbb : bb < 900000) (hl1 : l ≤ 100) (c1 : A m 23 (a + 1) = ((uu : Nat) : Int)) (c2 : A m 23 (a + 2) = ((l : Nat) : Int)) (lk : ∀ k, k < l → LKP (Hs j) (Os j) (A m 23 (a + 3 + k)) (A w 57 (bb + k))) (nd : (Os j).Nodup ∧ (Hs j).Nodup) (hee : F m 955 = ((ee : Nat) : Int) ∧ ee < 24) (hee' : F w 150 = ((ee' : Nat) : Int) ∧ ee' < 4000) (hN : 2200000 ≤ N) (cr : ∃ f, CRs (A m 23) (ROs w) (w.2.2.2 34) f y (a + 3 + l) (n + 1) (Hs j) (Os j))
    (kS : ∀ b3 U3 m3 w3, PLs b3 p m3 w3 U3 B (W + 1) Y → RUs m3 w3 p j nb Hs Os y (a + 3 + l) (n + 1) → FGm p m m3 → FGw p j w w3 → PP Q (K1 m3) (K2 w3))
    (kX : ∀ m3 w3, FGm p m m3 → FGw p j w w3 → PLs b p m3 w3 U B W Y → RUb m3 w3 p j nb Hs Os y → PTQ m3 p U ow kd Fv P B W Y → CX w3 p (hp w3 p) U ow' kd' Fv' P' W B Y → F w3 140 = -1 → PP Q (K1 (tld m3 1 (-1) (mk 1 11))) (bnd (fr_M_error N w3 11) (fun u _ => K2 u)))
    (kE : ∀ m3 w3, FGm p m m3 → FGw p j w w3 → m3.1 (pq p 5) = w3.2.2.1 90 p → PP Q (K1 (enS m3 p (mk 1 20) p ee)) (K2 (wi (enR w3 p 0 ((p : Nat) : Int) (mk 1 20) ee') 151 1))) : PP Q (bnd (hm_Ma_making N m p (I 6)) (fun u _ => K1 u)) (bnd (fm_M_one N w (I ((n : Nat) : Int)) (I 14)) (fun u _ => K2 u)) := by
  obtain ⟨⟨fa, ct⟩, ⟨r2, r3⟩, ⟨f0, cr0⟩, ⟨r5, r6⟩, r7, ⟨r8, r9, r10⟩, r11, r12, r13⟩ := id ru
  have cb := CR_b cr0
  have cb2 : a + 3 + l + 1 < 24000 := by
    obtain ⟨f9, cr9⟩ := cr
    exact (CR_b cr9).1
  have hj : j < 60 := fa.1.2.2
  have eB : B = nb j + (Hs j ++ Os j).length := by
    have h1 := fa.2.2.2
    have h2 := pl.2.1.1
    omega
  have nm := NMx_of fa (by omega)
  have nw := NWx_of fa hpp r11
  obtain ⟨kn, nk⟩ : ∃ kn : Nat → Nat, ∀ k, k < l → NKs (Hs j) (Os j) (A m 23 (a + 3 + k)) (A w 57 (bb + k)) (kn k) := Classical.axiomOfChoice (r := fun k z => k < l → NKs (Hs j) (Os j) (A m 23 (a + 3 + k)) (A w 57 (bb + k)) z) (fun k => by
    by_cases c : k < l
    · obtain ⟨z, hz⟩ := nk_of nd (lk k c)
      exact ⟨z, fun _ => hz⟩
    · exact ⟨0, fun h => absurd h c⟩)
  rw [mak6, one_14, I_F' r2, show I ((a : Nat) : Int) + 1 = I ((a + 1 : Nat) : Int) from addN, Co_e (k := a + 1) rfl (by omega), bnd_so, c1, show I ((n : Nat) : Int) + 1 = I ((n + 1 : Nat) : Int) from addN]
  refine l_bb (r_bb ?_)
  refine r_bnd (pk_mo (goto_r (N := N) (n := ((n + 1 : Nat) : Int)) hpp r11 fa.1.2.1 hj) (fun w1 _ e => ?_))
  subst e
  refine r_bb ?_
  generalize hw1 : wa w 98 (60 * p + j) ((n + 1 : Nat) : Int) = w1
  have g1 : FGw p j w w1 := by rw [← hw1]; exact FGw.goto
  have pl1 : PLs b p m w1 U B W Y := by rw [← hw1]; exact PLs_98 pl
  have x33 : F w1 133 = ((p : Nat) : Int) := by rw [← hw1]; exact r11
  have x98 : A w1 98 (60 * p + j) = ((n + 1 : Nat) : Int) := by rw [← hw1, wa_sm (by omega) (by omega)]
  have hp1 : hp w1 p = hp w p := by rw [← hw1]; rfl
  have xc1 : CX w1 p (hp w1 p) U ow' kd' Fv' P' W B Y := by rw [← hw1]; exact CX_98 xc
  have a1 : ∀ K i, K ≠ 98 → A w1 K i = A w K i := fun K i h => by rw [← hw1, wa_rne h]
  have nw1 : NWx w1 p j (nb j) (Hs j) := ⟨hpp, x33, (a1 95 _ (by omega)).trans nw.2.2.1, hj, (a1 99 _ (by omega)).trans nw.2.2.2.2.1, (a1 101 _ (by omega)).trans nw.2.2.2.2.2⟩
  have nk1 : ∀ k, k < l → NKs (Hs j) (Os j) (A m 23 (a + 3 + k)) (A w1 57 (bb + k)) (kn k) := fun k hk => by rw [a1 57 _ (by omega)]; exact nk k hk
  have tp : ∀ i, i < nb j + (Hs j ++ Os j).length → TPb b U ow kd P U ow' kd' P' (m.2.2.2 (pq p 33) i) (w1.2.2.2 93 (2500 * p + i)) := fun i hi => ⟨pl1.2.1.2.2 i (by omega), pt.2.1.2 i (by omega), xc1.2.2.2.2.2.2.2.2.1 i (by omega)⟩
  unfold hm_Ma_fun hb_Ma_fun_0 fm_M_funRun fb_M_funRun_0 fb_M_funRun_23
  rw [I_F' r2, show I ((a : Nat) : Int) + 2 = I ((a + 2 : Nat) : Int) from addN, Co_e (k := a + 2) rfl (by omega), bnd_so, c2]
  refine rb_ck (fun _ => ?_)
  rw [show decide (I 14 = 15) = false from rfl, br_fq, tnI (n := n) rfl (by omega), I_A' ((a1 25 _ (by omega)).trans h25)]
  refine rb_ck (fun _ => ?_)
  rw [tnI (n := uu) rfl (by omega), I_A' ((a1 54 _ (by omega)).trans h54), show (2 : Int32) + I ((l : Nat) : Int) = I ((2 + l : Nat) : Int) from addN, show I ((l : Nat) : Int) + 2 = I ((l + 2 : Nat) : Int) from addN, show (0 : Int32) = I ((0 : Nat) : Int) from rfl]
  refine fsz_lp (U := U) (l := l) (kn := kn) (bb := bb) (a := a) hpp rfl hp1 g pl.1.1.2.2 hF g' pl.1.2.1 tp nm nw1 r2 (by omega) ((a1 55 _ (by omega)).trans h55) (by omega) (by omega) hl1 nk1 (by omega) (fun m2 w2 M M2 Z Z' f2 f3 hZ b1 b2 => ?_) l N N m w1 0 (l + 2) (2 + l) (by omega) FR.rf FR.rf (by omega) (by omega) (by omega)
  have fm2 : FGm p m m2 := FR.mo f2 (by simp) (by simp) (by simp) (by simp)
  have fw2 : FGw p j w1 w2 := ⟨FR.mo f3 (by simp) (by simp) (by simp) (by simp), fun _ _ => ⟨FR.A f3 (by simp), by rw [f3.2.2.1 90 (by simp)], FR.A f3 (by simp)⟩, fun _ _ => FR.A f3 (by simp), fun _ _ => by rw [f3.2.2.2 88 (by simp)], fun _ _ => by rw [f3.2.2.2 91 (by simp)], fun _ _ => by rw [f3.2.2.2 93 (by simp)], fun _ _ => by rw [f3.2.2.2 107 (by simp)]⟩
  have jq : ∀ d, m2.2.2.2 (pq p d) = m.2.2.2 (pq p d) := fun d => f2.2.2.2 _ (by simp; exact fun c => pq_n (by omega) c.symm)
  have pl2 : PLs b p m2 w2 U B W Y := PLs_cg pl1 (fun d _ => f2.1 _ (by simp)) (fun i _ => by rw [jq]) (fun i _ => by rw [jq]) (fun i _ => by rw [jq]) (fun i _ => by rw [jq]) (fun K hK => by rw [f3.2.2.1 K (by simp)]) (fun i _ => by rw [f3.2.2.2 88 (by simp)]) (fun i _ => by rw [f3.2.2.2 93 (by simp)]) (fun i _ => by rw [f3.2.2.2 91 (by simp)]) (fun i _ => by rw [f3.2.2.2 107 (by simp)])
  have ru2 : RUb m2 w2 p j nb Hs Os y := RUb_fg (RUb_fg (RUs_b ru) FGm.rf g1) fm2 fw2
  rw [show (500 : Int32) = I ((500 : Nat) : Int) from rfl, decI (by omega) (by omega) (by omega) (by omega), decI (by omega) (by omega) (by omega) (by omega)]
  by_cases cz : Z ≤ 500
  · have cz' : Z' ≤ 500 := by omega
    rw [decide_eq_true (by omega), decide_eq_true (by omega), br_tq, br_tq]
    unfold funA funB
    have y33 : F w2 133 = ((p : Nat) : Int) := by rw [FR.F f3 (by simp)]; exact x33
    have y40 : F w2 140 = -1 := by rw [FR.F f3 (by simp), ← hw1]; exact h140
    have pt2 : PTQ m2 p U ow kd Fv P B W Y := PTQ_same pt (fun d _ => f2.1 _ (by simp)) (fun d _ => jq d)
    have cx2 : CTX Fv P m2 := CTX_fr cx (f2.1 22 (by simp)) (f2.2.2.1 3 (by simp))
    have xc2 : CX w2 p (hp w2 p) U ow' kd' Fv' P' W B Y := CX_141 xc1 f3
    have e9 : F m2 (pq p 9) ≠ 3 := by
      rw [FR.F f2 (by simp), r5]; omega
    have ee2 : F m2 955 = ((ee : Nat) : Int) ∧ ee < 24 := ⟨by rw [FR.F f2 (by simp)]; exact hee.1, hee.2⟩
    rw [I_F' y33, show (2 : Int32) + I ((l : Nat) : Int) = I ((l + 2 : Nat) : Int) by rw [show (2 : Int32) = I 2 from rfl, I_add]; congr 1; omega, show I ((l : Nat) : Int) + 2 = I ((l + 2 : Nat) : Int) from addN]
    refine l_bb (r_bb ?_)
    refine pp_bb (pp_mo (room_pp (N := N) (k := l + 2) pt2 cx2 xc2 pl2 y40 (by omega) e9 ee2 hN) (fun m4 r4 w4 r5' q9 => ?_))
    rcases q9 with ⟨rfl, rfl, a4, a5, b2', U2, pl4, rm4, ⟨ow2, kd2, pt4⟩, -⟩ | ⟨rfl, rfl, m5, a4, a5, rfl, h5⟩
    · rw [show decide ((1 : Int32) = 0) = false from rfl, br_fq, br_fq]
      have fm4 : FGm p m m4 := FGm.tr fm2 (FGm_xr a4)
      have fw4 : FGw p j w1 w4 := FGw.tr fw2 (FGw_xr a5)
      have z33 : F w4 133 = ((p : Nat) : Int) := by rw [FR.F a5.1 (by simp)]; exact y33
      have z89 : A w4 89 p = ((U2 : Nat) : Int) := pl4.1.1.2.1
      have z4 : F m4 (pq p 4) = ((U2 : Nat) : Int) := pl4.1.1.1
      obtain ⟨l4, e1, e2, e3⟩ := pt4.2.2.2.2.2.1
      rw [show (8 : Int32) = I 8 from rfl, e_make, bnd_so, I_F' z4, (I_inb (by omega) (by omega)).mpr ⟨by omega, by omega⟩, ck_t, tnI (n := U2) rfl (by omega), wj_e, lt_e, e_make, bnd_so, show I ((U2 : Nat) : Int) + 1 = I ((U2 + 1 : Nat) : Int) from addN, (I_inb (by omega) (by omega)).mpr ⟨by omega, by omega⟩, ck_t, tnI (n := U2 + 1) rfl (by omega), wj_e, lt_e]
      refine rb_ck (fun _ => ?_)
      rw [lt_e]
      refine rb_ck (fun _ => rb_ck (fun _ => ?_))
      rw [I_F' z33, tnI (n := p) rfl (by omega), I_A' z89, addN, wa_e, lt_e, show decide (I 14 = 15) = false from rfl, br_fq]
      unfold fb_M_funRun_177
      refine rb_ck (fun _ => rb_ck (fun _ => ?_))
      have z33' : F (wa w4 89 p ((U2 + (l + 2) : Nat) : Int)) 133 = ((p : Nat) : Int) := z33
      have sp : I ((p : Nat) : Int) * 500 + I ((U2 : Nat) : Int) = I ((500 * p + U2 : Nat) : Int) := by
        rw [show (500 : Int32) = I 500 from rfl, I_mul, I_add]
        congr 1
        omega
      rw [I_F' z33', sp, tnI (n := 500 * p + U2) rfl (by omega), wj_e, lt_e]
      refine rb_ck (fun _ => ?_)
      have z33'' : F (wj (wa w4 89 p ((U2 + (l + 2) : Nat) : Int)) 88 (500 * p + U2) (I ((uu : Nat) : Int)).toInt64) 133 = ((p : Nat) : Int) := z33
      rw [I_F' z33'', sp, show I ((500 * p + U2 : Nat) : Int) + 1 = I ((500 * p + U2 + 1 : Nat) : Int) from addN, tnI (n := 500 * p + U2 + 1) rfl (by omega), wj_e, lt_e]
      generalize hm6 : wj (wj m4 (pq p 2) U2 (mk 8 ((uu : Nat) : Int))) (pq p 2) (U2 + 1) (mk 8 ((l : Nat) : Int)) = m6
      generalize hw6 : wj (wj (wa w4 89 p ((U2 + (l + 2) : Nat) : Int)) 88 (500 * p + U2) (I ((uu : Nat) : Int)).toInt64) 88 (500 * p + U2 + 1) (I ((l : Nat) : Int)).toInt64 = w6
      have g6 : FR [] [] [] [pq p 2] m4 m6 := by rw [← hm6]; exact FR.wj (FR.wj FR.rf (by simp)) (by simp)
      have fr6 : FR [] [] [89] [88] w4 w6 := by rw [← hw6]; exact FR.wj (FR.wj (FR.wa FR.rf (by simp)) (by simp)) (by simp)
      have i6 : m6.1 = m4.1 := by rw [← hm6]; rfl
      have f6 : ∀ d, F m6 d = F m4 d := fun d => by show (m6.1 d).toInt = _; rw [i6]; rfl
      have e5 : F m6 1105 = ((a : Nat) : Int) := by
        rw [f6, FR.F a4 (by simp [pq_n]), FR.F f2 (by simp)]
        exact r2
      have r4a : ∀ K i, A m4 K i = A m K i := fun K i => by rw [FR.A a4 (by simp), FR.A f2 (by simp)]
      have r6a : ∀ K i, A m6 K i = A m K i := fun K i => by rw [FR.A g6 (by simp)]; exact r4a K i
      have w6a : ∀ K i, K ≠ 89 → K ≠ 90 → K ≠ 135 → A w6 K i = A w1 K i := fun K i h1 h2 h3 => by rw [FR.A fr6 (by simp; omega), FR.A a5.1 (by simp; omega), FR.A f3 (by simp)]
      have nm6 : NMx m6 p (nb j) (Hs j) (Os j) := ⟨by rw [f6]; rw [pl4.2.1.1, eB], by omega, fun i x hx => by rw [r6a]; exact nm.2.2 i x hx⟩
      have nk6 : ∀ k, k < l → NKs (Hs j) (Os j) (A m6 23 (a + 3 + k)) (A w6 57 (bb + k)) (kn k) := fun k hk => by rw [r6a, w6a 57 _ (by omega) (by omega) (by omega)]; exact nk1 k hk
      refine l_bnd (pk_mo (fcl_m (N := N) (l := l) (U := U2) (W := W) (lc := l4) (a := a) (m0 := m6) (w0 := w6) (bb := bb) (kn := kn) ((f6 _).trans pl4.2.2.1.1) ((f6 _).trans e1) ⟨e2, e3⟩ ((f6 _).trans z4) e5 (by omega) rm4 nm6 nk6 l M m6 0 (by omega) FR.rf (fun _ _ => rfl) (fun q h => by omega)) (fun m7 _ hh => ?_))
      obtain ⟨t1, t2, t3, t4, t5, t6, t7⟩ := hh
      have z336 : F w6 133 = ((p : Nat) : Int) := by rw [FR.F fr6 (by simp)]; exact z33
      have z926 : A w6 92 p = ((W : Nat) : Int) := by rw [FR.A fr6 (by simp)]; exact pl4.2.2.1.2.1
      have nw6 : NWx w6 p j (nb j) (Hs j) := ⟨hpp, z336, (w6a 95 _ (by omega) (by omega) (by omega)).trans nw1.2.2.1, hj, (w6a 99 _ (by omega) (by omega) (by omega)).trans nw1.2.2.2.2.1, (w6a 101 _ (by omega) (by omega) (by omega)).trans nw1.2.2.2.2.2⟩
      refine r_bnd (pk_mo (fcl_r (N := N) (l := l) (U := U2) (W := W) (uu := uu) (bb := bb) (a := a) (m0 := m6) (w0 := w6) (kn := kn) (O := Os j) hpp z926 (by omega) rm4 nw6 (by omega) ((w6a 55 _ (by omega) (by omega) (by omega)).trans ((a1 55 _ (by omega)).trans h55)) (by omega) (by omega) nk6 l M2 w6 0 (by omega) FR.rf (fun _ _ => rfl) (fun q h => by omega)) (fun w7 _ hh => ?_))
      obtain ⟨w5, s1, s2, s3, rfl⟩ := hh
      show PP Q (K1 m7) (K2 _)
      have m635 : m6.2.2.2 (pq p 35) = m4.2.2.2 (pq p 35) := g6.2.2.2 _ (by simp; exact pq_inj (by omega))
      have m633 : m6.2.2.2 (pq p 33) = m4.2.2.2 (pq p 33) := g6.2.2.2 _ (by simp; exact pq_inj (by omega))
      generalize hw7 : wa (wj w5 91 (46000 * p + W) (mk 3 ((U2 : Nat) : Int))) 92 p ((W + 1 : Nat) : Int) = w7
      have f7 : FR [] [] [89, 92] [88, 91] w4 w7 := by
        rw [← hw7]
        exact FR.wa (FR.wj (FR.tr (FR.mo fr6 (by simp) (by simp) (by simp) (by simp)) (FR.mo s1 (by simp) (by simp) (by simp) (by simp))) (by simp)) (by simp)
      have w788 : w7.2.2.2 88 = w5.2.2.2 88 := by
        rw [← hw7]
        show (wj w5 91 (46000 * p + W) (mk 3 ((U2 : Nat) : Int))).2.2.2 88 = _
        rw [wj_22 (by omega)]
      have w688 : ∀ q, w6.2.2.2 88 q = if q = 500 * p + U2 + 1 then (I ((l : Nat) : Int)).toInt64 else if q = 500 * p + U2 then (I ((uu : Nat) : Int)).toInt64 else w4.2.2.2 88 q := fun q => by rw [← hw6, wj_row, wj_row]; rfl
      have w791 : ∀ i, w7.2.2.2 91 i = if i = 46000 * p + W then mk 3 ((U2 : Nat) : Int) else w4.2.2.2 91 i := fun i => by
        rw [← hw7]
        show (wj w5 91 (46000 * p + W) _).2.2.2 91 i = _
        rw [wj_row, s1.2.2.2 91 (by simp), fr6.2.2.2 91 (by simp)]
      have hw70 : hp w7 p U2 = (I ((uu : Nat) : Int)).toInt64 := by
        show w7.2.2.2 88 (500 * p + U2) = _
        rw [w788, s2 _ (by omega), w688, if_neg (by omega), if_pos rfl]
      have hw71 : hp w7 p (U2 + 1) = (I ((l : Nat) : Int)).toInt64 := by
        show w7.2.2.2 88 (500 * p + (U2 + 1)) = _
        rw [w788, s2 _ (by omega), w688, if_pos (by omega)]
      have hw7o : ∀ i, i < U2 → hp w7 p i = hp w4 p i := fun i hi => by
        show w7.2.2.2 88 (500 * p + i) = _
        rw [w788, s2 _ (by omega), w688, if_neg (by omega), if_neg (by omega)]
        rfl
      have hw7c : ∀ i, i < l → hp w7 p (U2 + 2 + i) = w4.2.2.2 93 (2500 * p + (nb j + kn i)) := fun i hi => by
        show w7.2.2.2 88 (500 * p + (U2 + 2 + i)) = _
        rw [w788, show 500 * p + (U2 + 2 + i) = 500 * p + U2 + 2 + i by omega, s3 i hi, fr6.2.2.2 93 (by simp)]
      have hm70 : m7.2.2.2 (pq p 2) U2 = mk 8 ((uu : Nat) : Int) := by rw [t5 U2 (by omega), ← hm6, wj_row, if_neg (by omega), wj_row, if_pos rfl]
      have hm71 : m7.2.2.2 (pq p 2) (U2 + 1) = mk 8 ((l : Nat) : Int) := by rw [t5 (U2 + 1) (by omega), ← hm6, wj_row, if_pos rfl]
      have hm7o : ∀ i, i < U2 → m7.2.2.2 (pq p 2) i = m4.2.2.2 (pq p 2) i := fun i hi => by rw [t5 i (by omega), ← hm6, wj_row, if_neg (by omega), wj_row, if_neg (by omega)]
      have ti := fun_iso (l := l) (h2 := m7.2.2.2 (pq p 2)) (h2' := hp w7 p) (tt := fun q => m4.2.2.2 (pq p 33) (nb j + kn q)) (xx := fun q => w4.2.2.2 93 (2500 * p + (nb j + kn q))) pl4.1.2.1 (by omega) (Or.inl ⟨uu, huu, by rw [hm70, va_mk (by omega) (by omega)], by rw [hw70, toI64, I_ti (by omega) (by omega)]⟩) (by rw [hm71]; unfold vn; rw [va_mk (by omega) (by omega)]; omega) (by rw [hw71]; unfold vn; rw [va_w, I_ti (by omega) (by omega)]; omega) (fun q hq => by rw [t6 q hq, m633]) hw7c (fun q hq => pl4.2.1.2.2 _ (by have := (nk q hq).1; omega)) hm7o hw7o
      have t1' : FR [pq p 4, pq p 26, pq p 45, 1105] [] [] [pq p 2, pq p 35] m4 m7 := FR.tr (FR.mo g6 (by simp) (by simp) (by simp) (by simp)) t1
      have e89 : A w7 89 p = ((U2 + (l + 2) : Nat) : Int) := by
        rw [← hw7, wa_rne (by omega)]
        show A w5 89 p = _
        rw [FR.A s1 (by simp), ← hw6]
        show A (wa w4 89 p ((U2 + (l + 2) : Nat) : Int)) 89 p = _
        rw [wa_sm (by omega) (by omega)]
      have e92 : A w7 92 p = ((W + 1 : Nat) : Int) := by rw [← hw7, wa_sm (by omega) (by omega)]
      have fm7 : FGm p m m7 := FGm.tr fm4 (FR.mo t1' (by simp) (by simp) (by simp) (by simp))
      have fw7 : FGw p j w1 w7 := by
        refine FGw.tr fw4 (FGw_mk f7 (fun r hr => ?_) (fun r hr => ?_) (fun i hi => ?_) (fun i hi => ?_))
        · rw [← hw7, wa_rne (by omega)]
          show A w5 89 r = _
          rw [FR.A s1 (by simp), ← hw6]
          show A (wa w4 89 p ((U2 + (l + 2) : Nat) : Int)) 89 r = _
          rw [wa_ro (by omega) (by omega), if_neg hr]
        · rw [← hw7, wa_ro (by omega) (by omega), if_neg hr]
          show A w5 92 r = _
          rw [FR.A s1 (by simp), FR.A fr6 (by simp)]
        · rw [w788, s2 _ (by omega), w688, if_neg (by omega), if_neg (by omega)]
        · rw [w791, if_neg (by omega)]
      have x98' : A w7 98 (60 * p + j) = ((n + 1 : Nat) : Int) := by rw [FR.A f7 (by simp), FR.A a5.1 (by simp), FR.A f3 (by simp)]; exact x98
      exact kS _ _ m7 w7 (PLs_mk pl4 (fun _ _ _ h => Or.inl h) t1' t2 t3 (Nat.le_refl _) (fun i hi => by rw [t7 i hi, m635]) f7 e89 rm4 e92 (fun i hi => by
        rw [w791]
        by_cases c : i = W
        · rw [if_pos c, if_pos (by omega)]
        · rw [if_neg c, if_neg (by omega)]) ti.1 ti.2) (RUs_mv ru fm7 (FGw.tr g1 fw7) t4 x98' cr) fm7 (FGw.tr g1 fw7)
    · rw [show decide ((0 : Int32) = 0) = true from rfl, br_tq, br_tq]
      have z33 : F w4 133 = ((p : Nat) : Int) := by rw [FR.F a5.1 (by simp)]; exact y33
      have g4 : FGw p j w w4 := FGw.tr g1 (FGw.tr fw2 (FGw_xr a5))
      have e109 : A w4 109 p ≠ 3 := by
        rw [FR.A g4.1 (by simp), r6]; omega
      have e150 : F w4 150 = ((ee' : Nat) : Int) := by
        rw [FR.F g4.1 (by simp)]; exact hee'.1
      rw [noR_e hpp z33 e109 e150 hee'.2]
      exact kE m5 w4 (FGm.tr fm2 (FGm_xr a4)) g4 h5
  · have cz' : ¬ Z' ≤ 500 := by omega
    rw [decide_eq_false (by omega), decide_eq_false (by omega), br_fq, br_fq]
    refine r_bb ?_
    exact kX m2 w2 fm2 (FGw.tr g1 fw2) pl2 ru2 (PTQ_same pt (fun d _ => f2.1 _ (by simp)) (fun d _ => jq d)) (CX_141 xc1 f3) (by rw [FR.F f3 (by simp), ← hw1]; exact h140)
end
end
section
set_option maxRecDepth 100000
def Kwac (u w : MS) : Prop := (∀ k, k < 947 ∨ k = 953 → w.1 k = u.1 k) ∧ ∀ K, K < 49 ∨ K = 52 ∨ K = 53 → w.2.2.1 K = u.2.2.1 K
def KwaE {α : Type} (u : MS) (o : Option (MS × α)) : Prop := ∀ w r, o = some (w, r) → Kwac u w
section
variable {α β : Type} {u0 u w : MS} {k : Nat}
theorem Kwa_none : KwaE u0 (none : Option (MS × α)) := fun _ _ e => by cases e
theorem Kwa_some {r : α} (h : Kwac u0 w) : KwaE u0 (some (w, r)) := fun _ _ e => by injection e with e; injection e with e1 _; exact e1 ▸ h
theorem Kwa_br {b : Bool} {p q : Option (MS × α)} (h1 : KwaE u0 p) (h2 : KwaE u0 q) : KwaE u0 (br b p q) := by cases b <;> assumption
theorem Kwa_ck {b : Bool} {p : Option (MS × α)} (h1 : KwaE u0 p) : KwaE u0 (ck b p) := by
  cases b
  · exact Kwa_none
  · exact h1
theorem Kwa_bo {o : Option β} {f : β → Option (MS × α)} (h : ∀ j, KwaE u0 (f j)) : KwaE u0 (bo o f) := by
  cases o with
  | none => exact Kwa_none
  | some j => exact h j
theorem Kwa_bnd {o : Option (MS × β)} {f : MS → β → Option (MS × α)} (h1 : KwaE u0 o) (h2 : ∀ w r, Kwac u0 w → KwaE u0 (f w r)) : KwaE u0 (bnd o f) := by
  cases o with
  | none => exact Kwa_none
  | some x => exact h2 x.1 x.2 (h1 x.1 x.2 rfl)
theorem Kwa_T {o : Option (MS × (β ⊕ Nat))} {f : MS → β → Option (MS × (α ⊕ Nat))} (h1 : KwaE u0 o) (h2 : ∀ w r, Kwac u0 w → KwaE u0 (f w r)) : KwaE u0 (bTm o f) := by
  cases o with
  | none => exact Kwa_none
  | some x =>
    obtain ⟨x, z⟩ := x
    cases z with
    | inl v => exact h2 x v (h1 x _ rfl)
    | inr k => exact Kwa_some (h1 x _ rfl)
theorem Kwa_H {o : Option (MS × (β ⊕ Nat))} {f : MS → β → Option (MS × α)} {g : MS → Option (MS × α)} (h1 : KwaE u0 o) (h2 : ∀ w r, Kwac u0 w → KwaE u0 (f w r)) (h3 : ∀ w, Kwac u0 w → KwaE u0 (g w)) : KwaE u0 (bHm o f g) := by
  cases o with
  | none => exact Kwa_none
  | some x =>
    obtain ⟨x, z⟩ := x
    cases z with
    | inl v => exact h2 x v (h1 x _ rfl)
    | inr k =>
      show KwaE u0 (if k = 3 then g x else none)
      split
      · exact h3 x (h1 x _ rfl)
      · exact Kwa_none
theorem Kwa_ltm {x : MS} {f : MS → Option (MS × α)} (h1 : Kwac u0 x) (h2 : ∀ w, Kwac u0 w → KwaE u0 (f w)) : KwaE u0 (lt x f) := h2 x h1
theorem Kwa_ltv {x : β} {f : β → Option (MS × α)} (h2 : ∀ y, KwaE u0 (f y)) : KwaE u0 (lt x f) := h2 x
theorem Kwa_I {v : Int32} (h : Kwac u0 u) (hk : ¬ (k < 947 ∨ k = 953)) : Kwac u0 (upI u k v) := ⟨fun j hj => (upI_ne (by omega)).trans (h.1 j hj), h.2⟩
theorem Kwa_L {v : Int64} (h : Kwac u0 u) : Kwac u0 (upL u k v) := h
theorem Kwa_J {v : Nat → Int64} (h : Kwac u0 u) : Kwac u0 (upJ u k v) := h
theorem Kwa_A {v : Nat → Int32} (h : Kwac u0 u) (hk : ¬ (k < 49 ∨ k = 52 ∨ k = 53)) : Kwac u0 (upA u k v) := ⟨h.1, fun j hj => (upA_no (by omega)).trans (h.2 j hj)⟩
theorem Kwa_sw {q : Nat} (h : Kwac u0 u) : Kwac u0 (swp u q) := h
theorem Kwa_rf : Kwac u u := ⟨fun _ _ => rfl, fun _ _ => rfl⟩
end
section
variable {u0 u : MS} {N : Nat}
theorem ywa_hb_Fr_below_23 {G : Unit} {t0 : Int64} (h : Kwac u0 u)  : KwaE u0 (hb_Fr_below_23 N G u t0) := by
  unfold hb_Fr_below_23
  repeat' (first | with_reducible assumption | with_reducible refine Kwa_br ?_ ?_ | with_reducible refine Kwa_bnd ?_ (fun _ _ _ => ?_) | with_reducible refine Kwa_ck ?_ | with_reducible refine Kwa_ltm ?_ (fun _ _ => ?_) | with_reducible refine Kwa_some ?_ | with_reducible refine Kwa_bo (fun _ => ?_) | with_reducible refine Kwa_T ?_ (fun _ _ _ => ?_) | with_reducible refine Kwa_H ?_ (fun _ _ _ => ?_) (fun _ _ => ?_) | with_reducible refine Kwa_ltv (fun _ => ?_) | with_reducible refine Kwa_I ?_ (by decide) | with_reducible refine Kwa_A ?_ (by decide) | with_reducible refine Kwa_I ?_ (by unfold pq; omega) | with_reducible refine Kwa_A ?_ (by unfold pq; omega) | with_reducible refine Kwa_J ?_ | with_reducible refine Kwa_L ?_ | with_reducible refine Kwa_sw ?_)
theorem ywa_hb_Fr_below_0 {G : Unit} {v0 : Nat} {v1 : Int32} (h : Kwac u0 u)  : KwaE u0 (hb_Fr_below_0 N G u v0 v1) := by
  unfold hb_Fr_below_0
  repeat' (first | with_reducible assumption | with_reducible refine Kwa_br ?_ ?_ | with_reducible refine Kwa_bnd ?_ (fun _ _ _ => ?_) | with_reducible refine Kwa_ck ?_ | with_reducible refine Kwa_ltm ?_ (fun _ _ => ?_) | with_reducible refine Kwa_some ?_ | with_reducible refine Kwa_bo (fun _ => ?_) | with_reducible refine Kwa_T ?_ (fun _ _ _ => ?_) | with_reducible refine Kwa_H ?_ (fun _ _ _ => ?_) (fun _ _ => ?_) | with_reducible exact ywa_hb_Fr_below_23 (by assumption) | with_reducible refine Kwa_ltv (fun _ => ?_) | with_reducible refine Kwa_I ?_ (by decide) | with_reducible refine Kwa_A ?_ (by decide) | with_reducible refine Kwa_I ?_ (by unfold pq; omega) | with_reducible refine Kwa_A ?_ (by unfold pq; omega) | with_reducible refine Kwa_J ?_ | with_reducible refine Kwa_L ?_ | with_reducible refine Kwa_sw ?_)
theorem ywa_hm_Fr_below {v0 : Nat} {v1 : Int32} (h : Kwac u0 u)  : KwaE u0 (hm_Fr_below N u v0 v1) := by
  unfold hm_Fr_below
  exact ywa_hb_Fr_below_0 h
theorem ywa_hb_Te_make_0 {G : Unit} {v0 : Int32} {v1 : Int32} (h : Kwac u0 u)  : KwaE u0 (hb_Te_make_0 N G u v0 v1) := by
  unfold hb_Te_make_0
  repeat' (first | with_reducible assumption | with_reducible refine Kwa_br ?_ ?_ | with_reducible refine Kwa_bnd ?_ (fun _ _ _ => ?_) | with_reducible refine Kwa_ck ?_ | with_reducible refine Kwa_ltm ?_ (fun _ _ => ?_) | with_reducible refine Kwa_some ?_ | with_reducible refine Kwa_bo (fun _ => ?_) | with_reducible refine Kwa_T ?_ (fun _ _ _ => ?_) | with_reducible refine Kwa_H ?_ (fun _ _ _ => ?_) (fun _ _ => ?_) | with_reducible refine Kwa_ltv (fun _ => ?_) | with_reducible refine Kwa_I ?_ (by decide) | with_reducible refine Kwa_A ?_ (by decide) | with_reducible refine Kwa_I ?_ (by unfold pq; omega) | with_reducible refine Kwa_A ?_ (by unfold pq; omega) | with_reducible refine Kwa_J ?_ | with_reducible refine Kwa_L ?_ | with_reducible refine Kwa_sw ?_)
theorem ywa_hm_Te_make {v0 : Int32} {v1 : Int32} (h : Kwac u0 u)  : KwaE u0 (hm_Te_make N u v0 v1) := by
  unfold hm_Te_make
  exact ywa_hb_Te_make_0 h
theorem ywa_hb_Te_cellsAt_49 {G : Unit} {t0 : Int32} (h : Kwac u0 u)  : KwaE u0 (hb_Te_cellsAt_49 N G u t0) := by
  unfold hb_Te_cellsAt_49
  repeat' (first | with_reducible assumption | with_reducible refine Kwa_br ?_ ?_ | with_reducible refine Kwa_bnd ?_ (fun _ _ _ => ?_) | with_reducible refine Kwa_ck ?_ | with_reducible refine Kwa_ltm ?_ (fun _ _ => ?_) | with_reducible refine Kwa_some ?_ | with_reducible refine Kwa_bo (fun _ => ?_) | with_reducible refine Kwa_T ?_ (fun _ _ _ => ?_) | with_reducible refine Kwa_H ?_ (fun _ _ _ => ?_) (fun _ _ => ?_) | with_reducible refine Kwa_ltv (fun _ => ?_) | with_reducible refine Kwa_I ?_ (by decide) | with_reducible refine Kwa_A ?_ (by decide) | with_reducible refine Kwa_I ?_ (by unfold pq; omega) | with_reducible refine Kwa_A ?_ (by unfold pq; omega) | with_reducible refine Kwa_J ?_ | with_reducible refine Kwa_L ?_ | with_reducible refine Kwa_sw ?_)
theorem ywa_hb_Te_cellsAt_0 {G : Unit} {v0 : Nat} {v1 : Int64} (h : Kwac u0 u)  : KwaE u0 (hb_Te_cellsAt_0 N G u v0 v1) := by
  unfold hb_Te_cellsAt_0
  repeat' (first | with_reducible assumption | with_reducible refine Kwa_br ?_ ?_ | with_reducible refine Kwa_bnd ?_ (fun _ _ _ => ?_) | with_reducible refine Kwa_ck ?_ | with_reducible refine Kwa_ltm ?_ (fun _ _ => ?_) | with_reducible refine Kwa_some ?_ | with_reducible refine Kwa_bo (fun _ => ?_) | with_reducible refine Kwa_T ?_ (fun _ _ _ => ?_) | with_reducible refine Kwa_H ?_ (fun _ _ _ => ?_) (fun _ _ => ?_) | with_reducible exact ywa_hb_Te_cellsAt_49 (by assumption) | with_reducible refine Kwa_ltv (fun _ => ?_) | with_reducible refine Kwa_I ?_ (by decide) | with_reducible refine Kwa_A ?_ (by decide) | with_reducible refine Kwa_I ?_ (by unfold pq; omega) | with_reducible refine Kwa_A ?_ (by unfold pq; omega) | with_reducible refine Kwa_J ?_ | with_reducible refine Kwa_L ?_ | with_reducible refine Kwa_sw ?_)
theorem ywa_hm_Te_cellsAt {v0 : Nat} {v1 : Int64} (h : Kwac u0 u)  : KwaE u0 (hm_Te_cellsAt N u v0 v1) := by
  unfold hm_Te_cellsAt
  exact ywa_hb_Te_cellsAt_0 h
theorem ywa_hb_Te_size_140 {G : (MS → Nat → Int32 → Int32 → Int32 → Option (MS × Int32)) × (MS → Nat → Int32 → Int32 → Int32 → Int32 → Int32 → Int32 → Option (MS × Int32))} {v4 : Int32} (h : Kwac u0 u) (hG0 : ∀ (u : MS) a0 a1 a2 a3, Kwac u0 u → KwaE u0 (G.1 u a0 a1 a2 a3)) (hG1 : ∀ (u : MS) a0 a1 a2 a3 a4 a5 a6, Kwac u0 u → KwaE u0 (G.2 u a0 a1 a2 a3 a4 a5 a6)) : KwaE u0 (hb_Te_size_140 N G u v4) := by
  unfold hb_Te_size_140
  repeat' (first | with_reducible assumption | with_reducible refine Kwa_br ?_ ?_ | with_reducible refine Kwa_bnd ?_ (fun _ _ _ => ?_) | with_reducible refine Kwa_ck ?_ | with_reducible refine Kwa_ltm ?_ (fun _ _ => ?_) | with_reducible refine Kwa_some ?_ | with_reducible refine Kwa_bo (fun _ => ?_) | with_reducible refine Kwa_T ?_ (fun _ _ _ => ?_) | with_reducible refine Kwa_H ?_ (fun _ _ _ => ?_) (fun _ _ => ?_) | with_reducible exact hG0 _ _ _ _ _ (by assumption) | with_reducible exact hG1 _ _ _ _ _ _ _ _ (by assumption) | with_reducible refine Kwa_ltv (fun _ => ?_) | with_reducible refine Kwa_I ?_ (by decide) | with_reducible refine Kwa_A ?_ (by decide) | with_reducible refine Kwa_I ?_ (by unfold pq; omega) | with_reducible refine Kwa_A ?_ (by unfold pq; omega) | with_reducible refine Kwa_J ?_ | with_reducible refine Kwa_L ?_ | with_reducible refine Kwa_sw ?_)
theorem ywa_hb_Te_size_134 {G : (MS → Nat → Int32 → Int32 → Int32 → Option (MS × Int32)) × (MS → Nat → Int32 → Int32 → Int32 → Int32 → Int32 → Int32 → Option (MS × Int32))} {v1 : Nat} {v4 : Int32} {v5 : Int32} {v6 : Int32} (h : Kwac u0 u) (hG0 : ∀ (u : MS) a0 a1 a2 a3, Kwac u0 u → KwaE u0 (G.1 u a0 a1 a2 a3)) (hG1 : ∀ (u : MS) a0 a1 a2 a3 a4 a5 a6, Kwac u0 u → KwaE u0 (G.2 u a0 a1 a2 a3 a4 a5 a6)) : KwaE u0 (hb_Te_size_134 N G u v1 v4 v5 v6) := by
  unfold hb_Te_size_134
  repeat' (first | with_reducible assumption | with_reducible refine Kwa_br ?_ ?_ | with_reducible refine Kwa_bnd ?_ (fun _ _ _ => ?_) | with_reducible refine Kwa_ck ?_ | with_reducible refine Kwa_ltm ?_ (fun _ _ => ?_) | with_reducible refine Kwa_some ?_ | with_reducible refine Kwa_bo (fun _ => ?_) | with_reducible refine Kwa_T ?_ (fun _ _ _ => ?_) | with_reducible refine Kwa_H ?_ (fun _ _ _ => ?_) (fun _ _ => ?_) | with_reducible exact hG0 _ _ _ _ _ (by assumption) | with_reducible exact hG1 _ _ _ _ _ _ _ _ (by assumption) | with_reducible refine Kwa_ltv (fun _ => ?_) | with_reducible refine Kwa_I ?_ (by decide) | with_reducible refine Kwa_A ?_ (by decide) | with_reducible refine Kwa_I ?_ (by unfold pq; omega) | with_reducible refine Kwa_A ?_ (by unfold pq; omega) | with_reducible refine Kwa_J ?_ | with_reducible refine Kwa_L ?_ | with_reducible refine Kwa_sw ?_)
theorem ywa_hb_Te_size_128 {G : (MS → Nat → Int32 → Int32 → Int32 → Option (MS × Int32)) × (MS → Nat → Int32 → Int32 → Int32 → Int32 → Int32 → Int32 → Option (MS × Int32))} {v1 : Nat} {v4 : Int32} {v5 : Int32} {v6 : Int32} {v7 : Int32} {v8 : Int32} {v9 : Int32} (h : Kwac u0 u) (hG0 : ∀ (u : MS) a0 a1 a2 a3, Kwac u0 u → KwaE u0 (G.1 u a0 a1 a2 a3)) (hG1 : ∀ (u : MS) a0 a1 a2 a3 a4 a5 a6, Kwac u0 u → KwaE u0 (G.2 u a0 a1 a2 a3 a4 a5 a6)) : KwaE u0 (hb_Te_size_128 N G u v1 v4 v5 v6 v7 v8 v9) := by
  unfold hb_Te_size_128
  repeat' (first | with_reducible assumption | with_reducible refine Kwa_br ?_ ?_ | with_reducible refine Kwa_bnd ?_ (fun _ _ _ => ?_) | with_reducible refine Kwa_ck ?_ | with_reducible refine Kwa_ltm ?_ (fun _ _ => ?_) | with_reducible refine Kwa_some ?_ | with_reducible refine Kwa_bo (fun _ => ?_) | with_reducible refine Kwa_T ?_ (fun _ _ _ => ?_) | with_reducible refine Kwa_H ?_ (fun _ _ _ => ?_) (fun _ _ => ?_) | with_reducible exact hG0 _ _ _ _ _ (by assumption) | with_reducible exact hG1 _ _ _ _ _ _ _ _ (by assumption) | with_reducible refine Kwa_ltv (fun _ => ?_) | with_reducible refine Kwa_I ?_ (by decide) | with_reducible refine Kwa_A ?_ (by decide) | with_reducible refine Kwa_I ?_ (by unfold pq; omega) | with_reducible refine Kwa_A ?_ (by unfold pq; omega) | with_reducible refine Kwa_J ?_ | with_reducible refine Kwa_L ?_ | with_reducible refine Kwa_sw ?_)
theorem ywa_hb_Te_size_111 {G : (MS → Nat → Int32 → Int32 → Int32 → Option (MS × Int32)) × (MS → Nat → Int32 → Int32 → Int32 → Int32 → Int32 → Int32 → Option (MS × Int32))} {v1 : Nat} {v4 : Int32} {v5 : Int32} {v6 : Int32} {v7 : Int32} {v8 : Int32} {v9 : Int32} (h : Kwac u0 u) (hG0 : ∀ (u : MS) a0 a1 a2 a3, Kwac u0 u → KwaE u0 (G.1 u a0 a1 a2 a3)) (hG1 : ∀ (u : MS) a0 a1 a2 a3 a4 a5 a6, Kwac u0 u → KwaE u0 (G.2 u a0 a1 a2 a3 a4 a5 a6)) : KwaE u0 (hb_Te_size_111 N G u v1 v4 v5 v6 v7 v8 v9) := by
  unfold hb_Te_size_111
  repeat' (first | with_reducible assumption | with_reducible refine Kwa_br ?_ ?_ | with_reducible refine Kwa_bnd ?_ (fun _ _ _ => ?_) | with_reducible refine Kwa_ck ?_ | with_reducible refine Kwa_ltm ?_ (fun _ _ => ?_) | with_reducible refine Kwa_some ?_ | with_reducible refine Kwa_bo (fun _ => ?_) | with_reducible refine Kwa_T ?_ (fun _ _ _ => ?_) | with_reducible refine Kwa_H ?_ (fun _ _ _ => ?_) (fun _ _ => ?_) | with_reducible exact ywa_hb_Te_size_128 (by assumption) hG0 hG1 | with_reducible exact hG0 _ _ _ _ _ (by assumption) | with_reducible exact hG1 _ _ _ _ _ _ _ _ (by assumption) | with_reducible refine Kwa_ltv (fun _ => ?_) | with_reducible refine Kwa_I ?_ (by decide) | with_reducible refine Kwa_A ?_ (by decide) | with_reducible refine Kwa_I ?_ (by unfold pq; omega) | with_reducible refine Kwa_A ?_ (by unfold pq; omega) | with_reducible refine Kwa_J ?_ | with_reducible refine Kwa_L ?_ | with_reducible refine Kwa_sw ?_)
theorem ywa_hb_Te_size_64 {G : (MS → Nat → Int32 → Int32 → Int32 → Option (MS × Int32)) × (MS → Nat → Int32 → Int32 → Int32 → Int32 → Int32 → Int32 → Option (MS × Int32))} {v1 : Nat} {v4 : Int32} {v5 : Int32} {v6 : Int32} {v7 : Int32} {v8 : Int32} {v9 : Int32} (h : Kwac u0 u) (hG0 : ∀ (u : MS) a0 a1 a2 a3, Kwac u0 u → KwaE u0 (G.1 u a0 a1 a2 a3)) (hG1 : ∀ (u : MS) a0 a1 a2 a3 a4 a5 a6, Kwac u0 u → KwaE u0 (G.2 u a0 a1 a2 a3 a4 a5 a6)) : KwaE u0 (hb_Te_size_64 N G u v1 v4 v5 v6 v7 v8 v9) := by
  unfold hb_Te_size_64
  repeat' (first | with_reducible assumption | with_reducible refine Kwa_br ?_ ?_ | with_reducible refine Kwa_bnd ?_ (fun _ _ _ => ?_) | with_reducible refine Kwa_ck ?_ | with_reducible refine Kwa_ltm ?_ (fun _ _ => ?_) | with_reducible refine Kwa_some ?_ | with_reducible refine Kwa_bo (fun _ => ?_) | with_reducible refine Kwa_T ?_ (fun _ _ _ => ?_) | with_reducible refine Kwa_H ?_ (fun _ _ _ => ?_) (fun _ _ => ?_) | with_reducible exact ywa_hb_Te_size_111 (by assumption) hG0 hG1 | with_reducible exact ywa_hb_Te_size_128 (by assumption) hG0 hG1 | with_reducible exact ywa_hb_Te_size_134 (by assumption) hG0 hG1 | with_reducible exact hG0 _ _ _ _ _ (by assumption) | with_reducible exact hG1 _ _ _ _ _ _ _ _ (by assumption) | with_reducible refine Kwa_ltv (fun _ => ?_) | with_reducible refine Kwa_I ?_ (by decide) | with_reducible refine Kwa_A ?_ (by decide) | with_reducible refine Kwa_I ?_ (by unfold pq; omega) | with_reducible refine Kwa_A ?_ (by unfold pq; omega) | with_reducible refine Kwa_J ?_ | with_reducible refine Kwa_L ?_ | with_reducible refine Kwa_sw ?_)
theorem ywa_hb_Te_size_16 {G : (MS → Nat → Int32 → Int32 → Int32 → Option (MS × Int32)) × (MS → Nat → Int32 → Int32 → Int32 → Int32 → Int32 → Int32 → Option (MS × Int32))} {v1 : Nat} {v4 : Int32} {v5 : Int32} {v6 : Int32} (h : Kwac u0 u) (hG0 : ∀ (u : MS) a0 a1 a2 a3, Kwac u0 u → KwaE u0 (G.1 u a0 a1 a2 a3)) (hG1 : ∀ (u : MS) a0 a1 a2 a3 a4 a5 a6, Kwac u0 u → KwaE u0 (G.2 u a0 a1 a2 a3 a4 a5 a6)) : KwaE u0 (hb_Te_size_16 N G u v1 v4 v5 v6) := by
  unfold hb_Te_size_16
  repeat' (first | with_reducible assumption | with_reducible refine Kwa_br ?_ ?_ | with_reducible refine Kwa_bnd ?_ (fun _ _ _ => ?_) | with_reducible refine Kwa_ck ?_ | with_reducible refine Kwa_ltm ?_ (fun _ _ => ?_) | with_reducible refine Kwa_some ?_ | with_reducible refine Kwa_bo (fun _ => ?_) | with_reducible refine Kwa_T ?_ (fun _ _ _ => ?_) | with_reducible refine Kwa_H ?_ (fun _ _ _ => ?_) (fun _ _ => ?_) | with_reducible exact ywa_hb_Te_size_140 (by assumption) hG0 hG1 | with_reducible exact ywa_hm_Te_cellsAt (by assumption) | with_reducible exact hG0 _ _ _ _ _ (by assumption) | with_reducible exact hG1 _ _ _ _ _ _ _ _ (by assumption) | with_reducible refine Kwa_ltv (fun _ => ?_) | with_reducible refine Kwa_I ?_ (by decide) | with_reducible refine Kwa_A ?_ (by decide) | with_reducible refine Kwa_I ?_ (by unfold pq; omega) | with_reducible refine Kwa_A ?_ (by unfold pq; omega) | with_reducible refine Kwa_J ?_ | with_reducible refine Kwa_L ?_ | with_reducible refine Kwa_sw ?_)
theorem ywa_hb_Te_size_0 {G : (MS → Nat → Int32 → Int32 → Int32 → Option (MS × Int32)) × (MS → Nat → Int32 → Int32 → Int32 → Int32 → Int32 → Int32 → Option (MS × Int32))} {v1 : Nat} {v2 : Int64} (h : Kwac u0 u) (hG0 : ∀ (u : MS) a0 a1 a2 a3, Kwac u0 u → KwaE u0 (G.1 u a0 a1 a2 a3)) (hG1 : ∀ (u : MS) a0 a1 a2 a3 a4 a5 a6, Kwac u0 u → KwaE u0 (G.2 u a0 a1 a2 a3 a4 a5 a6)) : KwaE u0 (hb_Te_size_0 N G u v1 v2) := by
  unfold hb_Te_size_0
  repeat' (first | with_reducible assumption | with_reducible refine Kwa_br ?_ ?_ | with_reducible refine Kwa_bnd ?_ (fun _ _ _ => ?_) | with_reducible refine Kwa_ck ?_ | with_reducible refine Kwa_ltm ?_ (fun _ _ => ?_) | with_reducible refine Kwa_some ?_ | with_reducible refine Kwa_bo (fun _ => ?_) | with_reducible refine Kwa_T ?_ (fun _ _ _ => ?_) | with_reducible refine Kwa_H ?_ (fun _ _ _ => ?_) (fun _ _ => ?_) | with_reducible exact hG0 _ _ _ _ _ (by assumption) | with_reducible exact hG1 _ _ _ _ _ _ _ _ (by assumption) | with_reducible refine Kwa_ltv (fun _ => ?_) | with_reducible refine Kwa_I ?_ (by decide) | with_reducible refine Kwa_A ?_ (by decide) | with_reducible refine Kwa_I ?_ (by unfold pq; omega) | with_reducible refine Kwa_A ?_ (by unfold pq; omega) | with_reducible refine Kwa_J ?_ | with_reducible refine Kwa_L ?_ | with_reducible refine Kwa_sw ?_)
theorem ywa_hg_Te_size  (n : Nat) : (∀ (u : MS) a0 a1 a2 a3, Kwac u0 u → KwaE u0 ((hg_Te_size N n).1 u a0 a1 a2 a3)) ∧ (∀ (u : MS) a0 a1 a2 a3 a4 a5 a6, Kwac u0 u → KwaE u0 ((hg_Te_size N n).2 u a0 a1 a2 a3 a4 a5 a6)) := by
  induction n with
  | zero => exact ⟨fun _ _ _ _ _ _ => Kwa_none, fun _ _ _ _ _ _ _ _ _ => Kwa_none⟩
  | succ n ih => exact ⟨fun _ _ _ _ _ h => ywa_hb_Te_size_16 (N := N) h ih.1 ih.2, fun _ _ _ _ _ _ _ _ h => ywa_hb_Te_size_64 (N := N) h ih.1 ih.2⟩
theorem ywa_hm_Te_size {v1 : Nat} {v2 : Int64} (h : Kwac u0 u)  : KwaE u0 (hm_Te_size N u v1 v2) := by
  unfold hm_Te_size
  exact ywa_hb_Te_size_0 h ((ywa_hg_Te_size N).1) ((ywa_hg_Te_size N).2)
theorem ywa_hb_Wl_endsWith_17 {G : Unit} (h : Kwac u0 u)  : KwaE u0 (hb_Wl_endsWith_17 N G u) := by
  unfold hb_Wl_endsWith_17
  repeat' (first | with_reducible assumption | with_reducible refine Kwa_br ?_ ?_ | with_reducible refine Kwa_bnd ?_ (fun _ _ _ => ?_) | with_reducible refine Kwa_ck ?_ | with_reducible refine Kwa_ltm ?_ (fun _ _ => ?_) | with_reducible refine Kwa_some ?_ | with_reducible refine Kwa_bo (fun _ => ?_) | with_reducible refine Kwa_T ?_ (fun _ _ _ => ?_) | with_reducible refine Kwa_H ?_ (fun _ _ _ => ?_) (fun _ _ => ?_) | with_reducible refine Kwa_ltv (fun _ => ?_) | with_reducible refine Kwa_I ?_ (by decide) | with_reducible refine Kwa_A ?_ (by decide) | with_reducible refine Kwa_I ?_ (by unfold pq; omega) | with_reducible refine Kwa_A ?_ (by unfold pq; omega) | with_reducible refine Kwa_J ?_ | with_reducible refine Kwa_L ?_ | with_reducible refine Kwa_sw ?_)
theorem ywa_hb_Wl_endsWith_0 {G : Unit} {v1 : Nat} {v2 : Int64} {v4 : Nat} (h : Kwac u0 u)  : KwaE u0 (hb_Wl_endsWith_0 N G u v1 v2 v4) := by
  unfold hb_Wl_endsWith_0
  repeat' (first | with_reducible assumption | with_reducible refine Kwa_br ?_ ?_ | with_reducible refine Kwa_bnd ?_ (fun _ _ _ => ?_) | with_reducible refine Kwa_ck ?_ | with_reducible refine Kwa_ltm ?_ (fun _ _ => ?_) | with_reducible refine Kwa_some ?_ | with_reducible refine Kwa_bo (fun _ => ?_) | with_reducible refine Kwa_T ?_ (fun _ _ _ => ?_) | with_reducible refine Kwa_H ?_ (fun _ _ _ => ?_) (fun _ _ => ?_) | with_reducible exact ywa_hb_Wl_endsWith_17 (by assumption) | with_reducible refine Kwa_ltv (fun _ => ?_) | with_reducible refine Kwa_I ?_ (by decide) | with_reducible refine Kwa_A ?_ (by decide) | with_reducible refine Kwa_I ?_ (by unfold pq; omega) | with_reducible refine Kwa_A ?_ (by unfold pq; omega) | with_reducible refine Kwa_J ?_ | with_reducible refine Kwa_L ?_ | with_reducible refine Kwa_sw ?_)
theorem ywa_hm_Wl_endsWith {v1 : Nat} {v2 : Int64} {v4 : Nat} (h : Kwac u0 u)  : KwaE u0 (hm_Wl_endsWith N u v1 v2 v4) := by
  unfold hm_Wl_endsWith
  exact ywa_hb_Wl_endsWith_0 h
theorem ywa_hb_Wl_endsBy_0 {G : Unit} {v1 : Nat} {v2 : Int32} (h : Kwac u0 u)  : KwaE u0 (hb_Wl_endsBy_0 N G u v1 v2) := by
  unfold hb_Wl_endsBy_0
  repeat' (first | with_reducible assumption | with_reducible refine Kwa_br ?_ ?_ | with_reducible refine Kwa_bnd ?_ (fun _ _ _ => ?_) | with_reducible refine Kwa_ck ?_ | with_reducible refine Kwa_ltm ?_ (fun _ _ => ?_) | with_reducible refine Kwa_some ?_ | with_reducible refine Kwa_bo (fun _ => ?_) | with_reducible refine Kwa_T ?_ (fun _ _ _ => ?_) | with_reducible refine Kwa_H ?_ (fun _ _ _ => ?_) (fun _ _ => ?_) | with_reducible exact ywa_hm_Wl_endsWith (by assumption) | with_reducible exact ywa_hm_Te_make (by assumption) | with_reducible refine Kwa_ltv (fun _ => ?_) | with_reducible refine Kwa_I ?_ (by decide) | with_reducible refine Kwa_A ?_ (by decide) | with_reducible refine Kwa_I ?_ (by unfold pq; omega) | with_reducible refine Kwa_A ?_ (by unfold pq; omega) | with_reducible refine Kwa_J ?_ | with_reducible refine Kwa_L ?_ | with_reducible refine Kwa_sw ?_)
theorem ywa_hm_Wl_endsBy {v1 : Nat} {v2 : Int32} (h : Kwac u0 u)  : KwaE u0 (hm_Wl_endsBy N u v1 v2) := by
  unfold hm_Wl_endsBy
  exact ywa_hb_Wl_endsBy_0 h
theorem ywa_hb_Wl_keepWatch_0 {G : Unit} {v1 : Int32} {v2 : Int32} (h : Kwac u0 u)  : KwaE u0 (hb_Wl_keepWatch_0 N G u v1 v2) := by
  unfold hb_Wl_keepWatch_0
  repeat' (first | with_reducible assumption | with_reducible refine Kwa_br ?_ ?_ | with_reducible refine Kwa_bnd ?_ (fun _ _ _ => ?_) | with_reducible refine Kwa_ck ?_ | with_reducible refine Kwa_ltm ?_ (fun _ _ => ?_) | with_reducible refine Kwa_some ?_ | with_reducible refine Kwa_bo (fun _ => ?_) | with_reducible refine Kwa_T ?_ (fun _ _ _ => ?_) | with_reducible refine Kwa_H ?_ (fun _ _ _ => ?_) (fun _ _ => ?_) | with_reducible refine Kwa_ltv (fun _ => ?_) | with_reducible refine Kwa_I ?_ (by decide) | with_reducible refine Kwa_A ?_ (by decide) | with_reducible refine Kwa_I ?_ (by unfold pq; omega) | with_reducible refine Kwa_A ?_ (by unfold pq; omega) | with_reducible refine Kwa_J ?_ | with_reducible refine Kwa_L ?_ | with_reducible refine Kwa_sw ?_)
theorem ywa_hm_Wl_keepWatch {v1 : Int32} {v2 : Int32} (h : Kwac u0 u)  : KwaE u0 (hm_Wl_keepWatch N u v1 v2) := by
  unfold hm_Wl_keepWatch
  exact ywa_hb_Wl_keepWatch_0 h
theorem ywa_hb_Pr_comes_29 {G : Unit} (h : Kwac u0 u)  : KwaE u0 (hb_Pr_comes_29 N G u) := by
  unfold hb_Pr_comes_29
  repeat' (first | with_reducible assumption | with_reducible refine Kwa_br ?_ ?_ | with_reducible refine Kwa_bnd ?_ (fun _ _ _ => ?_) | with_reducible refine Kwa_ck ?_ | with_reducible refine Kwa_ltm ?_ (fun _ _ => ?_) | with_reducible refine Kwa_some ?_ | with_reducible refine Kwa_bo (fun _ => ?_) | with_reducible refine Kwa_T ?_ (fun _ _ _ => ?_) | with_reducible refine Kwa_H ?_ (fun _ _ _ => ?_) (fun _ _ => ?_) | with_reducible refine Kwa_ltv (fun _ => ?_) | with_reducible refine Kwa_I ?_ (by decide) | with_reducible refine Kwa_A ?_ (by decide) | with_reducible refine Kwa_I ?_ (by unfold pq; omega) | with_reducible refine Kwa_A ?_ (by unfold pq; omega) | with_reducible refine Kwa_J ?_ | with_reducible refine Kwa_L ?_ | with_reducible refine Kwa_sw ?_)
theorem ywa_hb_Pr_comes_0 {G : Unit} {v0 : Nat} {v1 : Int64} (h : Kwac u0 u)  : KwaE u0 (hb_Pr_comes_0 N G u v0 v1) := by
  unfold hb_Pr_comes_0
  repeat' (first | with_reducible assumption | with_reducible refine Kwa_br ?_ ?_ | with_reducible refine Kwa_bnd ?_ (fun _ _ _ => ?_) | with_reducible refine Kwa_ck ?_ | with_reducible refine Kwa_ltm ?_ (fun _ _ => ?_) | with_reducible refine Kwa_some ?_ | with_reducible refine Kwa_bo (fun _ => ?_) | with_reducible refine Kwa_T ?_ (fun _ _ _ => ?_) | with_reducible refine Kwa_H ?_ (fun _ _ _ => ?_) (fun _ _ => ?_) | with_reducible exact ywa_hb_Pr_comes_29 (by assumption) | with_reducible refine Kwa_ltv (fun _ => ?_) | with_reducible refine Kwa_I ?_ (by decide) | with_reducible refine Kwa_A ?_ (by decide) | with_reducible refine Kwa_I ?_ (by unfold pq; omega) | with_reducible refine Kwa_A ?_ (by unfold pq; omega) | with_reducible refine Kwa_J ?_ | with_reducible refine Kwa_L ?_ | with_reducible refine Kwa_sw ?_)
theorem ywa_hm_Pr_comes {v0 : Nat} {v1 : Int64} (h : Kwac u0 u)  : KwaE u0 (hm_Pr_comes N u v0 v1) := by
  unfold hm_Pr_comes
  exact ywa_hb_Pr_comes_0 h
theorem ywa_hb_Pr_seekLink_2 {G : (MS → Nat → Int32 → Int32 → Option (MS × Int32))} {v0 : Nat} {v1 : Int32} {v2 : Int32} (h : Kwac u0 u) (hG0 : ∀ (u : MS) a0 a1 a2, Kwac u0 u → KwaE u0 (G u a0 a1 a2)) : KwaE u0 (hb_Pr_seekLink_2 N G u v0 v1 v2) := by
  unfold hb_Pr_seekLink_2
  repeat' (first | with_reducible assumption | with_reducible refine Kwa_br ?_ ?_ | with_reducible refine Kwa_bnd ?_ (fun _ _ _ => ?_) | with_reducible refine Kwa_ck ?_ | with_reducible refine Kwa_ltm ?_ (fun _ _ => ?_) | with_reducible refine Kwa_some ?_ | with_reducible refine Kwa_bo (fun _ => ?_) | with_reducible refine Kwa_T ?_ (fun _ _ _ => ?_) | with_reducible refine Kwa_H ?_ (fun _ _ _ => ?_) (fun _ _ => ?_) | with_reducible exact hG0 _ _ _ _ (by assumption) | with_reducible refine Kwa_ltv (fun _ => ?_) | with_reducible refine Kwa_I ?_ (by decide) | with_reducible refine Kwa_A ?_ (by decide) | with_reducible refine Kwa_I ?_ (by unfold pq; omega) | with_reducible refine Kwa_A ?_ (by unfold pq; omega) | with_reducible refine Kwa_J ?_ | with_reducible refine Kwa_L ?_ | with_reducible refine Kwa_sw ?_)
theorem ywa_hb_Pr_seekLink_0 {G : (MS → Nat → Int32 → Int32 → Option (MS × Int32))} {v0 : Nat} {v1 : Int32} (h : Kwac u0 u) (hG0 : ∀ (u : MS) a0 a1 a2, Kwac u0 u → KwaE u0 (G u a0 a1 a2)) : KwaE u0 (hb_Pr_seekLink_0 N G u v0 v1) := by
  unfold hb_Pr_seekLink_0
  repeat' (first | with_reducible assumption | with_reducible refine Kwa_br ?_ ?_ | with_reducible refine Kwa_bnd ?_ (fun _ _ _ => ?_) | with_reducible refine Kwa_ck ?_ | with_reducible refine Kwa_ltm ?_ (fun _ _ => ?_) | with_reducible refine Kwa_some ?_ | with_reducible refine Kwa_bo (fun _ => ?_) | with_reducible refine Kwa_T ?_ (fun _ _ _ => ?_) | with_reducible refine Kwa_H ?_ (fun _ _ _ => ?_) (fun _ _ => ?_) | with_reducible exact hG0 _ _ _ _ (by assumption) | with_reducible refine Kwa_ltv (fun _ => ?_) | with_reducible refine Kwa_I ?_ (by decide) | with_reducible refine Kwa_A ?_ (by decide) | with_reducible refine Kwa_I ?_ (by unfold pq; omega) | with_reducible refine Kwa_A ?_ (by unfold pq; omega) | with_reducible refine Kwa_J ?_ | with_reducible refine Kwa_L ?_ | with_reducible refine Kwa_sw ?_)
theorem ywa_hg_Pr_seekLink  (n : Nat) : (∀ (u : MS) a0 a1 a2, Kwac u0 u → KwaE u0 ((hg_Pr_seekLink N n) u a0 a1 a2)) := by
  induction n with
  | zero => exact fun _ _ _ _ _ => Kwa_none
  | succ n ih => exact fun _ _ _ _ h => ywa_hb_Pr_seekLink_2 (N := N) h ih
theorem ywa_hm_Pr_seekLink {v0 : Nat} {v1 : Int32} (h : Kwac u0 u)  : KwaE u0 (hm_Pr_seekLink N u v0 v1) := by
  unfold hm_Pr_seekLink
  exact ywa_hb_Pr_seekLink_0 h ((ywa_hg_Pr_seekLink N))
theorem ywa_hb_Wl_find_22 {G : Unit} {t0 : Option Nat} (h : Kwac u0 u)  : KwaE u0 (hb_Wl_find_22 N G u t0) := by
  unfold hb_Wl_find_22
  repeat' (first | with_reducible assumption | with_reducible refine Kwa_br ?_ ?_ | with_reducible refine Kwa_bnd ?_ (fun _ _ _ => ?_) | with_reducible refine Kwa_ck ?_ | with_reducible refine Kwa_ltm ?_ (fun _ _ => ?_) | with_reducible refine Kwa_some ?_ | with_reducible refine Kwa_bo (fun _ => ?_) | with_reducible refine Kwa_T ?_ (fun _ _ _ => ?_) | with_reducible refine Kwa_H ?_ (fun _ _ _ => ?_) (fun _ _ => ?_) | with_reducible refine Kwa_ltv (fun _ => ?_) | with_reducible refine Kwa_I ?_ (by decide) | with_reducible refine Kwa_A ?_ (by decide) | with_reducible refine Kwa_I ?_ (by unfold pq; omega) | with_reducible refine Kwa_A ?_ (by unfold pq; omega) | with_reducible refine Kwa_J ?_ | with_reducible refine Kwa_L ?_ | with_reducible refine Kwa_sw ?_)
theorem ywa_hb_Wl_find_12 {G : Unit} (h : Kwac u0 u)  : KwaE u0 (hb_Wl_find_12 N G u) := by
  unfold hb_Wl_find_12
  repeat' (first | with_reducible assumption | with_reducible refine Kwa_br ?_ ?_ | with_reducible refine Kwa_bnd ?_ (fun _ _ _ => ?_) | with_reducible refine Kwa_ck ?_ | with_reducible refine Kwa_ltm ?_ (fun _ _ => ?_) | with_reducible refine Kwa_some ?_ | with_reducible refine Kwa_bo (fun _ => ?_) | with_reducible refine Kwa_T ?_ (fun _ _ _ => ?_) | with_reducible refine Kwa_H ?_ (fun _ _ _ => ?_) (fun _ _ => ?_) | with_reducible exact ywa_hb_Wl_find_22 (by assumption) | with_reducible refine Kwa_ltv (fun _ => ?_) | with_reducible refine Kwa_I ?_ (by decide) | with_reducible refine Kwa_A ?_ (by decide) | with_reducible refine Kwa_I ?_ (by unfold pq; omega) | with_reducible refine Kwa_A ?_ (by unfold pq; omega) | with_reducible refine Kwa_J ?_ | with_reducible refine Kwa_L ?_ | with_reducible refine Kwa_sw ?_)
theorem ywa_hb_Wl_find_0 {G : Unit} {v1 : Int32} (h : Kwac u0 u)  : KwaE u0 (hb_Wl_find_0 N G u v1) := by
  unfold hb_Wl_find_0
  repeat' (first | with_reducible assumption | with_reducible refine Kwa_br ?_ ?_ | with_reducible refine Kwa_bnd ?_ (fun _ _ _ => ?_) | with_reducible refine Kwa_ck ?_ | with_reducible refine Kwa_ltm ?_ (fun _ _ => ?_) | with_reducible refine Kwa_some ?_ | with_reducible refine Kwa_bo (fun _ => ?_) | with_reducible refine Kwa_T ?_ (fun _ _ _ => ?_) | with_reducible refine Kwa_H ?_ (fun _ _ _ => ?_) (fun _ _ => ?_) | with_reducible exact ywa_hb_Wl_find_12 (by assumption) | with_reducible exact ywa_hb_Wl_find_22 (by assumption) | with_reducible refine Kwa_ltv (fun _ => ?_) | with_reducible refine Kwa_I ?_ (by decide) | with_reducible refine Kwa_A ?_ (by decide) | with_reducible refine Kwa_I ?_ (by unfold pq; omega) | with_reducible refine Kwa_A ?_ (by unfold pq; omega) | with_reducible refine Kwa_J ?_ | with_reducible refine Kwa_L ?_ | with_reducible refine Kwa_sw ?_)
theorem ywa_hm_Wl_find {v1 : Int32} (h : Kwac u0 u)  : KwaE u0 (hm_Wl_find N u v1) := by
  unfold hm_Wl_find
  exact ywa_hb_Wl_find_0 h
theorem ywa_hb_Pr_clearHeap_250 {G : (MS → Nat → Int32 → Int32 → Option (MS × Unit)) × (MS → Nat → Int32 → Int32 → Nat → Int32 → Int32 → Option (MS × Unit))} {v0 : Nat} {v1 : Int32} {v2 : Int32} {v3 : Nat} {v4 : Int32} {v5 : Int32} (h : Kwac u0 u) (hG0 : ∀ (u : MS) a0 a1 a2, Kwac u0 u → KwaE u0 (G.1 u a0 a1 a2)) (hG1 : ∀ (u : MS) a0 a1 a2 a3 a4 a5, Kwac u0 u → KwaE u0 (G.2 u a0 a1 a2 a3 a4 a5)) : KwaE u0 (hb_Pr_clearHeap_250 N G u v0 v1 v2 v3 v4 v5) := by
  unfold hb_Pr_clearHeap_250
  repeat' (first | with_reducible assumption | with_reducible refine Kwa_br ?_ ?_ | with_reducible refine Kwa_bnd ?_ (fun _ _ _ => ?_) | with_reducible refine Kwa_ck ?_ | with_reducible refine Kwa_ltm ?_ (fun _ _ => ?_) | with_reducible refine Kwa_some ?_ | with_reducible refine Kwa_bo (fun _ => ?_) | with_reducible refine Kwa_T ?_ (fun _ _ _ => ?_) | with_reducible refine Kwa_H ?_ (fun _ _ _ => ?_) (fun _ _ => ?_) | with_reducible exact hG0 _ _ _ _ (by assumption) | with_reducible exact hG1 _ _ _ _ _ _ _ (by assumption) | with_reducible refine Kwa_ltv (fun _ => ?_) | with_reducible refine Kwa_I ?_ (by decide) | with_reducible refine Kwa_A ?_ (by decide) | with_reducible refine Kwa_I ?_ (by unfold pq; omega) | with_reducible refine Kwa_A ?_ (by unfold pq; omega) | with_reducible refine Kwa_J ?_ | with_reducible refine Kwa_L ?_ | with_reducible refine Kwa_sw ?_)
theorem ywa_hb_Pr_clearHeap_230 {G : (MS → Nat → Int32 → Int32 → Option (MS × Unit)) × (MS → Nat → Int32 → Int32 → Nat → Int32 → Int32 → Option (MS × Unit))} {v0 : Nat} {v1 : Int32} {v2 : Int32} {v3 : Nat} {v4 : Int32} {v5 : Int32} {v6 : Int32} {v7 : Int32} (h : Kwac u0 u) (hG0 : ∀ (u : MS) a0 a1 a2, Kwac u0 u → KwaE u0 (G.1 u a0 a1 a2)) (hG1 : ∀ (u : MS) a0 a1 a2 a3 a4 a5, Kwac u0 u → KwaE u0 (G.2 u a0 a1 a2 a3 a4 a5)) : KwaE u0 (hb_Pr_clearHeap_230 N G u v0 v1 v2 v3 v4 v5 v6 v7) := by
  unfold hb_Pr_clearHeap_230
  repeat' (first | with_reducible assumption | with_reducible refine Kwa_br ?_ ?_ | with_reducible refine Kwa_bnd ?_ (fun _ _ _ => ?_) | with_reducible refine Kwa_ck ?_ | with_reducible refine Kwa_ltm ?_ (fun _ _ => ?_) | with_reducible refine Kwa_some ?_ | with_reducible refine Kwa_bo (fun _ => ?_) | with_reducible refine Kwa_T ?_ (fun _ _ _ => ?_) | with_reducible refine Kwa_H ?_ (fun _ _ _ => ?_) (fun _ _ => ?_) | with_reducible exact ywa_hb_Pr_clearHeap_250 (by assumption) hG0 hG1 | with_reducible exact hG0 _ _ _ _ (by assumption) | with_reducible exact hG1 _ _ _ _ _ _ _ (by assumption) | with_reducible refine Kwa_ltv (fun _ => ?_) | with_reducible refine Kwa_I ?_ (by decide) | with_reducible refine Kwa_A ?_ (by decide) | with_reducible refine Kwa_I ?_ (by unfold pq; omega) | with_reducible refine Kwa_A ?_ (by unfold pq; omega) | with_reducible refine Kwa_J ?_ | with_reducible refine Kwa_L ?_ | with_reducible refine Kwa_sw ?_)
theorem ywa_hb_Pr_clearHeap_160 {G : (MS → Nat → Int32 → Int32 → Option (MS × Unit)) × (MS → Nat → Int32 → Int32 → Nat → Int32 → Int32 → Option (MS × Unit))} {v0 : Nat} {v1 : Int32} {v2 : Int32} {v3 : Nat} {v4 : Int32} {v5 : Int32} {v6 : Int32} (h : Kwac u0 u) (hG0 : ∀ (u : MS) a0 a1 a2, Kwac u0 u → KwaE u0 (G.1 u a0 a1 a2)) (hG1 : ∀ (u : MS) a0 a1 a2 a3 a4 a5, Kwac u0 u → KwaE u0 (G.2 u a0 a1 a2 a3 a4 a5)) : KwaE u0 (hb_Pr_clearHeap_160 N G u v0 v1 v2 v3 v4 v5 v6) := by
  unfold hb_Pr_clearHeap_160
  repeat' (first | with_reducible assumption | with_reducible refine Kwa_br ?_ ?_ | with_reducible refine Kwa_bnd ?_ (fun _ _ _ => ?_) | with_reducible refine Kwa_ck ?_ | with_reducible refine Kwa_ltm ?_ (fun _ _ => ?_) | with_reducible refine Kwa_some ?_ | with_reducible refine Kwa_bo (fun _ => ?_) | with_reducible refine Kwa_T ?_ (fun _ _ _ => ?_) | with_reducible refine Kwa_H ?_ (fun _ _ _ => ?_) (fun _ _ => ?_) | with_reducible exact ywa_hb_Pr_clearHeap_230 (by assumption) hG0 hG1 | with_reducible exact ywa_hm_Te_cellsAt (by assumption) | with_reducible exact hG0 _ _ _ _ (by assumption) | with_reducible exact hG1 _ _ _ _ _ _ _ (by assumption) | with_reducible refine Kwa_ltv (fun _ => ?_) | with_reducible refine Kwa_I ?_ (by decide) | with_reducible refine Kwa_A ?_ (by decide) | with_reducible refine Kwa_I ?_ (by unfold pq; omega) | with_reducible refine Kwa_A ?_ (by unfold pq; omega) | with_reducible refine Kwa_J ?_ | with_reducible refine Kwa_L ?_ | with_reducible refine Kwa_sw ?_)
theorem ywa_hb_Pr_clearHeap_125 {G : (MS → Nat → Int32 → Int32 → Option (MS × Unit)) × (MS → Nat → Int32 → Int32 → Nat → Int32 → Int32 → Option (MS × Unit))} {v0 : Nat} {v1 : Int32} {v2 : Int32} {v3 : Nat} {v4 : Int32} {v5 : Int32} {t0 : Int32} {t1 : Int32} (h : Kwac u0 u) (hG0 : ∀ (u : MS) a0 a1 a2, Kwac u0 u → KwaE u0 (G.1 u a0 a1 a2)) (hG1 : ∀ (u : MS) a0 a1 a2 a3 a4 a5, Kwac u0 u → KwaE u0 (G.2 u a0 a1 a2 a3 a4 a5)) : KwaE u0 (hb_Pr_clearHeap_125 N G u v0 v1 v2 v3 v4 v5 t0 t1) := by
  unfold hb_Pr_clearHeap_125
  repeat' (first | with_reducible assumption | with_reducible refine Kwa_br ?_ ?_ | with_reducible refine Kwa_bnd ?_ (fun _ _ _ => ?_) | with_reducible refine Kwa_ck ?_ | with_reducible refine Kwa_ltm ?_ (fun _ _ => ?_) | with_reducible refine Kwa_some ?_ | with_reducible refine Kwa_bo (fun _ => ?_) | with_reducible refine Kwa_T ?_ (fun _ _ _ => ?_) | with_reducible refine Kwa_H ?_ (fun _ _ _ => ?_) (fun _ _ => ?_) | with_reducible exact ywa_hb_Pr_clearHeap_160 (by assumption) hG0 hG1 | with_reducible exact ywa_hb_Pr_clearHeap_250 (by assumption) hG0 hG1 | with_reducible exact hG0 _ _ _ _ (by assumption) | with_reducible exact hG1 _ _ _ _ _ _ _ (by assumption) | with_reducible refine Kwa_ltv (fun _ => ?_) | with_reducible refine Kwa_I ?_ (by decide) | with_reducible refine Kwa_A ?_ (by decide) | with_reducible refine Kwa_I ?_ (by unfold pq; omega) | with_reducible refine Kwa_A ?_ (by unfold pq; omega) | with_reducible refine Kwa_J ?_ | with_reducible refine Kwa_L ?_ | with_reducible refine Kwa_sw ?_)
theorem ywa_hb_Pr_clearHeap_112 {G : (MS → Nat → Int32 → Int32 → Option (MS × Unit)) × (MS → Nat → Int32 → Int32 → Nat → Int32 → Int32 → Option (MS × Unit))} {v0 : Nat} {v1 : Int32} {v2 : Int32} {v3 : Nat} {v4 : Int32} {v5 : Int32} (h : Kwac u0 u) (hG0 : ∀ (u : MS) a0 a1 a2, Kwac u0 u → KwaE u0 (G.1 u a0 a1 a2)) (hG1 : ∀ (u : MS) a0 a1 a2 a3 a4 a5, Kwac u0 u → KwaE u0 (G.2 u a0 a1 a2 a3 a4 a5)) : KwaE u0 (hb_Pr_clearHeap_112 N G u v0 v1 v2 v3 v4 v5) := by
  unfold hb_Pr_clearHeap_112
  repeat' (first | with_reducible assumption | with_reducible refine Kwa_br ?_ ?_ | with_reducible refine Kwa_bnd ?_ (fun _ _ _ => ?_) | with_reducible refine Kwa_ck ?_ | with_reducible refine Kwa_ltm ?_ (fun _ _ => ?_) | with_reducible refine Kwa_some ?_ | with_reducible refine Kwa_bo (fun _ => ?_) | with_reducible refine Kwa_T ?_ (fun _ _ _ => ?_) | with_reducible refine Kwa_H ?_ (fun _ _ _ => ?_) (fun _ _ => ?_) | with_reducible exact ywa_hb_Pr_clearHeap_125 (by assumption) hG0 hG1 | with_reducible exact hG0 _ _ _ _ (by assumption) | with_reducible exact hG1 _ _ _ _ _ _ _ (by assumption) | with_reducible refine Kwa_ltv (fun _ => ?_) | with_reducible refine Kwa_I ?_ (by decide) | with_reducible refine Kwa_A ?_ (by decide) | with_reducible refine Kwa_I ?_ (by unfold pq; omega) | with_reducible refine Kwa_A ?_ (by unfold pq; omega) | with_reducible refine Kwa_J ?_ | with_reducible refine Kwa_L ?_ | with_reducible refine Kwa_sw ?_)
theorem ywa_hb_Pr_clearHeap_107 {G : (MS → Nat → Int32 → Int32 → Option (MS × Unit)) × (MS → Nat → Int32 → Int32 → Nat → Int32 → Int32 → Option (MS × Unit))} {v0 : Nat} {v1 : Int32} {v2 : Int32} {v3 : Nat} {t0 : Int32} (h : Kwac u0 u) (hG0 : ∀ (u : MS) a0 a1 a2, Kwac u0 u → KwaE u0 (G.1 u a0 a1 a2)) (hG1 : ∀ (u : MS) a0 a1 a2 a3 a4 a5, Kwac u0 u → KwaE u0 (G.2 u a0 a1 a2 a3 a4 a5)) : KwaE u0 (hb_Pr_clearHeap_107 N G u v0 v1 v2 v3 t0) := by
  unfold hb_Pr_clearHeap_107
  repeat' (first | with_reducible assumption | with_reducible refine Kwa_br ?_ ?_ | with_reducible refine Kwa_bnd ?_ (fun _ _ _ => ?_) | with_reducible refine Kwa_ck ?_ | with_reducible refine Kwa_ltm ?_ (fun _ _ => ?_) | with_reducible refine Kwa_some ?_ | with_reducible refine Kwa_bo (fun _ => ?_) | with_reducible refine Kwa_T ?_ (fun _ _ _ => ?_) | with_reducible refine Kwa_H ?_ (fun _ _ _ => ?_) (fun _ _ => ?_) | with_reducible exact hG0 _ _ _ _ (by assumption) | with_reducible exact hG1 _ _ _ _ _ _ _ (by assumption) | with_reducible refine Kwa_ltv (fun _ => ?_) | with_reducible refine Kwa_I ?_ (by decide) | with_reducible refine Kwa_A ?_ (by decide) | with_reducible refine Kwa_I ?_ (by unfold pq; omega) | with_reducible refine Kwa_A ?_ (by unfold pq; omega) | with_reducible refine Kwa_J ?_ | with_reducible refine Kwa_L ?_ | with_reducible refine Kwa_sw ?_)
theorem ywa_hb_Pr_clearHeap_64 {G : (MS → Nat → Int32 → Int32 → Option (MS × Unit)) × (MS → Nat → Int32 → Int32 → Nat → Int32 → Int32 → Option (MS × Unit))} {v0 : Nat} {v1 : Int32} {v2 : Int32} {t0 : Nat} (h : Kwac u0 u) (hG0 : ∀ (u : MS) a0 a1 a2, Kwac u0 u → KwaE u0 (G.1 u a0 a1 a2)) (hG1 : ∀ (u : MS) a0 a1 a2 a3 a4 a5, Kwac u0 u → KwaE u0 (G.2 u a0 a1 a2 a3 a4 a5)) : KwaE u0 (hb_Pr_clearHeap_64 N G u v0 v1 v2 t0) := by
  unfold hb_Pr_clearHeap_64
  repeat' (first | with_reducible assumption | with_reducible refine Kwa_br ?_ ?_ | with_reducible refine Kwa_bnd ?_ (fun _ _ _ => ?_) | with_reducible refine Kwa_ck ?_ | with_reducible refine Kwa_ltm ?_ (fun _ _ => ?_) | with_reducible refine Kwa_some ?_ | with_reducible refine Kwa_bo (fun _ => ?_) | with_reducible refine Kwa_T ?_ (fun _ _ _ => ?_) | with_reducible refine Kwa_H ?_ (fun _ _ _ => ?_) (fun _ _ => ?_) | with_reducible exact ywa_hb_Pr_clearHeap_107 (by assumption) hG0 hG1 | with_reducible exact hG0 _ _ _ _ (by assumption) | with_reducible exact hG1 _ _ _ _ _ _ _ (by assumption) | with_reducible refine Kwa_ltv (fun _ => ?_) | with_reducible refine Kwa_I ?_ (by decide) | with_reducible refine Kwa_A ?_ (by decide) | with_reducible refine Kwa_I ?_ (by unfold pq; omega) | with_reducible refine Kwa_A ?_ (by unfold pq; omega) | with_reducible refine Kwa_J ?_ | with_reducible refine Kwa_L ?_ | with_reducible refine Kwa_sw ?_)
theorem ywa_hb_Pr_clearHeap_14 {G : (MS → Nat → Int32 → Int32 → Option (MS × Unit)) × (MS → Nat → Int32 → Int32 → Nat → Int32 → Int32 → Option (MS × Unit))} {v0 : Nat} {v1 : Int32} {v2 : Int32} (h : Kwac u0 u) (hG0 : ∀ (u : MS) a0 a1 a2, Kwac u0 u → KwaE u0 (G.1 u a0 a1 a2)) (hG1 : ∀ (u : MS) a0 a1 a2 a3 a4 a5, Kwac u0 u → KwaE u0 (G.2 u a0 a1 a2 a3 a4 a5)) : KwaE u0 (hb_Pr_clearHeap_14 N G u v0 v1 v2) := by
  unfold hb_Pr_clearHeap_14
  repeat' (first | with_reducible assumption | with_reducible refine Kwa_br ?_ ?_ | with_reducible refine Kwa_bnd ?_ (fun _ _ _ => ?_) | with_reducible refine Kwa_ck ?_ | with_reducible refine Kwa_ltm ?_ (fun _ _ => ?_) | with_reducible refine Kwa_some ?_ | with_reducible refine Kwa_bo (fun _ => ?_) | with_reducible refine Kwa_T ?_ (fun _ _ _ => ?_) | with_reducible refine Kwa_H ?_ (fun _ _ _ => ?_) (fun _ _ => ?_) | with_reducible exact ywa_hb_Pr_clearHeap_64 (by assumption) hG0 hG1 | with_reducible exact hG0 _ _ _ _ (by assumption) | with_reducible exact hG1 _ _ _ _ _ _ _ (by assumption) | with_reducible refine Kwa_ltv (fun _ => ?_) | with_reducible refine Kwa_I ?_ (by decide) | with_reducible refine Kwa_A ?_ (by decide) | with_reducible refine Kwa_I ?_ (by unfold pq; omega) | with_reducible refine Kwa_A ?_ (by unfold pq; omega) | with_reducible refine Kwa_J ?_ | with_reducible refine Kwa_L ?_ | with_reducible refine Kwa_sw ?_)
theorem ywa_hb_Pr_clearHeap_0 {G : (MS → Nat → Int32 → Int32 → Option (MS × Unit)) × (MS → Nat → Int32 → Int32 → Nat → Int32 → Int32 → Option (MS × Unit))} {v0 : Nat} (h : Kwac u0 u) (hG0 : ∀ (u : MS) a0 a1 a2, Kwac u0 u → KwaE u0 (G.1 u a0 a1 a2)) (hG1 : ∀ (u : MS) a0 a1 a2 a3 a4 a5, Kwac u0 u → KwaE u0 (G.2 u a0 a1 a2 a3 a4 a5)) : KwaE u0 (hb_Pr_clearHeap_0 N G u v0) := by
  unfold hb_Pr_clearHeap_0
  repeat' (first | with_reducible assumption | with_reducible refine Kwa_br ?_ ?_ | with_reducible refine Kwa_bnd ?_ (fun _ _ _ => ?_) | with_reducible refine Kwa_ck ?_ | with_reducible refine Kwa_ltm ?_ (fun _ _ => ?_) | with_reducible refine Kwa_some ?_ | with_reducible refine Kwa_bo (fun _ => ?_) | with_reducible refine Kwa_T ?_ (fun _ _ _ => ?_) | with_reducible refine Kwa_H ?_ (fun _ _ _ => ?_) (fun _ _ => ?_) | with_reducible exact hG0 _ _ _ _ (by assumption) | with_reducible exact hG1 _ _ _ _ _ _ _ (by assumption) | with_reducible refine Kwa_ltv (fun _ => ?_) | with_reducible refine Kwa_I ?_ (by decide) | with_reducible refine Kwa_A ?_ (by decide) | with_reducible refine Kwa_I ?_ (by unfold pq; omega) | with_reducible refine Kwa_A ?_ (by unfold pq; omega) | with_reducible refine Kwa_J ?_ | with_reducible refine Kwa_L ?_ | with_reducible refine Kwa_sw ?_)
theorem ywa_hg_Pr_clearHeap  (n : Nat) : (∀ (u : MS) a0 a1 a2, Kwac u0 u → KwaE u0 ((hg_Pr_clearHeap N n).1 u a0 a1 a2)) ∧ (∀ (u : MS) a0 a1 a2 a3 a4 a5, Kwac u0 u → KwaE u0 ((hg_Pr_clearHeap N n).2 u a0 a1 a2 a3 a4 a5)) := by
  induction n with
  | zero => exact ⟨fun _ _ _ _ _ => Kwa_none, fun _ _ _ _ _ _ _ _ => Kwa_none⟩
  | succ n ih => exact ⟨fun _ _ _ _ h => ywa_hb_Pr_clearHeap_14 (N := N) h ih.1 ih.2, fun _ _ _ _ _ _ _ h => ywa_hb_Pr_clearHeap_112 (N := N) h ih.1 ih.2⟩
theorem ywa_hm_Pr_clearHeap {v0 : Nat} (h : Kwac u0 u)  : KwaE u0 (hm_Pr_clearHeap N u v0) := by
  unfold hm_Pr_clearHeap
  exact ywa_hb_Pr_clearHeap_0 h ((ywa_hg_Pr_clearHeap N).1) ((ywa_hg_Pr_clearHeap N).2)
theorem ywa_hb_Pr_want_33 {G : Unit} {t0 : Int32} (h : Kwac u0 u)  : KwaE u0 (hb_Pr_want_33 N G u t0) := by
  unfold hb_Pr_want_33
  repeat' (first | with_reducible assumption | with_reducible refine Kwa_br ?_ ?_ | with_reducible refine Kwa_bnd ?_ (fun _ _ _ => ?_) | with_reducible refine Kwa_ck ?_ | with_reducible refine Kwa_ltm ?_ (fun _ _ => ?_) | with_reducible refine Kwa_some ?_ | with_reducible refine Kwa_bo (fun _ => ?_) | with_reducible refine Kwa_T ?_ (fun _ _ _ => ?_) | with_reducible refine Kwa_H ?_ (fun _ _ _ => ?_) (fun _ _ => ?_) | with_reducible refine Kwa_ltv (fun _ => ?_) | with_reducible refine Kwa_I ?_ (by decide) | with_reducible refine Kwa_A ?_ (by decide) | with_reducible refine Kwa_I ?_ (by unfold pq; omega) | with_reducible refine Kwa_A ?_ (by unfold pq; omega) | with_reducible refine Kwa_J ?_ | with_reducible refine Kwa_L ?_ | with_reducible refine Kwa_sw ?_)
theorem ywa_hb_Pr_want_16 {G : Unit} {v0 : Nat} {v1 : Int32} (h : Kwac u0 u)  : KwaE u0 (hb_Pr_want_16 N G u v0 v1) := by
  unfold hb_Pr_want_16
  repeat' (first | with_reducible assumption | with_reducible refine Kwa_br ?_ ?_ | with_reducible refine Kwa_bnd ?_ (fun _ _ _ => ?_) | with_reducible refine Kwa_ck ?_ | with_reducible refine Kwa_ltm ?_ (fun _ _ => ?_) | with_reducible refine Kwa_some ?_ | with_reducible refine Kwa_bo (fun _ => ?_) | with_reducible refine Kwa_T ?_ (fun _ _ _ => ?_) | with_reducible refine Kwa_H ?_ (fun _ _ _ => ?_) (fun _ _ => ?_) | with_reducible exact ywa_hb_Pr_want_33 (by assumption) | with_reducible refine Kwa_ltv (fun _ => ?_) | with_reducible refine Kwa_I ?_ (by decide) | with_reducible refine Kwa_A ?_ (by decide) | with_reducible refine Kwa_I ?_ (by unfold pq; omega) | with_reducible refine Kwa_A ?_ (by unfold pq; omega) | with_reducible refine Kwa_J ?_ | with_reducible refine Kwa_L ?_ | with_reducible refine Kwa_sw ?_)
theorem ywa_hb_Pr_want_0 {G : Unit} {v0 : Nat} {v1 : Int32} (h : Kwac u0 u)  : KwaE u0 (hb_Pr_want_0 N G u v0 v1) := by
  unfold hb_Pr_want_0
  repeat' (first | with_reducible assumption | with_reducible refine Kwa_br ?_ ?_ | with_reducible refine Kwa_bnd ?_ (fun _ _ _ => ?_) | with_reducible refine Kwa_ck ?_ | with_reducible refine Kwa_ltm ?_ (fun _ _ => ?_) | with_reducible refine Kwa_some ?_ | with_reducible refine Kwa_bo (fun _ => ?_) | with_reducible refine Kwa_T ?_ (fun _ _ _ => ?_) | with_reducible refine Kwa_H ?_ (fun _ _ _ => ?_) (fun _ _ => ?_) | with_reducible exact ywa_hm_Pr_clearHeap (by assumption) | with_reducible exact ywa_hb_Pr_want_16 (by assumption) | with_reducible refine Kwa_ltv (fun _ => ?_) | with_reducible refine Kwa_I ?_ (by decide) | with_reducible refine Kwa_A ?_ (by decide) | with_reducible refine Kwa_I ?_ (by unfold pq; omega) | with_reducible refine Kwa_A ?_ (by unfold pq; omega) | with_reducible refine Kwa_J ?_ | with_reducible refine Kwa_L ?_ | with_reducible refine Kwa_sw ?_)
theorem ywa_hm_Pr_want {v0 : Nat} {v1 : Int32} (h : Kwac u0 u)  : KwaE u0 (hm_Pr_want N u v0 v1) := by
  unfold hm_Pr_want
  exact ywa_hb_Pr_want_0 h
theorem ywa_hb_Pr_copyIn_140 {G : (MS → Nat → Nat → Int64 → Int64 → Int32 → Int32 → Option (MS × Int64))} {v0 : Nat} {v1 : Nat} {v2 : Int64} {v4 : Int64} {v6 : Int32} {v7 : Int32} (h : Kwac u0 u) (hG0 : ∀ (u : MS) a0 a1 a2 a3 a4 a5, Kwac u0 u → KwaE u0 (G u a0 a1 a2 a3 a4 a5)) : KwaE u0 (hb_Pr_copyIn_140 N G u v0 v1 v2 v4 v6 v7) := by
  unfold hb_Pr_copyIn_140
  repeat' (first | with_reducible assumption | with_reducible refine Kwa_br ?_ ?_ | with_reducible refine Kwa_bnd ?_ (fun _ _ _ => ?_) | with_reducible refine Kwa_ck ?_ | with_reducible refine Kwa_ltm ?_ (fun _ _ => ?_) | with_reducible refine Kwa_some ?_ | with_reducible refine Kwa_bo (fun _ => ?_) | with_reducible refine Kwa_T ?_ (fun _ _ _ => ?_) | with_reducible refine Kwa_H ?_ (fun _ _ _ => ?_) (fun _ _ => ?_) | with_reducible exact hG0 _ _ _ _ _ _ _ (by assumption) | with_reducible refine Kwa_ltv (fun _ => ?_) | with_reducible refine Kwa_I ?_ (by decide) | with_reducible refine Kwa_A ?_ (by decide) | with_reducible refine Kwa_I ?_ (by unfold pq; omega) | with_reducible refine Kwa_A ?_ (by unfold pq; omega) | with_reducible refine Kwa_J ?_ | with_reducible refine Kwa_L ?_ | with_reducible refine Kwa_sw ?_)
theorem ywa_hb_Pr_copyIn_42 {G : (MS → Nat → Nat → Int64 → Int64 → Int32 → Int32 → Option (MS × Int64))} {v0 : Nat} {v1 : Nat} {v2 : Int64} {v4 : Int64} {v6 : Int32} {v7 : Int32} {t0 : Int64} (h : Kwac u0 u) (hG0 : ∀ (u : MS) a0 a1 a2 a3 a4 a5, Kwac u0 u → KwaE u0 (G u a0 a1 a2 a3 a4 a5)) : KwaE u0 (hb_Pr_copyIn_42 N G u v0 v1 v2 v4 v6 v7 t0) := by
  unfold hb_Pr_copyIn_42
  repeat' (first | with_reducible assumption | with_reducible refine Kwa_br ?_ ?_ | with_reducible refine Kwa_bnd ?_ (fun _ _ _ => ?_) | with_reducible refine Kwa_ck ?_ | with_reducible refine Kwa_ltm ?_ (fun _ _ => ?_) | with_reducible refine Kwa_some ?_ | with_reducible refine Kwa_bo (fun _ => ?_) | with_reducible refine Kwa_T ?_ (fun _ _ _ => ?_) | with_reducible refine Kwa_H ?_ (fun _ _ _ => ?_) (fun _ _ => ?_) | with_reducible exact ywa_hb_Pr_copyIn_140 (by assumption) hG0 | with_reducible exact ywa_hm_Te_cellsAt (by assumption) | with_reducible exact hG0 _ _ _ _ _ _ _ (by assumption) | with_reducible refine Kwa_ltv (fun _ => ?_) | with_reducible refine Kwa_I ?_ (by decide) | with_reducible refine Kwa_A ?_ (by decide) | with_reducible refine Kwa_I ?_ (by unfold pq; omega) | with_reducible refine Kwa_A ?_ (by unfold pq; omega) | with_reducible refine Kwa_J ?_ | with_reducible refine Kwa_L ?_ | with_reducible refine Kwa_sw ?_)
theorem ywa_hb_Pr_copyIn_15 {G : (MS → Nat → Nat → Int64 → Int64 → Int32 → Int32 → Option (MS × Int64))} {v0 : Nat} {v1 : Nat} {v2 : Int64} {v4 : Int64} {v6 : Int32} {v7 : Int32} (h : Kwac u0 u) (hG0 : ∀ (u : MS) a0 a1 a2 a3 a4 a5, Kwac u0 u → KwaE u0 (G u a0 a1 a2 a3 a4 a5)) : KwaE u0 (hb_Pr_copyIn_15 N G u v0 v1 v2 v4 v6 v7) := by
  unfold hb_Pr_copyIn_15
  repeat' (first | with_reducible assumption | with_reducible refine Kwa_br ?_ ?_ | with_reducible refine Kwa_bnd ?_ (fun _ _ _ => ?_) | with_reducible refine Kwa_ck ?_ | with_reducible refine Kwa_ltm ?_ (fun _ _ => ?_) | with_reducible refine Kwa_some ?_ | with_reducible refine Kwa_bo (fun _ => ?_) | with_reducible refine Kwa_T ?_ (fun _ _ _ => ?_) | with_reducible refine Kwa_H ?_ (fun _ _ _ => ?_) (fun _ _ => ?_) | with_reducible exact ywa_hb_Pr_copyIn_42 (by assumption) hG0 | with_reducible exact hG0 _ _ _ _ _ _ _ (by assumption) | with_reducible refine Kwa_ltv (fun _ => ?_) | with_reducible refine Kwa_I ?_ (by decide) | with_reducible refine Kwa_A ?_ (by decide) | with_reducible refine Kwa_I ?_ (by unfold pq; omega) | with_reducible refine Kwa_A ?_ (by unfold pq; omega) | with_reducible refine Kwa_J ?_ | with_reducible refine Kwa_L ?_ | with_reducible refine Kwa_sw ?_)
theorem ywa_hb_Pr_copyIn_0 {G : (MS → Nat → Nat → Int64 → Int64 → Int32 → Int32 → Option (MS × Int64))} {v0 : Nat} {v1 : Nat} {v2 : Int64} (h : Kwac u0 u) (hG0 : ∀ (u : MS) a0 a1 a2 a3 a4 a5, Kwac u0 u → KwaE u0 (G u a0 a1 a2 a3 a4 a5)) : KwaE u0 (hb_Pr_copyIn_0 N G u v0 v1 v2) := by
  unfold hb_Pr_copyIn_0
  repeat' (first | with_reducible assumption | with_reducible refine Kwa_br ?_ ?_ | with_reducible refine Kwa_bnd ?_ (fun _ _ _ => ?_) | with_reducible refine Kwa_ck ?_ | with_reducible refine Kwa_ltm ?_ (fun _ _ => ?_) | with_reducible refine Kwa_some ?_ | with_reducible refine Kwa_bo (fun _ => ?_) | with_reducible refine Kwa_T ?_ (fun _ _ _ => ?_) | with_reducible refine Kwa_H ?_ (fun _ _ _ => ?_) (fun _ _ => ?_) | with_reducible exact hG0 _ _ _ _ _ _ _ (by assumption) | with_reducible refine Kwa_ltv (fun _ => ?_) | with_reducible refine Kwa_I ?_ (by decide) | with_reducible refine Kwa_A ?_ (by decide) | with_reducible refine Kwa_I ?_ (by unfold pq; omega) | with_reducible refine Kwa_A ?_ (by unfold pq; omega) | with_reducible refine Kwa_J ?_ | with_reducible refine Kwa_L ?_ | with_reducible refine Kwa_sw ?_)
theorem ywa_hg_Pr_copyIn  (n : Nat) : (∀ (u : MS) a0 a1 a2 a3 a4 a5, Kwac u0 u → KwaE u0 ((hg_Pr_copyIn N n) u a0 a1 a2 a3 a4 a5)) := by
  induction n with
  | zero => exact fun _ _ _ _ _ _ _ _ => Kwa_none
  | succ n ih => exact fun _ _ _ _ _ _ _ h => ywa_hb_Pr_copyIn_15 (N := N) h ih
theorem ywa_hm_Pr_copyIn {v0 : Nat} {v1 : Nat} {v2 : Int64} (h : Kwac u0 u)  : KwaE u0 (hm_Pr_copyIn N u v0 v1 v2) := by
  unfold hm_Pr_copyIn
  exact ywa_hb_Pr_copyIn_0 h ((ywa_hg_Pr_copyIn N))
theorem ywa_hb_Wl_post_193 {G : Unit} {v1 : Nat} {v2 : Int32} {v3 : Int32} {v11 : Int32} {v12 : Int64} (h : Kwac u0 u)  : KwaE u0 (hb_Wl_post_193 N G u v1 v2 v3 v11 v12) := by
  unfold hb_Wl_post_193
  repeat' (first | with_reducible assumption | with_reducible refine Kwa_br ?_ ?_ | with_reducible refine Kwa_bnd ?_ (fun _ _ _ => ?_) | with_reducible refine Kwa_ck ?_ | with_reducible refine Kwa_ltm ?_ (fun _ _ => ?_) | with_reducible refine Kwa_some ?_ | with_reducible refine Kwa_bo (fun _ => ?_) | with_reducible refine Kwa_T ?_ (fun _ _ _ => ?_) | with_reducible refine Kwa_H ?_ (fun _ _ _ => ?_) (fun _ _ => ?_) | with_reducible exact ywa_hm_Pr_comes (by assumption) | with_reducible exact ywa_hm_Te_make (by assumption) | with_reducible refine Kwa_ltv (fun _ => ?_) | with_reducible refine Kwa_I ?_ (by decide) | with_reducible refine Kwa_A ?_ (by decide) | with_reducible refine Kwa_I ?_ (by unfold pq; omega) | with_reducible refine Kwa_A ?_ (by unfold pq; omega) | with_reducible refine Kwa_J ?_ | with_reducible refine Kwa_L ?_ | with_reducible refine Kwa_sw ?_)
theorem ywa_hb_Wl_post_169 {G : Unit} {v1 : Nat} {v2 : Int32} {v3 : Int32} {v4 : Int32} {v11 : Int32} {v12 : Int64} {t0 : Nat} {t1 : Int32} {t2 : Int32} {t3 : Int32} (h : Kwac u0 u)  : KwaE u0 (hb_Wl_post_169 N G u v1 v2 v3 v4 v11 v12 t0 t1 t2 t3) := by
  unfold hb_Wl_post_169
  repeat' (first | with_reducible assumption | with_reducible refine Kwa_br ?_ ?_ | with_reducible refine Kwa_bnd ?_ (fun _ _ _ => ?_) | with_reducible refine Kwa_ck ?_ | with_reducible refine Kwa_ltm ?_ (fun _ _ => ?_) | with_reducible refine Kwa_some ?_ | with_reducible refine Kwa_bo (fun _ => ?_) | with_reducible refine Kwa_T ?_ (fun _ _ _ => ?_) | with_reducible refine Kwa_H ?_ (fun _ _ _ => ?_) (fun _ _ => ?_) | with_reducible exact ywa_hb_Wl_post_193 (by assumption) | with_reducible exact ywa_hm_Te_make (by assumption) | with_reducible refine Kwa_ltv (fun _ => ?_) | with_reducible refine Kwa_I ?_ (by decide) | with_reducible refine Kwa_A ?_ (by decide) | with_reducible refine Kwa_I ?_ (by unfold pq; omega) | with_reducible refine Kwa_A ?_ (by unfold pq; omega) | with_reducible refine Kwa_J ?_ | with_reducible refine Kwa_L ?_ | with_reducible refine Kwa_sw ?_)
theorem ywa_hb_Wl_post_120 {G : Unit} {v1 : Nat} {v2 : Int32} {v3 : Int32} {v4 : Int32} {v11 : Int32} {t0 : Int64} (h : Kwac u0 u)  : KwaE u0 (hb_Wl_post_120 N G u v1 v2 v3 v4 v11 t0) := by
  unfold hb_Wl_post_120
  repeat' (first | with_reducible assumption | with_reducible refine Kwa_br ?_ ?_ | with_reducible refine Kwa_bnd ?_ (fun _ _ _ => ?_) | with_reducible refine Kwa_ck ?_ | with_reducible refine Kwa_ltm ?_ (fun _ _ => ?_) | with_reducible refine Kwa_some ?_ | with_reducible refine Kwa_bo (fun _ => ?_) | with_reducible refine Kwa_T ?_ (fun _ _ _ => ?_) | with_reducible refine Kwa_H ?_ (fun _ _ _ => ?_) (fun _ _ => ?_) | with_reducible exact ywa_hb_Wl_post_169 (by assumption) | with_reducible exact ywa_hm_Pr_comes (by assumption) | with_reducible exact ywa_hm_Te_make (by assumption) | with_reducible refine Kwa_ltv (fun _ => ?_) | with_reducible refine Kwa_I ?_ (by decide) | with_reducible refine Kwa_A ?_ (by decide) | with_reducible refine Kwa_I ?_ (by unfold pq; omega) | with_reducible refine Kwa_A ?_ (by unfold pq; omega) | with_reducible refine Kwa_J ?_ | with_reducible refine Kwa_L ?_ | with_reducible refine Kwa_sw ?_)
theorem ywa_hb_Wl_post_81 {G : Unit} {v1 : Nat} {v2 : Int32} {v3 : Int32} {v4 : Int32} {v7 : Option Nat} {t0 : Int64} (h : Kwac u0 u)  : KwaE u0 (hb_Wl_post_81 N G u v1 v2 v3 v4 v7 t0) := by
  unfold hb_Wl_post_81
  repeat' (first | with_reducible assumption | with_reducible refine Kwa_br ?_ ?_ | with_reducible refine Kwa_bnd ?_ (fun _ _ _ => ?_) | with_reducible refine Kwa_ck ?_ | with_reducible refine Kwa_ltm ?_ (fun _ _ => ?_) | with_reducible refine Kwa_some ?_ | with_reducible refine Kwa_bo (fun _ => ?_) | with_reducible refine Kwa_T ?_ (fun _ _ _ => ?_) | with_reducible refine Kwa_H ?_ (fun _ _ _ => ?_) (fun _ _ => ?_) | with_reducible exact ywa_hb_Wl_post_120 (by assumption) | with_reducible exact ywa_hm_Pr_copyIn (by assumption) | with_reducible refine Kwa_ltv (fun _ => ?_) | with_reducible refine Kwa_I ?_ (by decide) | with_reducible refine Kwa_A ?_ (by decide) | with_reducible refine Kwa_I ?_ (by unfold pq; omega) | with_reducible refine Kwa_A ?_ (by unfold pq; omega) | with_reducible refine Kwa_J ?_ | with_reducible refine Kwa_L ?_ | with_reducible refine Kwa_sw ?_)
theorem ywa_hb_Wl_post_41 {G : Unit} {v1 : Nat} {v2 : Int32} {v3 : Int32} {v4 : Int32} {v5 : Int64} {v7 : Option Nat} {t0 : Int32} (h : Kwac u0 u)  : KwaE u0 (hb_Wl_post_41 N G u v1 v2 v3 v4 v5 v7 t0) := by
  unfold hb_Wl_post_41
  repeat' (first | with_reducible assumption | with_reducible refine Kwa_br ?_ ?_ | with_reducible refine Kwa_bnd ?_ (fun _ _ _ => ?_) | with_reducible refine Kwa_ck ?_ | with_reducible refine Kwa_ltm ?_ (fun _ _ => ?_) | with_reducible refine Kwa_some ?_ | with_reducible refine Kwa_bo (fun _ => ?_) | with_reducible refine Kwa_T ?_ (fun _ _ _ => ?_) | with_reducible refine Kwa_H ?_ (fun _ _ _ => ?_) (fun _ _ => ?_) | with_reducible exact ywa_hb_Wl_post_81 (by assumption) | with_reducible exact ywa_hm_Wl_endsBy (by assumption) | with_reducible exact ywa_hm_Fr_below (by assumption) | with_reducible exact ywa_hm_Pr_want (by assumption) | with_reducible refine Kwa_ltv (fun _ => ?_) | with_reducible refine Kwa_I ?_ (by decide) | with_reducible refine Kwa_A ?_ (by decide) | with_reducible refine Kwa_I ?_ (by unfold pq; omega) | with_reducible refine Kwa_A ?_ (by unfold pq; omega) | with_reducible refine Kwa_J ?_ | with_reducible refine Kwa_L ?_ | with_reducible refine Kwa_sw ?_)
theorem ywa_hb_Wl_post_17 {G : Unit} (h : Kwac u0 u)  : KwaE u0 (hb_Wl_post_17 N G u) := by
  unfold hb_Wl_post_17
  repeat' (first | with_reducible assumption | with_reducible refine Kwa_br ?_ ?_ | with_reducible refine Kwa_bnd ?_ (fun _ _ _ => ?_) | with_reducible refine Kwa_ck ?_ | with_reducible refine Kwa_ltm ?_ (fun _ _ => ?_) | with_reducible refine Kwa_some ?_ | with_reducible refine Kwa_bo (fun _ => ?_) | with_reducible refine Kwa_T ?_ (fun _ _ _ => ?_) | with_reducible refine Kwa_H ?_ (fun _ _ _ => ?_) (fun _ _ => ?_) | with_reducible refine Kwa_ltv (fun _ => ?_) | with_reducible refine Kwa_I ?_ (by decide) | with_reducible refine Kwa_A ?_ (by decide) | with_reducible refine Kwa_I ?_ (by unfold pq; omega) | with_reducible refine Kwa_A ?_ (by unfold pq; omega) | with_reducible refine Kwa_J ?_ | with_reducible refine Kwa_L ?_ | with_reducible refine Kwa_sw ?_)
theorem ywa_hb_Wl_post_0 {G : Unit} {v1 : Nat} {v2 : Int32} {v3 : Int32} {v4 : Int32} {v5 : Int64} {v7 : Option Nat} (h : Kwac u0 u)  : KwaE u0 (hb_Wl_post_0 N G u v1 v2 v3 v4 v5 v7) := by
  unfold hb_Wl_post_0
  repeat' (first | with_reducible assumption | with_reducible refine Kwa_br ?_ ?_ | with_reducible refine Kwa_bnd ?_ (fun _ _ _ => ?_) | with_reducible refine Kwa_ck ?_ | with_reducible refine Kwa_ltm ?_ (fun _ _ => ?_) | with_reducible refine Kwa_some ?_ | with_reducible refine Kwa_bo (fun _ => ?_) | with_reducible refine Kwa_T ?_ (fun _ _ _ => ?_) | with_reducible refine Kwa_H ?_ (fun _ _ _ => ?_) (fun _ _ => ?_) | with_reducible exact ywa_hb_Wl_post_17 (by assumption) | with_reducible exact ywa_hb_Wl_post_41 (by assumption) | with_reducible exact ywa_hm_Te_size (by assumption) | with_reducible refine Kwa_ltv (fun _ => ?_) | with_reducible refine Kwa_I ?_ (by decide) | with_reducible refine Kwa_A ?_ (by decide) | with_reducible refine Kwa_I ?_ (by unfold pq; omega) | with_reducible refine Kwa_A ?_ (by unfold pq; omega) | with_reducible refine Kwa_J ?_ | with_reducible refine Kwa_L ?_ | with_reducible refine Kwa_sw ?_)
theorem ywa_hm_Wl_post {v1 : Nat} {v2 : Int32} {v3 : Int32} {v4 : Int32} {v5 : Int64} {v7 : Option Nat} (h : Kwac u0 u)  : KwaE u0 (hm_Wl_post N u v1 v2 v3 v4 v5 v7) := by
  unfold hm_Wl_post
  exact ywa_hb_Wl_post_0 h
theorem ywa_hb_Wl_signal_121 {G : Unit} (h : Kwac u0 u)  : KwaE u0 (hb_Wl_signal_121 N G u) := by
  unfold hb_Wl_signal_121
  repeat' (first | with_reducible assumption | with_reducible refine Kwa_br ?_ ?_ | with_reducible refine Kwa_bnd ?_ (fun _ _ _ => ?_) | with_reducible refine Kwa_ck ?_ | with_reducible refine Kwa_ltm ?_ (fun _ _ => ?_) | with_reducible refine Kwa_some ?_ | with_reducible refine Kwa_bo (fun _ => ?_) | with_reducible refine Kwa_T ?_ (fun _ _ _ => ?_) | with_reducible refine Kwa_H ?_ (fun _ _ _ => ?_) (fun _ _ => ?_) | with_reducible refine Kwa_ltv (fun _ => ?_) | with_reducible refine Kwa_I ?_ (by decide) | with_reducible refine Kwa_A ?_ (by decide) | with_reducible refine Kwa_I ?_ (by unfold pq; omega) | with_reducible refine Kwa_A ?_ (by unfold pq; omega) | with_reducible refine Kwa_J ?_ | with_reducible refine Kwa_L ?_ | with_reducible refine Kwa_sw ?_)
theorem ywa_hb_Wl_signal_70 {G : Unit} {v2 : Nat} {v3 : Int64} (h : Kwac u0 u)  : KwaE u0 (hb_Wl_signal_70 N G u v2 v3) := by
  unfold hb_Wl_signal_70
  repeat' (first | with_reducible assumption | with_reducible refine Kwa_br ?_ ?_ | with_reducible refine Kwa_bnd ?_ (fun _ _ _ => ?_) | with_reducible refine Kwa_ck ?_ | with_reducible refine Kwa_ltm ?_ (fun _ _ => ?_) | with_reducible refine Kwa_some ?_ | with_reducible refine Kwa_bo (fun _ => ?_) | with_reducible refine Kwa_T ?_ (fun _ _ _ => ?_) | with_reducible refine Kwa_H ?_ (fun _ _ _ => ?_) (fun _ _ => ?_) | with_reducible exact ywa_hb_Wl_signal_121 (by assumption) | with_reducible exact ywa_hm_Wl_endsWith (by assumption) | with_reducible refine Kwa_ltv (fun _ => ?_) | with_reducible refine Kwa_I ?_ (by decide) | with_reducible refine Kwa_A ?_ (by decide) | with_reducible refine Kwa_I ?_ (by unfold pq; omega) | with_reducible refine Kwa_A ?_ (by unfold pq; omega) | with_reducible refine Kwa_J ?_ | with_reducible refine Kwa_L ?_ | with_reducible refine Kwa_sw ?_)
theorem ywa_hb_Wl_signal_59 {G : Unit} {v2 : Nat} {v3 : Int64} {v5 : Option Nat} (h : Kwac u0 u)  : KwaE u0 (hb_Wl_signal_59 N G u v2 v3 v5) := by
  unfold hb_Wl_signal_59
  repeat' (first | with_reducible assumption | with_reducible refine Kwa_br ?_ ?_ | with_reducible refine Kwa_bnd ?_ (fun _ _ _ => ?_) | with_reducible refine Kwa_ck ?_ | with_reducible refine Kwa_ltm ?_ (fun _ _ => ?_) | with_reducible refine Kwa_some ?_ | with_reducible refine Kwa_bo (fun _ => ?_) | with_reducible refine Kwa_T ?_ (fun _ _ _ => ?_) | with_reducible refine Kwa_H ?_ (fun _ _ _ => ?_) (fun _ _ => ?_) | with_reducible exact ywa_hb_Wl_signal_121 (by assumption) | with_reducible exact ywa_hb_Wl_signal_70 (by assumption) | with_reducible exact ywa_hm_Wl_endsWith (by assumption) | with_reducible exact ywa_hm_Pr_copyIn (by assumption) | with_reducible refine Kwa_ltv (fun _ => ?_) | with_reducible refine Kwa_I ?_ (by decide) | with_reducible refine Kwa_A ?_ (by decide) | with_reducible refine Kwa_I ?_ (by unfold pq; omega) | with_reducible refine Kwa_A ?_ (by unfold pq; omega) | with_reducible refine Kwa_J ?_ | with_reducible refine Kwa_L ?_ | with_reducible refine Kwa_sw ?_)
theorem ywa_hb_Wl_signal_43 {G : Unit} {v1 : Int32} {v2 : Nat} {v3 : Int64} {v5 : Option Nat} {t0 : Int32} (h : Kwac u0 u)  : KwaE u0 (hb_Wl_signal_43 N G u v1 v2 v3 v5 t0) := by
  unfold hb_Wl_signal_43
  repeat' (first | with_reducible assumption | with_reducible refine Kwa_br ?_ ?_ | with_reducible refine Kwa_bnd ?_ (fun _ _ _ => ?_) | with_reducible refine Kwa_ck ?_ | with_reducible refine Kwa_ltm ?_ (fun _ _ => ?_) | with_reducible refine Kwa_some ?_ | with_reducible refine Kwa_bo (fun _ => ?_) | with_reducible refine Kwa_T ?_ (fun _ _ _ => ?_) | with_reducible refine Kwa_H ?_ (fun _ _ _ => ?_) (fun _ _ => ?_) | with_reducible exact ywa_hb_Wl_signal_59 (by assumption) | with_reducible refine Kwa_ltv (fun _ => ?_) | with_reducible refine Kwa_I ?_ (by decide) | with_reducible refine Kwa_A ?_ (by decide) | with_reducible refine Kwa_I ?_ (by unfold pq; omega) | with_reducible refine Kwa_A ?_ (by unfold pq; omega) | with_reducible refine Kwa_J ?_ | with_reducible refine Kwa_L ?_ | with_reducible refine Kwa_sw ?_)
theorem ywa_hb_Wl_signal_0 {G : Unit} {v1 : Int32} {v2 : Nat} {v3 : Int64} {v5 : Option Nat} (h : Kwac u0 u)  : KwaE u0 (hb_Wl_signal_0 N G u v1 v2 v3 v5) := by
  unfold hb_Wl_signal_0
  repeat' (first | with_reducible assumption | with_reducible refine Kwa_br ?_ ?_ | with_reducible refine Kwa_bnd ?_ (fun _ _ _ => ?_) | with_reducible refine Kwa_ck ?_ | with_reducible refine Kwa_ltm ?_ (fun _ _ => ?_) | with_reducible refine Kwa_some ?_ | with_reducible refine Kwa_bo (fun _ => ?_) | with_reducible refine Kwa_T ?_ (fun _ _ _ => ?_) | with_reducible refine Kwa_H ?_ (fun _ _ _ => ?_) (fun _ _ => ?_) | with_reducible exact ywa_hb_Wl_signal_43 (by assumption) | with_reducible exact ywa_hm_Te_make (by assumption) | with_reducible exact ywa_hm_Wl_post (by assumption) | with_reducible refine Kwa_ltv (fun _ => ?_) | with_reducible refine Kwa_I ?_ (by decide) | with_reducible refine Kwa_A ?_ (by decide) | with_reducible refine Kwa_I ?_ (by unfold pq; omega) | with_reducible refine Kwa_A ?_ (by unfold pq; omega) | with_reducible refine Kwa_J ?_ | with_reducible refine Kwa_L ?_ | with_reducible refine Kwa_sw ?_)
theorem ywa_hm_Wl_signal {v1 : Int32} {v2 : Nat} {v3 : Int64} {v5 : Option Nat} (h : Kwac u0 u)  : KwaE u0 (hm_Wl_signal N u v1 v2 v3 v5) := by
  unfold hm_Wl_signal
  exact ywa_hb_Wl_signal_0 h
theorem ywa_hb_Pr_removeLink_44 {G : Unit} (h : Kwac u0 u)  : KwaE u0 (hb_Pr_removeLink_44 N G u) := by
  unfold hb_Pr_removeLink_44
  repeat' (first | with_reducible assumption | with_reducible refine Kwa_br ?_ ?_ | with_reducible refine Kwa_bnd ?_ (fun _ _ _ => ?_) | with_reducible refine Kwa_ck ?_ | with_reducible refine Kwa_ltm ?_ (fun _ _ => ?_) | with_reducible refine Kwa_some ?_ | with_reducible refine Kwa_bo (fun _ => ?_) | with_reducible refine Kwa_T ?_ (fun _ _ _ => ?_) | with_reducible refine Kwa_H ?_ (fun _ _ _ => ?_) (fun _ _ => ?_) | with_reducible refine Kwa_ltv (fun _ => ?_) | with_reducible refine Kwa_I ?_ (by decide) | with_reducible refine Kwa_A ?_ (by decide) | with_reducible refine Kwa_I ?_ (by unfold pq; omega) | with_reducible refine Kwa_A ?_ (by unfold pq; omega) | with_reducible refine Kwa_J ?_ | with_reducible refine Kwa_L ?_ | with_reducible refine Kwa_sw ?_)
theorem ywa_hb_Pr_removeLink_0 {G : Unit} {v0 : Nat} {v1 : Int32} (h : Kwac u0 u)  : KwaE u0 (hb_Pr_removeLink_0 N G u v0 v1) := by
  unfold hb_Pr_removeLink_0
  repeat' (first | with_reducible assumption | with_reducible refine Kwa_br ?_ ?_ | with_reducible refine Kwa_bnd ?_ (fun _ _ _ => ?_) | with_reducible refine Kwa_ck ?_ | with_reducible refine Kwa_ltm ?_ (fun _ _ => ?_) | with_reducible refine Kwa_some ?_ | with_reducible refine Kwa_bo (fun _ => ?_) | with_reducible refine Kwa_T ?_ (fun _ _ _ => ?_) | with_reducible refine Kwa_H ?_ (fun _ _ _ => ?_) (fun _ _ => ?_) | with_reducible exact ywa_hb_Pr_removeLink_44 (by assumption) | with_reducible exact ywa_hm_Pr_seekLink (by assumption) | with_reducible refine Kwa_ltv (fun _ => ?_) | with_reducible refine Kwa_I ?_ (by decide) | with_reducible refine Kwa_A ?_ (by decide) | with_reducible refine Kwa_I ?_ (by unfold pq; omega) | with_reducible refine Kwa_A ?_ (by unfold pq; omega) | with_reducible refine Kwa_J ?_ | with_reducible refine Kwa_L ?_ | with_reducible refine Kwa_sw ?_)
theorem ywa_hm_Pr_removeLink {v0 : Nat} {v1 : Int32} (h : Kwac u0 u)  : KwaE u0 (hm_Pr_removeLink N u v0 v1) := by
  unfold hm_Pr_removeLink
  exact ywa_hb_Pr_removeLink_0 h
theorem ywa_hb_Wl_tellWatchers_92 {G : (MS → Nat → Int32 → Int32 → Option (MS × Unit))} {v1 : Nat} {v2 : Int32} {v3 : Int32} (h : Kwac u0 u) (hG0 : ∀ (u : MS) a0 a1 a2, Kwac u0 u → KwaE u0 (G u a0 a1 a2)) : KwaE u0 (hb_Wl_tellWatchers_92 N G u v1 v2 v3) := by
  unfold hb_Wl_tellWatchers_92
  repeat' (first | with_reducible assumption | with_reducible refine Kwa_br ?_ ?_ | with_reducible refine Kwa_bnd ?_ (fun _ _ _ => ?_) | with_reducible refine Kwa_ck ?_ | with_reducible refine Kwa_ltm ?_ (fun _ _ => ?_) | with_reducible refine Kwa_some ?_ | with_reducible refine Kwa_bo (fun _ => ?_) | with_reducible refine Kwa_T ?_ (fun _ _ _ => ?_) | with_reducible refine Kwa_H ?_ (fun _ _ _ => ?_) (fun _ _ => ?_) | with_reducible exact hG0 _ _ _ _ (by assumption) | with_reducible refine Kwa_ltv (fun _ => ?_) | with_reducible refine Kwa_I ?_ (by decide) | with_reducible refine Kwa_A ?_ (by decide) | with_reducible refine Kwa_I ?_ (by unfold pq; omega) | with_reducible refine Kwa_A ?_ (by unfold pq; omega) | with_reducible refine Kwa_J ?_ | with_reducible refine Kwa_L ?_ | with_reducible refine Kwa_sw ?_)
theorem ywa_hb_Wl_tellWatchers_70 {G : (MS → Nat → Int32 → Int32 → Option (MS × Unit))} {v1 : Nat} {v2 : Int32} {v3 : Int32} (h : Kwac u0 u) (hG0 : ∀ (u : MS) a0 a1 a2, Kwac u0 u → KwaE u0 (G u a0 a1 a2)) : KwaE u0 (hb_Wl_tellWatchers_70 N G u v1 v2 v3) := by
  unfold hb_Wl_tellWatchers_70
  repeat' (first | with_reducible assumption | with_reducible refine Kwa_br ?_ ?_ | with_reducible refine Kwa_bnd ?_ (fun _ _ _ => ?_) | with_reducible refine Kwa_ck ?_ | with_reducible refine Kwa_ltm ?_ (fun _ _ => ?_) | with_reducible refine Kwa_some ?_ | with_reducible refine Kwa_bo (fun _ => ?_) | with_reducible refine Kwa_T ?_ (fun _ _ _ => ?_) | with_reducible refine Kwa_H ?_ (fun _ _ _ => ?_) (fun _ _ => ?_) | with_reducible exact ywa_hb_Wl_tellWatchers_92 (by assumption) hG0 | with_reducible exact ywa_hm_Wl_keepWatch (by assumption) | with_reducible exact hG0 _ _ _ _ (by assumption) | with_reducible refine Kwa_ltv (fun _ => ?_) | with_reducible refine Kwa_I ?_ (by decide) | with_reducible refine Kwa_A ?_ (by decide) | with_reducible refine Kwa_I ?_ (by unfold pq; omega) | with_reducible refine Kwa_A ?_ (by unfold pq; omega) | with_reducible refine Kwa_J ?_ | with_reducible refine Kwa_L ?_ | with_reducible refine Kwa_sw ?_)
theorem ywa_hb_Wl_tellWatchers_4 {G : (MS → Nat → Int32 → Int32 → Option (MS × Unit))} {v1 : Nat} {v2 : Int32} {v3 : Int32} (h : Kwac u0 u) (hG0 : ∀ (u : MS) a0 a1 a2, Kwac u0 u → KwaE u0 (G u a0 a1 a2)) : KwaE u0 (hb_Wl_tellWatchers_4 N G u v1 v2 v3) := by
  unfold hb_Wl_tellWatchers_4
  repeat' (first | with_reducible assumption | with_reducible refine Kwa_br ?_ ?_ | with_reducible refine Kwa_bnd ?_ (fun _ _ _ => ?_) | with_reducible refine Kwa_ck ?_ | with_reducible refine Kwa_ltm ?_ (fun _ _ => ?_) | with_reducible refine Kwa_some ?_ | with_reducible refine Kwa_bo (fun _ => ?_) | with_reducible refine Kwa_T ?_ (fun _ _ _ => ?_) | with_reducible refine Kwa_H ?_ (fun _ _ _ => ?_) (fun _ _ => ?_) | with_reducible exact ywa_hb_Wl_tellWatchers_70 (by assumption) hG0 | with_reducible exact ywa_hb_Wl_tellWatchers_92 (by assumption) hG0 | with_reducible exact ywa_hm_Wl_find (by assumption) | with_reducible exact ywa_hm_Wl_post (by assumption) | with_reducible exact hG0 _ _ _ _ (by assumption) | with_reducible refine Kwa_ltv (fun _ => ?_) | with_reducible refine Kwa_I ?_ (by decide) | with_reducible refine Kwa_A ?_ (by decide) | with_reducible refine Kwa_I ?_ (by unfold pq; omega) | with_reducible refine Kwa_A ?_ (by unfold pq; omega) | with_reducible refine Kwa_J ?_ | with_reducible refine Kwa_L ?_ | with_reducible refine Kwa_sw ?_)
theorem ywa_hb_Wl_tellWatchers_0 {G : (MS → Nat → Int32 → Int32 → Option (MS × Unit))} {v1 : Nat} (h : Kwac u0 u) (hG0 : ∀ (u : MS) a0 a1 a2, Kwac u0 u → KwaE u0 (G u a0 a1 a2)) : KwaE u0 (hb_Wl_tellWatchers_0 N G u v1) := by
  unfold hb_Wl_tellWatchers_0
  repeat' (first | with_reducible assumption | with_reducible refine Kwa_br ?_ ?_ | with_reducible refine Kwa_bnd ?_ (fun _ _ _ => ?_) | with_reducible refine Kwa_ck ?_ | with_reducible refine Kwa_ltm ?_ (fun _ _ => ?_) | with_reducible refine Kwa_some ?_ | with_reducible refine Kwa_bo (fun _ => ?_) | with_reducible refine Kwa_T ?_ (fun _ _ _ => ?_) | with_reducible refine Kwa_H ?_ (fun _ _ _ => ?_) (fun _ _ => ?_) | with_reducible exact hG0 _ _ _ _ (by assumption) | with_reducible refine Kwa_ltv (fun _ => ?_) | with_reducible refine Kwa_I ?_ (by decide) | with_reducible refine Kwa_A ?_ (by decide) | with_reducible refine Kwa_I ?_ (by unfold pq; omega) | with_reducible refine Kwa_A ?_ (by unfold pq; omega) | with_reducible refine Kwa_J ?_ | with_reducible refine Kwa_L ?_ | with_reducible refine Kwa_sw ?_)
theorem ywa_hg_Wl_tellWatchers  (n : Nat) : (∀ (u : MS) a0 a1 a2, Kwac u0 u → KwaE u0 ((hg_Wl_tellWatchers N n) u a0 a1 a2)) := by
  induction n with
  | zero => exact fun _ _ _ _ _ => Kwa_none
  | succ n ih => exact fun _ _ _ _ h => ywa_hb_Wl_tellWatchers_4 (N := N) h ih
theorem ywa_hm_Wl_tellWatchers {v1 : Nat} (h : Kwac u0 u)  : KwaE u0 (hm_Wl_tellWatchers N u v1) := by
  unfold hm_Wl_tellWatchers
  exact ywa_hb_Wl_tellWatchers_0 h ((ywa_hg_Wl_tellWatchers N))
theorem ywa_hb_Wl_settle_104 {G : (MS → Option (MS × Unit)) × (MS → Nat → Int32 → Option (MS × Unit))} (h : Kwac u0 u) (hG0 : ∀ (u : MS), Kwac u0 u → KwaE u0 (G.1 u)) (hG1 : ∀ (u : MS) a0 a1, Kwac u0 u → KwaE u0 (G.2 u a0 a1)) : KwaE u0 (hb_Wl_settle_104 N G u) := by
  unfold hb_Wl_settle_104
  repeat' (first | with_reducible assumption | with_reducible refine Kwa_br ?_ ?_ | with_reducible refine Kwa_bnd ?_ (fun _ _ _ => ?_) | with_reducible refine Kwa_ck ?_ | with_reducible refine Kwa_ltm ?_ (fun _ _ => ?_) | with_reducible refine Kwa_some ?_ | with_reducible refine Kwa_bo (fun _ => ?_) | with_reducible refine Kwa_T ?_ (fun _ _ _ => ?_) | with_reducible refine Kwa_H ?_ (fun _ _ _ => ?_) (fun _ _ => ?_) | with_reducible exact hG0 _ (by assumption) | with_reducible exact hG1 _ _ _ (by assumption) | with_reducible refine Kwa_ltv (fun _ => ?_) | with_reducible refine Kwa_I ?_ (by decide) | with_reducible refine Kwa_A ?_ (by decide) | with_reducible refine Kwa_I ?_ (by unfold pq; omega) | with_reducible refine Kwa_A ?_ (by unfold pq; omega) | with_reducible refine Kwa_J ?_ | with_reducible refine Kwa_L ?_ | with_reducible refine Kwa_sw ?_)
theorem ywa_hb_Wl_settle_88 {G : (MS → Option (MS × Unit)) × (MS → Nat → Int32 → Option (MS × Unit))} {v1 : Nat} {v2 : Int32} (h : Kwac u0 u) (hG0 : ∀ (u : MS), Kwac u0 u → KwaE u0 (G.1 u)) (hG1 : ∀ (u : MS) a0 a1, Kwac u0 u → KwaE u0 (G.2 u a0 a1)) : KwaE u0 (hb_Wl_settle_88 N G u v1 v2) := by
  unfold hb_Wl_settle_88
  repeat' (first | with_reducible assumption | with_reducible refine Kwa_br ?_ ?_ | with_reducible refine Kwa_bnd ?_ (fun _ _ _ => ?_) | with_reducible refine Kwa_ck ?_ | with_reducible refine Kwa_ltm ?_ (fun _ _ => ?_) | with_reducible refine Kwa_some ?_ | with_reducible refine Kwa_bo (fun _ => ?_) | with_reducible refine Kwa_T ?_ (fun _ _ _ => ?_) | with_reducible refine Kwa_H ?_ (fun _ _ _ => ?_) (fun _ _ => ?_) | with_reducible exact hG0 _ (by assumption) | with_reducible exact hG1 _ _ _ (by assumption) | with_reducible refine Kwa_ltv (fun _ => ?_) | with_reducible refine Kwa_I ?_ (by decide) | with_reducible refine Kwa_A ?_ (by decide) | with_reducible refine Kwa_I ?_ (by unfold pq; omega) | with_reducible refine Kwa_A ?_ (by unfold pq; omega) | with_reducible refine Kwa_J ?_ | with_reducible refine Kwa_L ?_ | with_reducible refine Kwa_sw ?_)
theorem ywa_hb_Wl_settle_40 {G : (MS → Option (MS × Unit)) × (MS → Nat → Int32 → Option (MS × Unit))} {v1 : Nat} {v2 : Int32} (h : Kwac u0 u) (hG0 : ∀ (u : MS), Kwac u0 u → KwaE u0 (G.1 u)) (hG1 : ∀ (u : MS) a0 a1, Kwac u0 u → KwaE u0 (G.2 u a0 a1)) : KwaE u0 (hb_Wl_settle_40 N G u v1 v2) := by
  unfold hb_Wl_settle_40
  repeat' (first | with_reducible assumption | with_reducible refine Kwa_br ?_ ?_ | with_reducible refine Kwa_bnd ?_ (fun _ _ _ => ?_) | with_reducible refine Kwa_ck ?_ | with_reducible refine Kwa_ltm ?_ (fun _ _ => ?_) | with_reducible refine Kwa_some ?_ | with_reducible refine Kwa_bo (fun _ => ?_) | with_reducible refine Kwa_T ?_ (fun _ _ _ => ?_) | with_reducible refine Kwa_H ?_ (fun _ _ _ => ?_) (fun _ _ => ?_) | with_reducible exact ywa_hb_Wl_settle_104 (by assumption) hG0 hG1 | with_reducible exact ywa_hb_Wl_settle_88 (by assumption) hG0 hG1 | with_reducible exact ywa_hm_Wl_tellWatchers (by assumption) | with_reducible exact ywa_hm_Pr_removeLink (by assumption) | with_reducible exact ywa_hm_Wl_signal (by assumption) | with_reducible exact ywa_hm_Wl_find (by assumption) | with_reducible exact hG0 _ (by assumption) | with_reducible exact hG1 _ _ _ (by assumption) | with_reducible refine Kwa_ltv (fun _ => ?_) | with_reducible refine Kwa_I ?_ (by decide) | with_reducible refine Kwa_A ?_ (by decide) | with_reducible refine Kwa_I ?_ (by unfold pq; omega) | with_reducible refine Kwa_A ?_ (by unfold pq; omega) | with_reducible refine Kwa_J ?_ | with_reducible refine Kwa_L ?_ | with_reducible refine Kwa_sw ?_)
theorem ywa_hb_Wl_settle_0 {G : (MS → Option (MS × Unit)) × (MS → Nat → Int32 → Option (MS × Unit))} (h : Kwac u0 u) (hG0 : ∀ (u : MS), Kwac u0 u → KwaE u0 (G.1 u)) (hG1 : ∀ (u : MS) a0 a1, Kwac u0 u → KwaE u0 (G.2 u a0 a1)) : KwaE u0 (hb_Wl_settle_0 N G u) := by
  unfold hb_Wl_settle_0
  repeat' (first | with_reducible assumption | with_reducible refine Kwa_br ?_ ?_ | with_reducible refine Kwa_bnd ?_ (fun _ _ _ => ?_) | with_reducible refine Kwa_ck ?_ | with_reducible refine Kwa_ltm ?_ (fun _ _ => ?_) | with_reducible refine Kwa_some ?_ | with_reducible refine Kwa_bo (fun _ => ?_) | with_reducible refine Kwa_T ?_ (fun _ _ _ => ?_) | with_reducible refine Kwa_H ?_ (fun _ _ _ => ?_) (fun _ _ => ?_) | with_reducible exact ywa_hb_Wl_settle_104 (by assumption) hG0 hG1 | with_reducible exact hG0 _ (by assumption) | with_reducible exact hG1 _ _ _ (by assumption) | with_reducible refine Kwa_ltv (fun _ => ?_) | with_reducible refine Kwa_I ?_ (by decide) | with_reducible refine Kwa_A ?_ (by decide) | with_reducible refine Kwa_I ?_ (by unfold pq; omega) | with_reducible refine Kwa_A ?_ (by unfold pq; omega) | with_reducible refine Kwa_J ?_ | with_reducible refine Kwa_L ?_ | with_reducible refine Kwa_sw ?_)
theorem ywa_hg_Wl_settle  (n : Nat) : (∀ (u : MS), Kwac u0 u → KwaE u0 ((hg_Wl_settle N n).1 u)) ∧ (∀ (u : MS) a0 a1, Kwac u0 u → KwaE u0 ((hg_Wl_settle N n).2 u a0 a1)) := by
  induction n with
  | zero => exact ⟨fun _ _ => Kwa_none, fun _ _ _ _ => Kwa_none⟩
  | succ n ih => exact ⟨fun _ h => ywa_hb_Wl_settle_0 (N := N) h ih.1 ih.2, fun _ _ _ h => ywa_hb_Wl_settle_40 (N := N) h ih.1 ih.2⟩
theorem ywa_hm_Wl_settle  (h : Kwac u0 u)  : KwaE u0 (hm_Wl_settle N u) := by
  unfold hm_Wl_settle
  exact ywa_hb_Wl_settle_0 h ((ywa_hg_Wl_settle N).1) ((ywa_hg_Wl_settle N).2)
theorem ywa_hb_Wl_postPair_17 {G : Unit} (h : Kwac u0 u)  : KwaE u0 (hb_Wl_postPair_17 N G u) := by
  unfold hb_Wl_postPair_17
  repeat' (first | with_reducible assumption | with_reducible refine Kwa_br ?_ ?_ | with_reducible refine Kwa_bnd ?_ (fun _ _ _ => ?_) | with_reducible refine Kwa_ck ?_ | with_reducible refine Kwa_ltm ?_ (fun _ _ => ?_) | with_reducible refine Kwa_some ?_ | with_reducible refine Kwa_bo (fun _ => ?_) | with_reducible refine Kwa_T ?_ (fun _ _ _ => ?_) | with_reducible refine Kwa_H ?_ (fun _ _ _ => ?_) (fun _ _ => ?_) | with_reducible refine Kwa_ltv (fun _ => ?_) | with_reducible refine Kwa_I ?_ (by decide) | with_reducible refine Kwa_A ?_ (by decide) | with_reducible refine Kwa_I ?_ (by unfold pq; omega) | with_reducible refine Kwa_A ?_ (by unfold pq; omega) | with_reducible refine Kwa_J ?_ | with_reducible refine Kwa_L ?_ | with_reducible refine Kwa_sw ?_)
theorem ywa_hb_Wl_postPair_0 {G : Unit} {v1 : Nat} {v2 : Int32} (h : Kwac u0 u)  : KwaE u0 (hb_Wl_postPair_0 N G u v1 v2) := by
  unfold hb_Wl_postPair_0
  repeat' (first | with_reducible assumption | with_reducible refine Kwa_br ?_ ?_ | with_reducible refine Kwa_bnd ?_ (fun _ _ _ => ?_) | with_reducible refine Kwa_ck ?_ | with_reducible refine Kwa_ltm ?_ (fun _ _ => ?_) | with_reducible refine Kwa_some ?_ | with_reducible refine Kwa_bo (fun _ => ?_) | with_reducible refine Kwa_T ?_ (fun _ _ _ => ?_) | with_reducible refine Kwa_H ?_ (fun _ _ _ => ?_) (fun _ _ => ?_) | with_reducible exact ywa_hb_Wl_postPair_17 (by assumption) | with_reducible exact ywa_hm_Wl_endsBy (by assumption) | with_reducible exact ywa_hm_Pr_comes (by assumption) | with_reducible exact ywa_hm_Pr_want (by assumption) | with_reducible exact ywa_hm_Te_make (by assumption) | with_reducible refine Kwa_ltv (fun _ => ?_) | with_reducible refine Kwa_I ?_ (by decide) | with_reducible refine Kwa_A ?_ (by decide) | with_reducible refine Kwa_I ?_ (by unfold pq; omega) | with_reducible refine Kwa_A ?_ (by unfold pq; omega) | with_reducible refine Kwa_J ?_ | with_reducible refine Kwa_L ?_ | with_reducible refine Kwa_sw ?_)
theorem ywa_hm_Wl_postPair {v1 : Nat} {v2 : Int32} (h : Kwac u0 u)  : KwaE u0 (hm_Wl_postPair N u v1 v2) := by
  unfold hm_Wl_postPair
  exact ywa_hb_Wl_postPair_0 h
end
end
