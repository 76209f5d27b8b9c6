/-! an error that holds a term: {ATOM, T} goes up -/
set_option maxRecDepth 100000
section
variable {Sf : MS → Int32 → Prop} {N p U B W Wc Y a : Nat} {m w m2 : MS} {t x : Int64} {ow kd ow' kd' : Nat → Nat} {Fv Fv' : Int64 → Int64 → Prop} {P P' : Int64 → Prop} {how ar v : Int} {j : Nat} {nb : Nat → Nat} {Hs Os : Nat → List Nat} {y : Option (Nat × Nat × Nat)} {b : Int → Nat → Nat → Prop}
/-- an ATOM and a term, there: good terms behind it -/
theorem PTQ_pair (pt : PTQ m p U ow kd Fv P B W Y) (cx : CTX Fv P m) (g : GT U ow kd P t) (h5 : U + 3 ≤ 500) (hv : 0 ≤ v ∧ v < 22) : PK (fun m2 r => ∃ ow2 kd2, PTQ m2 p (U + 3) ow2 kd2 Fv P B W Y ∧ GT (U + 3) ow2 kd2 P r) (hm_Pr_pair N m p (I v) t) := by
  obtain ⟨z, rfl⟩ : ∃ z : Nat, v = ((z : Nat) : Int) := ⟨v.toNat, by omega⟩
  refine pk_mo (pk_ok (pair_t (N := N) cx pt.1.1 (by omega) pt.1.2.2 g (a := z) (by omega))) (fun w r h => ?_)
  obtain ⟨fc, h4, -, ow2, kd2, k1, k2, k3⟩ := h
  exact ⟨ow2, kd2, PTQ_cells pt fc h4 h5 k1 k3, k2⟩
/-- and here -/
theorem CX_two (hq : p < 24) (h3 : F w 133 = ((p : Nat) : Int)) (hu : A w 89 p = ((U : Nat) : Int)) (xc : CX w p (hp w p) U ow' kd' Fv' P' W B Y) (g : GT U ow' kd' P' x) (pa : P' (mk 1 v)) (h5 : U + 3 ≤ 500) : PK (fun w2 r => ∃ ow2 kd2, CX w2 p (hp w2 p) (U + 3) ow2 kd2 Fv' P' W B Y ∧ GT (U + 3) ow2 kd2 P' r) (fm_M_two N w (I v) x) := by
  refine pk_mo (two_r (N := N) (v := v) (x := x) hq h3 hu h5) (fun w2 r h => ?_)
  obtain ⟨rfl, rfl⟩ := h
  obtain ⟨-, q2, q3, q4, q5, q6, q7, q8, q9, q10, q11⟩ := xc
  have cw : ∀ i, hp (wa (wj (wj (wj w 88 (500 * p + U) 2) 88 (500 * p + (U + 1)) (mk 1 v)) 88 (500 * p + (U + 2)) x) 89 p ((U + 3 : Nat) : Int)) p i = if i = U + 2 then x else if i = U + 1 then mk 1 v else if i = U then 2 else hp w p i := fun i => by
    show (wj (wj (wj w 88 (500 * p + U) 2) 88 (500 * p + (U + 1)) (mk 1 v)) 88 (500 * p + (U + 2)) x).2.2.2 88 (500 * p + i) = _
    rw [wj_row, wj_row, wj_row]
    by_cases c1 : i = U + 2
    · rw [if_pos c1, if_pos (by omega)]
    · rw [if_neg c1, if_neg (by omega)]
      by_cases c2 : i = U + 1
      · rw [if_pos c2, if_pos (by omega)]
      · rw [if_neg c2, if_neg (by omega)]
        by_cases c3 : i = U
        · rw [if_pos c3, if_pos (by omega)]
        · rw [if_neg c3, if_neg (by omega)]
          rfl
  have e5 : so (mk 5 ((U : Nat) : Int)) = 5 := so_mk (by omega) (by omega)
  have v5 : va (mk 5 ((U : Nat) : Int)) = ((U : Nat) : Int) := va_mk (by omega) (by omega)
  have n5 : vn (mk 5 ((U : Nat) : Int)) = U := by unfold vn; rw [v5]; omega
  have va2 : va (2 : Int64) = 2 := by decide
  have na : ¬ isH (mk 1 v) := nh_mk (by omega)
  generalize hw2 : wa (wj (wj (wj w 88 (500 * p + U) 2) 88 (500 * p + (U + 1)) (mk 1 v)) 88 (500 * p + (U + 2)) x) 89 p ((U + 3 : Nat) : Int) = w2 at cw ⊢
  have c0 : hp w2 p U = 2 := by rw [cw, if_neg (by omega), if_neg (by omega), if_pos rfl]
  have c1 : hp w2 p (U + 1) = mk 1 v := by rw [cw, if_neg (by omega), if_pos rfl]
  have c2 : hp w2 p (U + 2) = x := by rw [cw, if_pos rfl]
  have bb : blk (hp w2 p) (mk 5 ((U : Nat) : Int)) = 3 := by unfold blk; rw [e5, n5, c0]; simp; unfold vn; rw [va2]; decide
  have pp : prt (mk 5 ((U : Nat) : Int)) = 1 := by unfold prt; rw [e5]; rfl
  obtain ⟨ow2, kd2, r1, r2, r3, -⟩ := HP_new (h2 := hp w2 p) (m := 3) (x := mk 5 ((U : Nat) : Int)) q2 (fun i hi => by rw [cw, if_neg (by omega), if_neg (by omega), if_neg (by omega)]) (Or.inr (Or.inl e5)) (by omega) n5 bb (fun _ => by rw [c0]; exact HDC2) (fun e => by omega) (fun i h1 h2 => by
    rw [pp] at h1
    by_cases e : i = 1
    · rw [e, c1]; exact Or.inl ⟨na, pa⟩
    · have : i = 2 := by omega
      rw [this, c2]; exact g) (Or.inl ⟨e5, rfl, by rw [c1]; exact na⟩)
  have fr : FR [] [] [89] [88] w w2 := by rw [← hw2]; exact FR.wa (FR.wj (FR.wj (FR.wj FR.rf (by simp)) (by simp)) (by simp)) (by simp)
  refine ⟨ow2, kd2, ⟨rfl, r1, h5, q4, ⟨by rw [FR.A fr (by simp)]; exact q5.1, q5.2⟩, ⟨by rw [FR.A fr (by simp)]; exact q6.1, q6.2⟩, ⟨by rw [FR.A fr (by simp)]; exact q7.1, q7.2⟩, fun i hi => by rw [fr.2.2.2 91 (by simp)]; exact r3 _ (q8 i hi), fun i hi => by rw [fr.2.2.2 93 (by simp)]; exact r3 _ (q9 i hi), fun i hi => by rw [fr.2.2.2 107 (by simp)]; exact r3 _ (q10 i hi), fun e => by rw [fr.2.1 139 (by simp)]; exact r3 _ (q11 (by rw [← FR.F fr (by simp)]; exact e))⟩, r2⟩
/-- fewer terms wait -/
theorem PTQ_drop (pt : PTQ m p U ow kd Fv P B Wc Y) (hW : W ≤ Wc) : PTQ (wi m (pq p 26) ((W : Nat) : Int)) p U ow kd Fv P B W Y := by
  have bb := PTQ_b pt
  obtain ⟨⟨q1, q2, q3⟩, ⟨q4, q5⟩, ⟨q6, q7⟩, ⟨q8, q9⟩, ⟨l1, e1, e2, e3⟩, ⟨l2, e4, e5, e6⟩, e7⟩ := pt
  exact ⟨⟨by rw [wi_ne (pq_inj (by omega))]; exact q1, q2, q3⟩, ⟨by rw [wi_ne (pq_inj (by omega))]; exact q4, q5⟩, ⟨wi_sm (by omega) (by omega), fun i hi => q7 i (by omega)⟩, ⟨by rw [wi_ne (pq_inj (by omega))]; exact q8, q9⟩, ⟨l1, by rw [wi_ne (pq_inj (by omega))]; exact e1, e2, e3⟩, ⟨l2, by rw [wi_ne (pq_inj (by omega))]; exact e4, by omega, e6⟩, e7⟩
theorem RUb_l10 (h : RUb m w p j nb Hs Os y) : RUb (wl m 1110 t) w p j nb Hs Os y := by
  obtain ⟨r1, ⟨r5, r6⟩, r7, ⟨r8, r9, r10⟩, r11, r12, r13⟩ := h
  refine ⟨FC_w r1 (fun k c => rfl) (fun k c => rfl) rfl (fun K c => rfl) (fun K r c1 c2 c3 c4 => rfl) (fun K c c1 c2 c3 => rfl) (fun _ _ => rfl) rfl, ⟨r5, r6⟩, ?_, ⟨r8, r9, r10⟩, r11, r12, r13⟩
  rcases r7 with ⟨c1, c2, c3⟩ | ⟨kd, k, sc, c1, fl, W0, O0, X, c2, ⟨c3, c4, c5, c6⟩, cw, c12, f2, g, c13⟩
  · exact Or.inl ⟨c1, c2, c3⟩
  · refine Or.inr ⟨kd, k, sc, c1, fl, W0, O0, X, c2, ⟨c3, c4, c5, c6⟩, cw, fun e3 => ?_, f2, g, c13⟩
    obtain ⟨d1, n2, d2⟩ := c12 e3
    exact ⟨⟨d1.1, by rw [wl_21 (fun c => pq_n (by omega) c.symm)]; exact d1.2⟩, n2, d2⟩
theorem GGm_l10 : GGm p m (wl m 1110 t) := ⟨fun d _ k hk => ⟨rfl, wl_21 (fun c => pq_n (by omega) c.symm), rfl, rfl⟩, ⟨rfl, rfl, rfl, rfl⟩, rfl, rfl, rfl, fun _ _ => rfl, fun k hk => rfl⟩
/-- what is told with an ATOM around it, there -/
theorem raise_o (h12 : F m 1112 = 0) (hr : RG how) (ha : 0 ≤ ar ∧ ar < 22) : hm_Ma_raise N (tld m how ar t) p = bnd (hm_Fr_push N (trs m how ar t) p t) (fun u29 _ => bnd (hm_Ma_wrap N u29 p (u29.1 1111)) (fun u32 r32 => br (decide (r32 = 0)) (some (u32, ())) (bnd (hm_Fr_below N u32 p 0) (fun u34 r34 => lt (upL u34 1110 r34) (fun w36 => hb_Ma_raise_65 N () w36 p (I how)))))) := by
  unfold hm_Ma_raise hb_Ma_raise_0
  have e1 : F (trs m how ar t) 1112 = 0 := (congrArg Int32.toInt (trs_1 (by omega) (by omega))).trans h12
  have e2 : F (trs m how ar t) 1111 = ar := trs_11 ⟨by omega, by omega⟩
  rw [show upI (tld m how ar t) 1109 0 = trs m how ar t from rfl, lt_e, I_F' e1, show decide (I 0 = 0) = true from rfl, br_t, I_F' e2, show (-1 : Int32) = I (-1) from rfl, decE (by omega) (by omega) (by omega) (by omega), decide_eq_false (by omega), br_f, trs_10, I_F' (tld_9 hr)]
end
section
variable {Sf : MS → Int32 → Prop} {β : Type} {b : Int → Nat → Nat → Prop} {N p PR U B W Y j ee ee' d : Nat} {m w : MS} {t x : Int64} {nb : Nat → Nat} {Hs Os : Nat → List Nat} {Q : MS → Int32 → MS → β → Prop} {K2 : MS → Option (MS × β)} {ow kw ow' kd' : Nat → Nat} {Fv Fv' : Int64 → Int64 → Prop} {P P' : Int64 → Prop} {ar : Int} {v3 : Int32} {G : MS → Nat → Int32 → Option (MS × Int32)}
/-- an error with a term goes up -/
theorem errOf_pp (hpp : p < 24) (hpr : p < PR) (pl : PLs b p m w U B W Y) (ru : RUb m w p j nb Hs Os none) (bd : B ≤ 2500 ∧ W < 46000) (lb : LNB m p) (pt : PTQ m p U ow kw Fv P B W Y) (cx : CTX Fv P m) (xc : CX w p (hp w p) U ow' kd' Fv' P' W B Y) (pb : PB P' PR) (g : GT U ow kw P t) (g' : GT U ow' kd' P' x) (rt : RTb b t x) (ca : CTa m w p W) (har : 0 ≤ ar ∧ ar < 22) (hee : F m 955 = ((ee : Nat) : Int) ∧ ee < 24) (hee' : F w 150 = ((ee' : Nat) : Int) ∧ ee' < 4000) (hN : 2200000 ≤ N)
    (kk : ∀ b3 U3 W3 r k a0 nn m3 w3, PLs b3 p m3 w3 U3 (nb r + (Hs r).length + k) (W3 + 1) Y → RUs m3 w3 p r nb Hs (tkO Os r k) none a0 nn → GGm p m m3 → GGw p w w3 → (SCs p m w → SCs p m3 w3) → PP Q (q206 Sf N G m3 p v3) (K2 w3))
    (ke : ∀ m3 w3 wr t3 x3, GGm p m m3 → GGw p w w3 → (SCs p m w → SCs p m3 w3) → m3.1 (pq p 5) = w3.2.2.1 90 p → (wr = 0 ∨ wr = 1 ∨ wr = 2) → RQs Fv P Fv' P' PR (enS m3 p t3 p ee) (enR w3 p wr ((p : Nat) : Int) x3 ee') p wr p x3 → PP Q (q206 Sf N G (enS m3 p t3 p ee) p v3) (K2 (wi (enR w3 p wr ((p : Nat) : Int) x3 ee') 151 1))) : PP Q (q195 Sf N G (tld m 1 ar t) p v3) (bnd ((rc_M_error N d).2.1 w (I ar) x) (fun u _ => K2 u)) := by
  cases d with
  | zero => exact pp_nr
  | succ d =>
  show PP Q _ (bnd (fm_M_errorOf N (rc_M_error N d) w (I ar) x) (fun u _ => K2 u))
  obtain ⟨⟨fa, ct⟩, ⟨r5, r6⟩, r7, ⟨r8, r9, r10⟩, r11, r12, r13⟩ := id ru
  obtain ⟨h12, h152⟩ : F m 1112 = 0 ∧ F w 152 = 0 := by
    rcases r7 with ⟨_, c3, c4⟩ | ⟨_, _, _, c, _⟩
    · exact ⟨c3, c4⟩
    · cases c
  have hj : j < 60 := fa.1.2.2
  have sc' : SCs p m w → SCs p (trs m 1 ar t) w := fun s => SC_ow s (fun _ _ => trs_q) rfl (fun _ _ _ => rfl)
  unfold fm_M_errorOf fb_M_errorOf_0 fb_M_errorOf_66
  refine err195 (by omega) ?_
  rw [raise_o h12 ⟨by omega, by omega⟩ har, I_F' h152, show decide (I 0 = 0) = true from rfl, br_t, I_F' r11, hand_e, bnd_so]
  refine l_bb (r_bb ?_)
  have pl0 := PLs_trs (how := 1) (ar := ar) (t := t) pl
  have pt0 := PTQ_trs (how := 1) (ar := ar) (t := t) pt
  have ru0 := RUb_trs (how := 1) (ar := ar) (t := t) ru
  obtain ⟨l, e45, lw, lm⟩ := pt0.2.2.2.2.2.1
  refine l_bnd (pk_mo (pk_and (push_m (N := N) (t := t) pl0.2.2.1.1 e45 lw lm) (pk_ok (push_t (N := N) (t := t) pt0 (LNB_trs lb) (by omega) g))) (fun m3 _ h => ?_))
  obtain ⟨⟨h1, h2, h3⟩, -, p3, lb3, -⟩ := h
  have i3 : ∀ k, k < 2000 → m3.1 k = (trs m 1 ar t).1 k := fun k hk => h1.1 k (by simp; unfold pq; omega)
  have q3 : ∀ k, k ≠ 26 → k ≠ 45 → m3.1 (pq p k) = m.1 (pq p k) := fun k d3 d5 => by
    rw [h1.1 _ (by
      simp only [List.mem_cons, List.not_mem_nil, or_false]
      intro z
      rcases z with z | z
      · exact pq_inj d3 z
      · exact pq_inj d5 z)]
    exact trs_q
  have jn : ∀ k, k ≠ 35 → m3.2.2.2 (pq p k) = m.2.2.2 (pq p k) := fun k hk => h1.2.2.2 _ (by simp; exact pq_inj hk)
  have e11 : F m3 1111 = ar := (congrArg Int32.toInt (i3 1111 (by omega))).trans (trs_11 ⟨by omega, by omega⟩)
  have pl3 : PLs b p (wi m3 (pq p 26) ((W : Nat) : Int)) w U B W Y := by
    refine PLs_cg pl (fun k hk => ?_) (fun i _ => by show m3.2.2.2 (pq p 2) i = _; rw [jn 2 (by omega)]) (fun i _ => by show m3.2.2.2 (pq p 33) i = _; rw [jn 33 (by omega)]) (fun i hi => by show m3.2.2.2 (pq p 35) i = _; rw [h3 i (by omega), if_neg (by omega)]; rfl) (fun i _ => by show m3.2.2.2 (pq p 6) i = _; rw [jn 6 (by omega)]) (fun _ _ => rfl) (fun _ _ => rfl) (fun _ _ => rfl) (fun _ _ => rfl) (fun _ _ => rfl)
    by_cases d6 : k = 26
    · subst d6
      rw [I_F' pl.2.2.1.1]
      exact wi_s1
    · rw [wi_1 (pq_inj d6)]
      exact q3 k d6 (by simp at hk; omega)
  have rp := room_pe (N := N) (e := 1) (ee := ee) (x := x) p3 (CTX_fr cx ((i3 22 (by omega)).trans (trs_1 (by omega) (by omega))) (h1.2.2.1 3 (by simp))) xc pl3 (fun i c1 c2 => by
    have : i = W := by omega
    subst this
    rw [h3 i (Nat.le_refl _), if_pos rfl]
    exact rt) g' (by omega) (by omega) (by
    show (m3.1 (pq p 9)).toInt ≠ 3
    rw [q3 9 (by omega) (by omega)]
    have : (m.1 (pq p 9)).toInt = 0 := r5
    omega) ⟨by show (m3.1 955).toInt = _; rw [i3 955 (by omega), trs_1 (by omega) (by omega)]; exact hee.1, hee.2⟩ r11 hN
  rw [hand_e, bnd_so] at rp
  refine l_bb ?_
  unfold hm_Ma_wrap hb_Ma_wrap_0
  refine l_bb ?_
  have f3 : FGm p (trs m 1 ar t) m3 := FGm.push h1
  refine pp_bb (pp_mo rp (fun m4 r4 w4 r5' q9 => ?_))
  have wF : ∀ {z : MS}, XRr p (wl (wi w 140 ((p : Nat) : Int)) 139 x) z → F z 133 = ((p : Nat) : Int) := fun h => by rw [FR.F h.1 (by simp), F_wl, wi_ne (by omega)]; exact r11
  rcases q9 with ⟨rfl, rfl, a4, a5, b2, U2, pl4, hx4, rm4, ⟨ow2, kd2, pt4⟩, ow3, kd3, xc4⟩ | ⟨rfl, rfl, m5, a4, a5, rfl, h5⟩
  · rw [handN_e, bnd_so, show decide ((1 : Int32) = 0) = false from rfl, br_f, br_f]
    obtain ⟨l4, e1, e2, e3⟩ := pt4.2.2.2.2.2.1
    have be : hm_Fr_below N m4 p 0 = some (m4, m4.2.2.2 (pq p 35) W) := by
      have := below_e (N := N) (x := 0) (k := 0) (W := W + 1) (l := l4) pt4.2.2.1.1 e1 e2 e3 rfl (by omega)
      rw [show W + 1 - 1 - 0 = W by omega] at this
      exact this
    have w133 : F (wl (wi w4 140 (-1)) 139 (mk 6 0)) 133 = ((p : Nat) : Int) := by
      rw [F_wl, wi_ne (by omega)]
      exact wF a5
    have w140 : F w4 140 = ((p : Nat) : Int) := by
      rw [FR.F a5.1 (by simp), F_wl, wi_sm (by omega) (by omega)]
    have hU4 : F m4 (pq p 4) = ((U2 : Nat) : Int) := pt4.1.1
    have hu4 : A (wl (wi w4 140 (-1)) 139 (mk 6 0)) 89 p = ((U2 : Nat) : Int) := pl4.1.1.2.1
    rw [be, bnd_so]
    refine l_bb (r_bb ?_)
    have m11 : m3.1 1111 = I ar := I_F' e11
    rw [m11]
    have cx4 : CTX Fv P m4 := CTX_fr cx ((XRm_G a4 (by omega)).trans ((i3 22 (by omega)).trans (trs_1 (by omega) (by omega)))) ((a4.2.2.1 3 (by simp)).trans (h1.2.2.1 3 (by simp)))
    have pp1 := pair_pp (N := N) (b := b2) (t := m4.2.2.2 (pq p 35) W) (x := w4.2.1 139) (v := ar) hpp w133 hU4 hu4 rm4 pl4.1.2.1 (hx4 W (Nat.le_refl _) (by omega)) ⟨by omega, by omega⟩
    have pp2 := PTQ_pair (N := N) (v := ar) pt4 cx4 (pt4.2.2.1.2 W (by omega)) rm4 har
    have pp3 := CX_two (N := N) (v := ar) hpp w133 hu4 (CX_hand (z := -1) (x := mk 6 0) xc4 (Or.inl ⟨nh_mk (by omega), pb.2.2.2.2⟩)) (xc4.2.2.2.2.2.2.2.2.2.2 w140) (pb.1 ar har.1 har.2) rm4
    refine pp_bb (fun m6 t6 w6 x6 ee1 ee2 => ?_)
    obtain ⟨b3, is6, rt6, mo, ⟨u6, v6⟩, fm6, fw6, l6, l6'⟩ := pp1 m6 t6 w6 x6 ee1 ee2
    obtain ⟨ow5, kd5, pt6, gt6⟩ := pp2 m6 t6 ee1
    obtain ⟨ow6, kd6, xc6, gx6⟩ := pp3 w6 x6 ee2
    have i6 : ∀ k, k ≠ 4 → m6.1 (pq p k) = m4.1 (pq p k) := fun k hk => fm6.1 _ (by simp; exact pq_inj hk)
    have e26 : F m6 (pq p 26) = ((W + 1 : Nat) : Int) := pt6.2.2.1.1
    unfold hm_Ma_answer hb_Ma_answer_0
    rw [show (1 : Int32) = I 1 from rfl, drop_e (W := W + 1) (k := 1) (x := 1) e26 rfl (by omega), bnd_so, Nat.add_sub_cancel]
    refine l_bb (l_bb ?_)
    have pl6 : PLs b3 p (wi m6 (pq p 26) ((W : Nat) : Int)) w6 (U2 + 3) B W Y := by
      refine PLs_new (PLs_h (o := -1) (t := mk 6 0) pl4) mo (fun k hk => ?_) (fun k hk => ?_) (fun K hK => by rw [fw6.2.2.1 K (by simp at hK ⊢; omega)]) (fun K hK => fw6.2.2.2 K (by simp at hK ⊢; omega)) ?_ v6 (by omega) is6
      · by_cases d6 : k = 26
        · subst d6
          rw [wi_s1, wi_s1]
        · rw [wi_1 (pq_inj d6), wi_1 (pq_inj d6), i6 k (by simp at hk; omega)]
      · show m6.2.2.2 (pq p k) = m4.2.2.2 (pq p k)
        exact fm6.2.2.2 _ (by simp; exact pq_inj (by simp at hk; omega))
      · rw [wi_ne (pq_inj (by omega))]; exact u6
    have pt6' := PTQ_drop (W := W) pt6 (by omega)
    have lb6 : LNB (wi m6 (pq p 26) ((W : Nat) : Int)) p := LNB_fc lb3 (fun k hk => by
      rw [wi_1 (pq_inj (by simp at hk; omega)), i6 k (by simp at hk; omega)]
      exact XRm_F a4 (by simp at hk; omega) (by simp at hk; omega))
    obtain ⟨l6a, e61, e62, e63⟩ := pt6'.2.2.2.2.2.1
    refine l_bnd (pk_mo (pk_and (push_m (N := N) (t := t6) pl6.2.2.1.1 e61 e62 e63) (pk_ok (push_t (N := N) (t := t6) pt6' lb6 (by omega) gt6))) (fun m8 _ h => ?_))
    obtain ⟨⟨z1, z2, z3⟩, -, p8, lb8, -⟩ := h
    obtain ⟨l8, e81, e82, e83⟩ := p8.2.2.2.2.2.1
    have be8 : hm_Fr_below N m8 p 0 = some (m8, t6) := by
      have := below_e (N := N) (x := 0) (k := 0) (W := W + 1) (l := l8) p8.2.2.1.1 e81 e82 e83 rfl (by omega)
      rw [show W + 1 - 1 - 0 = W by omega, z3 W (Nat.le_refl _), if_pos rfl] at this
      exact this
    show PP Q (bnd (br (decide (I 1 = 0)) (some (m8, ())) (bnd (hm_Fr_below N m8 p 0) (fun u34 r34 => lt (upL u34 1110 r34) (fun w36 => hb_Ma_raise_65 N () w36 p (I 1))))) (fun u _ => q206 Sf N G u p v3)) _
    rw [show decide (I 1 = 0) = false from rfl, br_f, be8, bnd_so, wl_e, lt_e]
    refine r_bb ?_
    cases d with
    | zero => exact pp_nr
    | succ d =>
    show PP Q _ (bnd (fm_M_goesUp N (rc_M_error N d) w6 (I 0) x6) (fun u _ => K2 u))
    have f8 : FGm p (trs m 1 ar t) m8 := FGm.tr (FGm.tr (FGm.tr (FGm.tr f3 (FGm_xr a4)) (FGm_pa fm6)) FGm.drop) (FGm.push z1)
    have g8 : FGw p j w w6 := FGw.tr (FGw.tr (FGw.tr FGw_hand (FGw_xr a5)) FGw_hand) (FGw_two fw6 l6 l6')
    have i8 : ∀ k, k < 2000 → k ≠ 1105 → m8.1 k = (trs m 1 ar t).1 k := fun k hk h5 => f8.1 k (by simp; unfold pq; omega)
    have q8 : ∀ k, k ≠ 4 → k ≠ 5 → k ≠ 26 → k ≠ 45 → m8.1 (pq p k) = m.1 (pq p k) := fun k d4 d5 d6 d7 => by
      rw [f8.1 _ (by
        simp only [List.mem_cons, List.not_mem_nil, or_false]
        intro z
        rcases z with z | z | z | z | z
        · exact pq_inj d4 z
        · exact pq_inj d5 z
        · exact pq_inj d6 z
        · exact pq_inj d7 z
        · exact pq_n (by omega) z.symm)]
      exact trs_q
    have gg8 : GGm p m (wl m8 1110 t6) := GGm.tr GGm_trs (GGm.tr (GGm_fg f8) GGm_l10)
    have gw8 : GGw p w w6 := GGw_fg g8 hj
    have sc8 : SCs p m w → SCs p (wl m8 1110 t6) w6 := fun s => SC_ow (SC_fg (sc' s) f8 g8) (fun _ _ => rfl) rfl (fun _ _ _ => rfl)
    have pl8 : PLs b3 p (wi (wl m8 1110 t6) (pq p 26) ((W : Nat) : Int)) w6 (U2 + 3) B W Y := by
      have jn8 : ∀ k, k ≠ 35 → m8.2.2.2 (pq p k) = m6.2.2.2 (pq p k) := fun k hk => z1.2.2.2 _ (by simp; exact pq_inj hk)
      refine PLs_cg pl6 (fun k hk => ?_) (fun i _ => by show m8.2.2.2 (pq p 2) i = _; rw [jn8 2 (by omega)]; rfl) (fun i _ => by show m8.2.2.2 (pq p 33) i = _; rw [jn8 33 (by omega)]; rfl) (fun i hi => by show m8.2.2.2 (pq p 35) i = _; rw [z3 i (by omega), if_neg (by omega)]) (fun i _ => by show m8.2.2.2 (pq p 6) i = _; rw [jn8 6 (by omega)]; rfl) (fun _ _ => rfl) (fun _ _ => rfl) (fun _ _ => rfl) (fun _ _ => rfl) (fun _ _ => rfl)
      by_cases d6 : k = 26
      · subst d6
        rw [wi_s1, wi_s1]
      · rw [wi_1 (pq_inj d6)]
        show m8.1 (pq p k) = _
        exact z1.1 _ (by
          simp only [List.mem_cons, List.not_mem_nil, or_false] at hk ⊢
          intro z
          rcases z with z | z
          · exact pq_inj d6 z
          · exact pq_inj (by omega) z)
    have aw : ∀ K i, K = 104 ∨ K = 103 → A w6 K i = A w K i := fun K i hK => FR.A g8.1 (by simp; omega)
    have ca8 : CTa (wl m8 1110 t6) w6 p W := fun c hc => by
      obtain ⟨c1, ⟨W0, c2, c3⟩, c4⟩ := ca c ((congrArg Int32.toInt (q8 28 (by omega) (by omega) (by omega) (by omega))).symm.trans hc)
      exact ⟨c1, ⟨W0, by rw [aw 104 _ (by omega)]; exact c2, c3⟩, fun nd h => c4 nd (by rw [← aw 103 _ (by omega)]; exact h)⟩
    refine up_pp (K1 := fun u => q206 Sf N G u p v3) (Or.inl ⟨rfl, rfl⟩) hpp hpr pl8 (RUb_l10 (RUb_fg ru0 f8 g8)) (Wc := W + 1) (by omega) bd (LNB_fc lb8 (fun _ _ => rfl)) (PTQ_same p8 (fun _ _ => rfl) (fun _ _ => rfl)) (CTX_fr cx ((i8 22 (by omega) (by omega)).trans (trs_1 (by omega) (by omega))) (f8.2.2.1 3 (by simp))) xc6 pb (by rw [show (wl m8 1110 t6).2.1 1110 = t6 from wl_s1]; exact gt6) gx6 (by rw [show (wl m8 1110 t6).2.1 1110 = t6 from wl_s1]; exact rt6) ca8 ⟨by show (m8.1 955).toInt = _; rw [i8 955 (by omega) (by omega), trs_1 (by omega) (by omega)]; exact hee.1, hee.2⟩ ⟨by rw [FR.F g8.1 (by simp)]; exact hee'.1, hee'.2⟩ hN (fun b4 U4 W4 r k a0 nn m9 w9 c1 c2 c3 c4 c5 => kk b4 U4 W4 r k a0 nn m9 w9 c1 c2 (GGm.tr gg8 c3) (GGw.tr gw8 c4) (fun s => c5 (sc8 s))) (fun m9 w9 wr t9 x9 c1 c2 c3 c4 c5 c6 => ke m9 w9 wr t9 x9 (GGm.tr gg8 c1) (GGw.tr gw8 c2) (fun s => c3 (sc8 s)) c4 c5 c6)
  · rw [handN_e, bnd_so, show decide ((0 : Int32) = 0) = true from rfl, br_t, br_t]
    have w133 : F (wl (wi w4 140 (-1)) 139 (mk 6 0)) 133 = ((p : Nat) : Int) := by
      rw [F_wl, wi_ne (by omega)]
      exact wF a5
    have g4 : FGw p j w (wl (wi w4 140 (-1)) 139 (mk 6 0)) := FGw.tr (FGw.tr FGw_hand (FGw_xr a5)) FGw_hand
    have e109 : A (wl (wi w4 140 (-1)) 139 (mk 6 0)) 109 p ≠ 3 := by
      rw [FR.A g4.1 (by simp), r6]
      omega
    have e150 : F (wl (wi w4 140 (-1)) 139 (mk 6 0)) 150 = ((ee' : Nat) : Int) := by
      rw [FR.F g4.1 (by simp)]
      exact hee'.1
    rw [noR_e hpp w133 e109 e150 hee'.2]
    show PP Q (q206 Sf N G (enS m5 p (mk 1 20) p ee) p v3) _
    have f5 : FGm p (trs m 1 ar t) m5 := FGm.tr f3 (FGm_xr a4)
    have p20 : P (mk 1 20) := cx.2.2.2.2.2.1 20 (by omega) (by have := cx.2.2.2.1; omega)
    exact ke _ _ 0 _ _ (GGm.tr GGm_trs (GGm_fg f5)) (GGw_fg g4 hj) (fun s => SC_fg (sc' s) f5 g4) h5 (by omega) (RQ_lit hpr hpp (nh_mk (by omega)) (fun c => by rw [so_mk (by omega) (by omega)] at c; omega) p20 (pb.1 20 (by omega) (by omega)))
end
