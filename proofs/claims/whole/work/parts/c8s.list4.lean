/-! a list without a tail is made: there NIL comes first -/
set_option maxRecDepth 100000
section
variable {Sf : MS → Int32 → Prop} {β : Type} {b : Int → Nat → Nat → Prop} {Fv Fv' : Int64 → Int64 → Prop} {P P' : Int64 → Prop} {ow kd ow' kd' : Nat → Nat} {N p U B W Y l k j a n ee ee' M1 vk : Nat} {m w : MS} {nb : Nat → Nat} {Hs Os : Nat → List Nat} {y : Option (Nat × Nat × Nat)} {v : Int} {Q : MS → Int32 → MS → β → Prop} {K2 : MS → Option (MS × β)}
theorem op_list0 (hpp : p < 24) (pl : PLs b p m w U B (W + k) Y) (ru : RUs m w p j nb Hs Os y a n) (hW : W + k + 1 ≤ 46000) (hvk : vk + 1 < 1000000000) (h956 : F m 955 ≤ F m 956) (hl : F m (pq p 45) = ((l : Nat) : Int)) (hl2 : W + k ≤ l ∧ l ≤ 1000000) (lb : LNB m p) (pt : PTQ m p U ow kd Fv P B (W + k) Y) (cx : CTX Fv P m) (xc : CX w p (hp w p) U ow' kd' Fv' P' (W + k) B Y) (g : HPc (m.2.2.2 (pq p 2)) U ow kd Fv P) (g' : HP (hp w p) U ow' kd' Fv' P') (hF : FVc Fv) (p6 : P (mk 6 0)) (h140 : F w 140 = -1) (h25 : A w 25 n = ((k : Nat) : Int)) (h26 : A w 26 n = 0) (hk : 0 < k) (hk2 : k ≤ 100) (d1 : A m 23 (a + 1) = 6) (d2 : A m 23 (a + 2) = 0) (d3 : A m 23 (a + 3) = 5) (d4 : A m 23 (a + 3 + 1) = ((k : Nat) : Int)) (hee : F m 955 = ((ee : Nat) : Int) ∧ ee < 24) (hee' : F w 150 = ((ee' : Nat) : Int) ∧ ee' < 4000) (hN : 2200000 ≤ N) (cr : ∃ f, CRs (A m 23) (ROs w) (w.2.2.2 34) f y (a + 3 + 2) (n + 1) (Hs j) (Os j))
    (kS : ∀ M' vk' b3 U3 m3 w3, M' ≤ M1 → vk' ≤ vk + 1 → PLs b3 p m3 w3 U3 B (W + 1) Y → RUs m3 w3 p j nb Hs Os y (a + 3 + 2) (n + 1) → FGm p m m3 → FGw p j w w3 → PP Q (q195 Sf N (qgo Sf N M') m3 p (I ((vk' : Nat) : Int))) (K2 w3))
    (kX : ∀ M' vk' m3 w3, M' ≤ M1 → vk' ≤ vk + 1 → FGm p m m3 → FGw p j w w3 → PLs b p (wi m3 (pq p 26) ((W + k : Nat) : Int)) w3 U B (W + k) Y → RUb m3 w3 p j nb Hs Os y → PTQ m3 p U ow kd Fv P B (W + k + 1) Y → CX w3 p (hp w3 p) U ow' kd' Fv' P' (W + k) B Y → F w3 140 = -1 → PP Q (q195 Sf N (qgo Sf N M') (tld m3 1 (-1) (mk 1 11)) p (I ((vk' : Nat) : Int))) (bnd (fr_M_error N w3 11) (fun u _ => K2 u)))
    (kE : ∀ M' vk' m3 w3, M' ≤ M1 → vk' ≤ vk + 1 → FGm p m m3 → FGw p j w w3 → m3.1 (pq p 5) = w3.2.2.1 90 p → PP Q (q195 Sf N (qgo Sf N M') (enS m3 p (mk 1 20) p ee) p (I ((vk' : Nat) : Int))) (K2 (wi (enR w3 p 0 ((p : Nat) : Int) (mk 1 20) ee') 151 1))) : PP Q (bnd (hm_Ma_making N m p (I 1)) (fun u _ => q195 Sf N (qgo Sf N M1) u p (I ((vk : Nat) : Int)))) (bnd (fm_M_one N w (I ((n : Nat) : Int)) (I 5)) (fun u _ => K2 u)) := by
  obtain ⟨⟨fa, ct⟩, ⟨r2, r3⟩, ⟨f0, cr0⟩, ⟨r5, r6⟩, r7, ⟨r8, r9, r10⟩, r11, r12, r13⟩ := id ru
  have cb := CR_b cr0
  have hj : j < 60 := fa.1.2.2
  have cb2 : a + 3 + 2 + 1 < 24000 := by
    obtain ⟨f9, cr9⟩ := cr
    exact (CR_b cr9).1
  -- NIL, there
  rw [mak1, I_F' r2, show I ((a : Nat) : Int) + 1 = I ((a + 1 : Nat) : Int) from addN, Co_e (k := a + 1) rfl (by omega), bnd_so, d1, I_F' r2, show I ((a : Nat) : Int) + 2 = I ((a + 2 : Nat) : Int) from addN, Co_e (k := a + 2) rfl (by omega), bnd_so, d2, e_make, bnd_so]
  refine lb_bnd (pk_mo (pk_and (push_m (N := N) (t := mk 6 0) pl.2.2.1.1 hl hl2.1 hl2.2) (pk_ok (push_t (N := N) (t := mk 6 0) pt lb (by omega) (Or.inl ⟨nh_mk (by omega), p6⟩)))) (fun m0 _ hh => ?_))
  obtain ⟨⟨z1, z2, z3⟩, -, pt0, -⟩ := hh
  have e50 : F m0 1105 = ((a : Nat) : Int) := by rw [FR.F z1 (by simp [pq_n])]; exact r2
  rw [I_F' e50, show I ((a : Nat) : Int) + 3 = I ((a + 3 : Nat) : Int) from addN, wi_e, lt_e, bnd_so]
  generalize hm1 : wi m0 1105 ((a + 3 : Nat) : Int) = m1
  have f1 : FGm p m m1 := by rw [← hm1]; exact FGm.tr (FGm.push z1) FGm.pc
  have f1r : FR [pq p 26, pq p 45, 1105] [] [] [pq p 35] m m1 := by
    rw [← hm1]
    exact FR.wi (FR.mo z1 (by simp) (by simp) (by simp) (by simp)) (by simp)
  have g5 : F m1 1105 = ((a + 3 : Nat) : Int) := by rw [← hm1, wi_sm (by omega) (by omega)]
  have q1 : ∀ d, d ≠ 26 → d ≠ 45 → m1.1 (pq p d) = m.1 (pq p d) := fun d h1 h2 => f1r.1 _ (by
    simp only [List.mem_cons, List.not_mem_nil, or_false]
    intro c
    rcases c with c | c | c
    · exact pq_inj h1 c
    · exact pq_inj h2 c
    · exact pq_n (by omega) c.symm)
  have gF : ∀ d, d < 2000 → d ≠ 1105 → F m1 d = F m d := fun d h0 h => congrArg Int32.toInt (f1r.1 d (by simp [pq_n h0]; exact h))
  have g26 : F m1 (pq p 26) = ((W + k + 1 : Nat) : Int) := by rw [← hm1, wi_ne (fun c => pq_n (by omega) c.symm)]; exact z2
  have j35 : ∀ i, i ≤ W + k → m1.2.2.2 (pq p 35) i = if i = W + k then mk 6 0 else m.2.2.2 (pq p 35) i := fun i hi => by rw [← hm1]; exact z3 i hi
  have jd : ∀ d, d ≠ 35 → m1.2.2.2 (pq p d) = m.2.2.2 (pq p d) := fun d h => f1r.2.2.2 _ (by simp; exact pq_inj h)
  have a23 : ∀ i, A m1 23 i = A m 23 i := fun i => FR.A f1r (by simp)
  have pt1 : PTQ m1 p U ow kd Fv P B (W + k + 1) Y := PTQ_same pt0 (fun d _ => by rw [← hm1, wi_1 (fun c => pq_n (by omega) c.symm)]) (fun d _ => by rw [← hm1]; rfl)
  have cx1 : CTX Fv P m1 := CTX_fr cx (f1r.1 22 (by simp [pq_n])) (f1r.2.2.1 3 (by simp))
  obtain ⟨l1, e1l, e2l, e3l⟩ := pt1.2.2.2.2.2.1
  refine go195 ((gF 1109 (by omega) (by omega)).trans r9) (by rw [gF 955 (by omega) (by omega), gF 956 (by omega) (by omega)]; exact h956) (fun hsf => ?_)
  cases M1 with
  | zero => exact pp_nl
  | succ M1 =>
  show PP Q (q67 Sf N (qgo Sf N M1) m1 p (I ((vk + 1 : Nat) : Int))) _
  rw [go_mk ((congrArg Int32.toInt (q1 9 (by omega) (by omega))).trans r5) ((gF 1108 (by omega) (by omega)).trans r8) (by omega) g5 (by omega) ((a23 _).trans d3) ⟨by omega, by omega⟩, mak5, one_5, I_F' g5, show I ((a + 3 : Nat) : Int) + 1 = I ((a + 3 + 1 : Nat) : Int) from addN, Co_e (k := a + 3 + 1) rfl (by omega), bnd_so, a23, d4, show I ((n : Nat) : Int) + 1 = I ((n + 1 : Nat) : Int) from addN]
  refine l_bb (r_bb ?_)
  refine r_bnd (pk_mo (goto_r (N := N) (n := ((n + 1 : Nat) : Int)) hpp r11 fa.1.2.1 hj) (fun w1 _ e => ?_))
  subst e
  refine rb_ck (fun _ => rb_ck (fun _ => ?_))
  have e25 : A (wa w 98 (60 * p + j) ((n + 1 : Nat) : Int)) 25 n = ((k : Nat) : Int) := by rw [wa_rne (by omega)]; exact h25
  have e26 : A (wa w 98 (60 * p + j) ((n + 1 : Nat) : Int)) 26 n = ((0 : Nat) : Int) := by rw [wa_rne (by omega)]; exact h26
  rw [tnI (n := n) rfl (by omega), I_A' e25, I_A' e26]
  refine r_bb ?_
  generalize hw1 : wa w 98 (60 * p + j) ((n + 1 : Nat) : Int) = w1
  have g1 : FGw p j w w1 := by rw [← hw1]; exact FGw.goto
  have plw : PLs b p m w1 U B (W + k) Y := by rw [← hw1]; exact PLs_98 pl
  have x33 : F w1 133 = ((p : Nat) : Int) := by rw [← hw1]; exact r11
  have x98 : A w1 98 (60 * p + j) = ((n + 1 : Nat) : Int) := by rw [← hw1, wa_sm (by omega) (by omega)]
  have hp1 : hp w1 p = hp w p := by rw [← hw1]; rfl
  have xc1 : CX w1 p (hp w1 p) U ow' kd' Fv' P' (W + k) B Y := by rw [← hw1]; exact CX_98 xc
  have y40 : F w1 140 = -1 := by rw [← hw1]; exact h140
  have pl1 : PLs b p (wi m1 (pq p 26) ((W + k : Nat) : Int)) w1 U B (W + k) Y := by
    refine PLs_cg plw (fun d hd => ?_) (fun i _ => by show m1.2.2.2 (pq p 2) i = _; rw [jd 2 (by omega)]) (fun i _ => by show m1.2.2.2 (pq p 33) i = _; rw [jd 33 (by omega)]) (fun i hi => by show m1.2.2.2 (pq p 35) i = _; rw [j35 i (by omega), if_neg (by omega)]) (fun i _ => by show m1.2.2.2 (pq p 6) i = _; rw [jd 6 (by omega)]) (fun _ _ => rfl) (fun _ _ => rfl) (fun _ _ => rfl) (fun _ _ => rfl) (fun _ _ => rfl)
    simp only [List.mem_cons, List.not_mem_nil, or_false] at hd
    by_cases c : d = 26
    · subst c
      apply Int32.toInt_inj.mp
      show F (wi m1 (pq p 26) ((W + k : Nat) : Int)) (pq p 26) = F m (pq p 26)
      rw [wi_sm (by omega) (by omega), pl.2.2.1.1]
    · rw [wi_1 (pq_inj c)]
      exact q1 d c (by omega)
  have tp : ∀ i, i < W + k → TPb b U ow kd P U ow' kd' P' (m1.2.2.2 (pq p 35) i) (w1.2.2.2 91 (46000 * p + i)) := fun i hi => by
    rw [j35 i (by omega), if_neg (by omega)]
    exact ⟨plw.2.2.1.2.2 i hi, pt.2.2.1.2 i hi, xc1.2.2.2.2.2.2.2.1 i hi⟩
  unfold hm_Ma_list hb_Ma_list_0 hm_Ma_sizes hb_Ma_sizes_0 fm_M_listRun fb_M_listRun_0
  have s2 : (2 : Int32) * I ((k : Nat) : Int) = I ((2 * k : Nat) : Int) := by
    rw [show (2 : Int32) = I 2 from rfl, I_mul]
    congr 1
  rw [s2, show I ((k : Nat) : Int) + 1 = I ((k + 1 : Nat) : Int) from addN, show (0 : Int32) = I ((0 : Nat) : Int) from rfl]
  refine l_bb ?_
  -- the size of NIL, there
  obtain ⟨N', rfl⟩ : ∃ N', N = N' + 1 := ⟨N - 1, by omega⟩
  show PP Q (bnd (hb_Ma_sizes_5 (N' + 1) (hg_Ma_sizes (N' + 1) N') m1 p (I ((k + 1 : Nat) : Int)) (I ((2 * k : Nat) : Int)) (I ((0 : Nat) : Int))) _) _
  unfold hb_Ma_sizes_5
  have be : hm_Fr_below (N' + 1) m1 p (I ((0 : Nat) : Int)) = some (m1, mk 6 0) := by
    have := below_e (N := N' + 1) (x := 0) (k := 0) (W := W + k + 1) (l := l1) g26 e1l e2l e3l rfl (by omega)
    rw [show W + k + 1 - 1 - 0 = W + k by omega, j35 _ (Nat.le_refl _), if_pos rfl] at this
    exact this
  rw [decI (by omega) (by omega) (by omega) (by omega), decide_eq_false (by omega), br_f, be, bnd_so]
  have hz : SZc (m.2.2.2 (pq p 2)) U ow kd Fv P 1 (mk 6 0) 0 := Or.inl ⟨nh_mk (by omega), p6, rfl⟩
  refine l_bb (l_bnd (pk_mo (pk_ok (size_ok (N := N' + 1) (b := pq p 2) (u := m1) (fun c => pq_n (by omega) c.symm) (jd 2 (by omega)) (by have := pl.1.1.2.2; omega) hF.1 (by omega) hz (by omega))) (fun m1' r e => ?_)))
  obtain ⟨f1s, rfl⟩ := e
  rw [show I ((2 * k : Nat) : Int) + I ((0 : Nat) : Int) = I ((2 * k : Nat) : Int) from addN, show I ((0 : Nat) : Int) + 1 = I ((0 + 1 : Nat) : Int) from addN]
  have js : ∀ d, m1'.2.2.2 (pq p d) = m1.2.2.2 (pq p d) := fun d => f1s.2.2.2 _ (by simp; exact fun c => pq_n (by omega) c.symm)
  have is1 : ∀ d, m1'.1 d = m1.1 d := fun d => f1s.1 d (by simp)
  have fs1 : ∀ d, F m1' d = F m1 d := fun d => congrArg Int32.toInt (is1 d)
  refine lsz_lp (tl := 0) (dl := 1) (U := U) (W := W + k) (l := l1) (k := k) (m0 := m1') hpp rfl ((js 2).trans (jd 2 (by omega))) hp1 g pl.1.1.2.2 hF g' pl.1.2.1 (fun i hi => by rw [js]; exact tp i hi) ((fs1 _).trans g26) ((fs1 _).trans e1l) ⟨e2l, e3l⟩ x33 plw.2.2.1.2.1 (by omega) (by omega) hk2 (by omega) (fun m2 w2 M2 Z Z' f2 f3 hZ b1 b2 => ?_) k N' (N' + 1) m1' w1 0 (2 * k) (2 * k) (by omega) FR.rf FR.rf (by omega) (by omega) (by omega)
  have f12 : FR [] [] [] [45] m1 m2 := FR.tr f1s f2
  have fm2 : FGm p m m2 := FGm.tr f1 (FR.mo f12 (by simp) (by simp) (by simp) (by simp))
  have fw2 : FGw p j w1 w2 := FGw_141 f3
  have jq : ∀ d, m2.2.2.2 (pq p d) = m1.2.2.2 (pq p d) := fun d => f12.2.2.2 _ (by simp; exact fun c => pq_n (by omega) c.symm)
  have iq : ∀ d, m2.1 d = m1.1 d := fun d => f12.1 d (by simp)
  have fq : ∀ d, F m2 d = F m1 d := fun d => congrArg Int32.toInt (iq d)
  have pl2 : PLs b p (wi m2 (pq p 26) ((W + k : Nat) : Int)) w2 U B (W + k) Y := by
    refine PLs_cg pl1 (fun d _ => ?_) (fun i _ => by show m2.2.2.2 (pq p 2) i = _; rw [jq]; rfl) (fun i _ => by show m2.2.2.2 (pq p 33) i = _; rw [jq]; rfl) (fun i _ => by show m2.2.2.2 (pq p 35) i = _; rw [jq]; rfl) (fun i _ => by show m2.2.2.2 (pq p 6) i = _; rw [jq]; rfl) (fun K hK => by rw [f3.2.2.1 K (by simp)]) (fun i _ => by rw [f3.2.2.2 88 (by simp)]) (fun i _ => by rw [f3.2.2.2 93 (by simp)]) (fun i _ => by rw [f3.2.2.2 91 (by simp)]) (fun i _ => by rw [f3.2.2.2 107 (by simp)])
    by_cases c : d = 26
    · subst c
      exact (if_pos rfl).trans (if_pos rfl).symm
    · rw [wi_1 (pq_inj c), wi_1 (pq_inj c), iq]
  have ru2 : RUb m2 w2 p j nb Hs Os y := RUb_fg (RUb_fg (RUs_b ru) FGm.rf g1) fm2 fw2
  rw [show (500 : Int32) = I ((500 : Nat) : Int) from rfl, decI (by omega) (by omega) (by omega) (by omega), decI (by omega) (by omega) (by omega) (by omega)]
  by_cases cz : Z ≤ 500
  · have cz' : Z' ≤ 500 := by omega
    rw [decide_eq_true (by omega), decide_eq_true (by omega), br_t, br_t]
    unfold lstB
    have y33 : F w2 133 = ((p : Nat) : Int) := by rw [FR.F f3 (by simp)]; exact x33
    have y402 : F w2 140 = -1 := by rw [FR.F f3 (by simp)]; exact y40
    have pt2 : PTQ m2 p U ow kd Fv P B (W + k + 1) Y := PTQ_same pt1 (fun d _ => iq _) (fun d _ => jq d)
    have cx2 : CTX Fv P m2 := CTX_fr cx1 (iq 22) (f12.2.2.1 3 (by simp))
    have xc2 : CX w2 p (hp w2 p) U ow' kd' Fv' P' (W + k) B Y := CX_141 xc1 f3
    have e9 : F m2 (pq p 9) ≠ 3 := by
      rw [fq, show F m1 (pq p 9) = F m (pq p 9) from congrArg Int32.toInt (q1 9 (by omega) (by omega)), r5]; omega
    have ee2 : F m2 955 = ((ee : Nat) : Int) ∧ ee < 24 := ⟨by rw [fq, gF 955 (by omega) (by omega)]; exact hee.1, hee.2⟩
    rw [I_F' y33, s2]
    refine l_bb (r_bb ?_)
    refine pp_bb (pp_mo (room_pz (N := N' + 1) (k := 2 * k) (W := W + k) (e := 1) pt2 cx2 xc2 pl2 (fun i h1 h2 => by
      rw [jq, show i = W + k by omega, j35 _ (Nat.le_refl _), if_pos rfl]
      exact nh_mk (by omega)) y402 (by omega) (by omega) e9 ee2 hN) (fun m4 r4 w4 r5' q9 => ?_))
    rcases q9 with ⟨rfl, rfl, a4, a5, ax, b2', U2, pl4, rm4, ⟨ow2, kd2, pt4⟩, -⟩ | ⟨rfl, rfl, m5, a4, a5, rfl, h5⟩
    · rw [show decide ((1 : Int32) = 0) = false from rfl, br_f, show decide ((1 : Int32) = I ((0 : Nat) : Int)) = false from rfl, br_f, show decide (I ((0 : Nat) : Int) = 1) = false from rfl, br_f]
      have fm4 : FGm p m m4 := FGm.tr fm2 (FGm_xr a4)
      have fw4 : FGw p j w1 w4 := FGw.tr fw2 (FGw_xr a5)
      have z33 : F w4 133 = ((p : Nat) : Int) := by rw [FR.F a5.1 (by simp)]; exact y33
      have z4 : F m4 (pq p 4) = ((U2 : Nat) : Int) := pt4.1.1
      obtain ⟨l4, e1, e2, e3⟩ := pt4.2.2.2.2.2.1
      have e5 : F m4 1105 = ((a + 3 : Nat) : Int) := by rw [FR.F a4 (by simp [pq_n]), fq]; exact g5
      have top4 : m4.2.2.2 (pq p 35) (W + k) = mk 6 0 := by rw [ax _ (Nat.le_refl _) (by omega), jq, j35 _ (Nat.le_refl _), if_pos rfl]
      rw [show fm_M_term (N' + 1) w4 6 0 = some (w4, mk 6 0) from rfl, rb_bnd_so]
      unfold fb_M_listRun_89
      rw [I_F' z4]
      refine list_mk (j := j) (K2 := fun u _ => K2 u) (K1 := fun u => q195 Sf (N' + 1) (qgo Sf (N' + 1) M1) u p (I ((vk + 1 : Nat) : Int))) (l := l4) (a := a + 3) hpp hk (by omega) hW pt4.2.2.1.1 e1 ⟨e2, e3⟩ e5 (by omega) z4 pl4 z33 (by rw [top4]; exact lit_b (Or.inr (Or.inr rfl)) (fun _ => rfl) ⟨by omega, by omega⟩) (fun b3 U3 m7 w7 p7 t1 t4 fw7 s98 => ?_)
      have fm7 : FGm p m m7 := FGm.tr fm4 (FR.mo t1 (by simp) (by simp) (by simp) (by simp))
      have fw8 : FGw p j w1 w7 := FGw.tr fw4 fw7
      have x98' : A w7 98 (60 * p + j) = ((n + 1 : Nat) : Int) := by
        show (w7.2.2.1 98 _).toInt = _
        rw [s98]
        show A w4 98 (60 * p + j) = _
        rw [FR.A a5.1 (by simp), FR.A f3 (by simp)]
        exact x98
      exact kS M1 (vk + 1) b3 U3 m7 w7 (by omega) (by omega) p7 (RUs_mv ru fm7 (FGw.tr g1 fw8) t4 x98' cr) fm7 (FGw.tr g1 fw8)
    · rw [show decide ((0 : Int32) = 0) = true from rfl, br_t, show decide ((0 : Int32) = I ((0 : Nat) : Int)) = true from rfl, br_t]
      have z33 : F w4 133 = ((p : Nat) : Int) := by rw [FR.F a5.1 (by simp)]; exact y33
      have g4 : FGw p j w w4 := FGw.tr g1 (FGw.tr fw2 (FGw_xr a5))
      have e109 : A w4 109 p ≠ 3 := by rw [FR.A g4.1 (by simp), r6]; omega
      have e150 : F w4 150 = ((ee' : Nat) : Int) := by rw [FR.F g4.1 (by simp)]; exact hee'.1
      rw [noR_e hpp z33 e109 e150 hee'.2]
      exact kE M1 (vk + 1) m5 w4 (by omega) (by omega) (FGm.tr fm2 (FGm_xr a4)) g4 h5
  · have cz' : ¬ Z' ≤ 500 := by omega
    rw [decide_eq_false (by omega), decide_eq_false (by omega), br_f, br_f, show (11 : Int32) = I 11 from rfl, wrong_e, bnd_so]
    refine r_bb ?_
    exact kX M1 (vk + 1) m2 w2 (by omega) (by omega) fm2 (FGw.tr g1 fw2) pl2 ru2 (PTQ_same pt1 (fun d _ => iq _) (fun d _ => jq d)) (CX_141 xc1 f3) (by rw [FR.F f3 (by simp)]; exact y40)
end
