/-! a run begins, both sides -/
set_option maxRecDepth 100000
/-- numbers of a run, there -/
def gmR (m : MS) (a : Nat) (y : Int) : MS := wi (wi (wi (wi (wi (wi m 1105 ((a : Nat) : Int)) 1106 0) 1107 y) 1108 0) 1109 0) 1112 0
/-- tables and numbers, between two runs -/
def TBz (m w : MS) : Prop := (FTs m w ∧ FAr m w ∧ FUs m w) ∧ PNx m w ∧ (CLk m w ∧ m.1 945 = w.1 121 ∧ m.1 946 = w.1 119) ∧ ∃ fa na, ATf m w fa na
theorem TBz_of {m w : MS} (h : TBs m w) : TBz m w := ⟨h.1, h.2.1, h.2.2.1, h.2.2.2.2⟩
/-- it goes -/
def gsM (m : MS) (p a : Nat) (y : Int) : MS := wi (wi (gmR m a y) (pq p 9) 0) (pq p 29) 0
section
variable {T : TYc} {Fv Fv' : Int64 → Int64 → Prop} {P P' : Int64 → Prop} {PR p a b j i j0 k N U B W Y : Nat} {y x2 : Int} {m w w2 wb : MS} {RR : Nat → MS → MS → Prop} {cur : Option Nat} {bb : Int → Nat → Nat → Prop} {nb : Nat → Nat} {Hs Os : Nat → List Nat}
theorem gmR_fr : FR [1105, 1106, 1107, 1108, 1109, 1112] [] [] [] m (gmR m a y) := by
  unfold gmR
  exact FR.wi (FR.wi (FR.wi (FR.wi (FR.wi (FR.wi FR.rf (by decide)) (by decide)) (by decide)) (by decide)) (by decide)) (by decide)
theorem gsM_q (h1 : k ≠ 9) (h2 : k ≠ 29) : (gsM m p a y).1 (pq p k) = m.1 (pq p k) := by
  unfold gsM
  rw [wi_1 (pq_inj h2), wi_1 (pq_inj h1)]
  exact gmR_fr.1 _ (by simp; unfold pq; omega)
theorem gsM_g (h : k < 2000) : (gsM m p a y).1 k = (gmR m a y).1 k := by
  unfold gsM
  rw [wi_1 (pq_n h), wi_1 (pq_n h)]
theorem gsM_v (ha : a < 100000) (hy : 0 ≤ y ∧ y ≤ 500) : (F (gsM m p a y) 1105 = ((a : Nat) : Int) ∧ (gsM m p a y).1 1106 = I 0 ∧ (gsM m p a y).1 1107 = I y) ∧ (F (gsM m p a y) 1108 = 0 ∧ F (gsM m p a y) 1109 = 0 ∧ F (gsM m p a y) 1112 = 0) ∧ F (gsM m p a y) (pq p 9) = 0 ∧ (gsM m p a y).1 (pq p 29) = I 0 := by
  have g : ∀ k, k < 2000 → F (gsM m p a y) k = F (gmR m a y) k := fun k h => congrArg Int32.toInt (gsM_g h)
  refine ⟨⟨?_, ?_, ?_⟩, ⟨?_, ?_, ?_⟩, ?_, ?_⟩
  · rw [g 1105 (by omega)]
    unfold gmR
    rw [wi_ne (by omega), wi_ne (by omega), wi_ne (by omega), wi_ne (by omega), wi_ne (by omega), wi_sm (by omega) (by omega)]
  · rw [gsM_g (by omega)]
    unfold gmR
    rw [wi_1 (by omega), wi_1 (by omega), wi_1 (by omega), wi_1 (by omega), wi_s1]
  · rw [gsM_g (by omega)]
    unfold gmR
    rw [wi_1 (by omega), wi_1 (by omega), wi_1 (by omega), wi_s1]
  · rw [g 1108 (by omega)]
    unfold gmR
    rw [wi_ne (by omega), wi_ne (by omega), wi_sm (by omega) (by omega)]
  · rw [g 1109 (by omega)]
    unfold gmR
    rw [wi_ne (by omega), wi_sm (by omega) (by omega)]
  · rw [g 1112 (by omega)]
    unfold gmR
    rw [wi_sm (by omega) (by omega)]
  · unfold gsM
    rw [wi_ne (pq_inj (by omega)), wi_sm (by omega) (by omega)]
  · unfold gsM
    exact wi_s1
/-- it begins, there -/
theorem go_mst (W : WRD T Fv P PR m) (hq : p < PR) (hal : F m (pq p 9) ≠ 3) (hy : 0 ≤ y ∧ y ≤ 500) (h21 : F m (pq p 21) = ((j + 1 : Nat) : Int)) (h4 : A m (pq p 30) (5 * j + 4) = ((a : Nat) : Int)) : hm_Ma_goOn N m p (I y) = hg_Ma_goOn N N (gsM m p a y) p (I ((0 : Nat) : Int)) ∧ LPQ T Fv P PR p 600000000 (gsM m p a y) ∧ a < 24000 := by
  obtain ⟨g1, g2, g3, g4, g5, g6⟩ := W
  obtain ⟨j', wb, nb, cb, rk, i, h, mm, L, x, st, e4, tt, hx, b1, b2, un⟩ := g5 p hq hal
  obtain ⟨hc, hj⟩ := st.2.1
  obtain rfl : j' = j := by omega
  obtain rfl : i = a := by omega
  have tb := g3 _ _ _ _ _ _ tt
  refine ⟨?_, ?_, tb.1.2⟩
  · unfold hm_Ma_goOn hb_Ma_goOn_0 hm_Fr_place hb_Fr_place_0
    rw [I_F (k := pq p 21), hc, lit1, I_sub, show ((j' + 1 : Nat) : Int) - 1 = ((j' : Nat) : Int) by omega, I_lit (n := 4), of_e (y := ((j' : Nat) : Int)) (z := 4) (a := j') (k := 4) hc hj rfl (Nat.le_refl _) rfl (by omega), bnd_so, e4, bnd_so, lit0]
    rw [lt_e, lt_e, lt_e, lt_e, lt_e, lt_e, lt_e, lt_e]
    simp only [wi_e]
    rfl
  have f : FC p [1105, 1106, 1107, 1108, 1109, 1112] [] [] [9, 29] [] [] [] m (gsM m p i y) := by
    unfold gsM gmR
    exact FC.wi_q (FC.wi_q (FC.wi_g (FC.wi_g (FC.wi_g (FC.wi_g (FC.wi_g (FC.wi_g FC.rf (by omega) (by simp)) (by omega) (by simp)) (by omega) (by simp)) (by omega) (by simp)) (by omega) (by simp)) (by omega) (by simp)) (by omega) (by simp)) (by omega) (by simp)
  obtain ⟨⟨v5, v6', v7'⟩, ⟨v8, v9, v12⟩, vs, -⟩ := gsM_v (m := m) (p := p) (a := i) (y := y) (by have := tb.1.2; omega) hy
  have v6 : F (gsM m p i y) 1106 = 0 := by
    show ((gsM m p i y).1 1106).toInt = 0
    rw [v6']
    rfl
  have v7 : F (gsM m p i y) 1107 = y := by
    show ((gsM m p i y).1 1107).toInt = y
    rw [v7', I_ti (by omega) (by omega)]
  clear v6' v7'
  generalize gsM m p i y = w at *
  obtain ⟨n, ow, kd, B, W, Y, pp⟩ := (g1.2 p hq).2.2 hal
  have eB : B = nb + mm := by have := pp.2.1.1; omega
  have eW : W = wb + h := by have := pp.2.2.1.1; omega
  subst eB; subst eW
  have p2 : PTQ w p n ow kd Fv P (nb + mm) (wb + h) Y := PTQ_same pp (fun k hk => f.2.2.2.2.1 p k (by simp at hk; omega) (fun _ => by simp at hk ⊢; omega)) (fun k hk => f.jq (by simp at hk; omega) (by simp))
  have sm : SMQ w p := SMQ_up (g1.2 p hq).1 (f.Fq (by omega) (by simp)) (f.Fq (by omega) (by simp)) (by rw [f.Fq (by omega) (by simp)]; exact Int.le_refl _) hal
  have d : DWc Fv P PR w := DWc_fc g1 f hq hal (by rw [vs]; decide) sm ⟨n, ow, kd, _, _, Y, p2⟩ (by simp) (by simp)
  have s : SCQ m w := SCQ_f f (by simp) (by simp)
  have al : ALN w := ALN_k g6 (f.2.2.1 1948 (by omega) (by simp)) (fun r _ h1 => LNB_fc h1 (fun k hk => f.2.2.2.2.1 r k (by simp at hk; omega) (fun _ => by simp at hk ⊢; omega)))
  have oth : OTH T PR p w := fun r hr hrq hal => PSQ_o (g5 r hr (by rw [← f.Fo hrq (by omega)]; exact hal)) f hrq (by simp)
  have M : MIc T Fv P PR p w i h mm L 0 x j' wb nb cb rk := ⟨⟨d, CTX_s s g2, WFT_s s g3, CDT_s s g4, oth, al, hq, by rw [v6, v7]; omega⟩, vs, STc_s st (f.2.2.2.2.2.2.1 p 30 (by omega) (by simp)) (f.2.2.2.2.2.2.1 p 37 (by omega) (by simp)) (f.2.2.2.2.1 p 21 (by omega) (by simp)) (f.2.2.2.2.1 p 28 (by omega) (by simp)), ⟨tt, v5⟩, ⟨by rw [f.Fq (by omega) (by simp)]; exact b1, by rw [f.Fq (by omega) (by simp)]; exact b2⟩, ⟨fun _ => v12, fun z => absurd rfl z⟩, fun z1 z2 => by omega, UN_k un (f.2.2.2.2.2.1 p 10 (by omega) (by simp)) (f.2.2.1 23 (by omega) (by simp))⟩
  have mb := MI_b M
  have hph : PHc T w p i x rk < 600000000 := by
    unfold PHc
    rw [v6, v7]
    have := pot_le (T := T) (i := i) (x := x) (t := (F w (pq p 8)).toNat) (by omega)
    have := mb.2.2.2.2
    omega
  exact Or.inl ⟨⟨_, _, _, _, _, _, _, _, _, _, _, M, hph⟩, v9, v8⟩
/-- the fault's number changes, here -/
theorem WL_w3 (W0 : WLs RR PR Fv P Fv' P' cur i j0 m w) : WLs RR PR Fv P Fv' P' cur i j0 m (wi w 3 x2) := by
  obtain ⟨⟨d, cx⟩, ⟨dw, lk, wt⟩, pb⟩ := W0.1
  have f1 : FR [] [] [] [] m m := FR.rf
  have f2 : FR [3] [] [] [] w (wi w 3 x2) := FR.wi FR.rf (by simp)
  have lm : ∀ d, LOCm d m m := fun d k hk => ⟨rfl, rfl, rfl, rfl⟩
  have lw : ∀ d, LOCw d w (wi w 3 x2) := fun d => ⟨fun _ _ _ => rfl, fun _ _ => rfl, fun _ _ _ => rfl, rfl, fun _ _ _ => rfl, fun _ _ _ => rfl, fun _ _ _ => rfl, fun _ _ _ => rfl⟩
  exact WL_same W0 ⟨⟨d, cx⟩, ⟨DW_fr dw f2 (by simp) (by simp) (by simp) (by simp) (by simp) (by simp) (by simp) (by simp) (by simp) (by simp) (by simp) (by simp) (by simp) (by simp) (by simp) (by simp) (by simp), LK_fr lk f2 (by simp) (by simp), WTQ_fr wt f2 (by simp) (by simp) (by simp)⟩, pb⟩ (PGs_fr f1 f2 (by simp) (by simp) (by simp) (by simp) (by simp) (by simp)) lm lw rfl rfl (f2.1 150 (by simp)) (fun _ _ => rfl) rfl
/-- the base of a run -/
theorem go_bas (W0 : WLs WTr PR Fv P Fv' P' none i 0 m w) (h956 : F m 956 = ((i : Nat) : Int) ∧ F m 955 = ((i : Nat) : Int)) (h149 : F w 149 = 0 ∧ F w 150 = 0) (cn : CNq P P' m w) (wt : WTs PR m w) (tb : TBz m w) (hp : p < PR) (hal : F m (pq p 9) ≠ 3) (hal' : A w 109 p ≠ 3) (hb : b ≤ 500) : BAs Fv P Fv' P' PR p i (gmR m a y) (gwR w p b) := by
  have p24 : PR ≤ 24 := W0.1.2.1.1.1.2
  have f : FR [1105, 1106, 1107, 1108, 1109, 1112] [] [] [] m (gmR m a y) := gmR_fr
  obtain ⟨g, e133, e164, e165, e151, e152⟩ := gwR_v (w := w) (p := p) (b := b) (by omega) hb
  have W1 : WLs (RRt p) PR Fv P Fv' P' none i 0 (gmR m a y) (gwR w p b) := WL_reg (w := wi w 3 0) (WL_w3 (WL_mono W0 (fun q h => Or.inr h) RRt_stb)) (FR.mo f (by simp) (by simp) (by simp) (by simp)) (by
    unfold gwR
    exact FR.wi (FR.wi (FR.wi (FR.wi (FR.wi FR.rf (by simp)) (by simp)) (by simp)) (by simp)) (by simp))
  have e6 : (gmR m a y).1 1106 = I 0 := by
    unfold gmR
    rw [wi_1 (by omega), wi_1 (by omega), wi_1 (by omega), wi_1 (by omega), wi_s1]
  obtain ⟨t1, t2, ⟨t3, t4, t5⟩, fa, na, t7⟩ := tb
  have at2 : ATM (gwR w p b) := by
    have := cn.2.1
    unfold ATM at this ⊢
    rw [FR.F g (by simp)]
    exact this
  have a3 : (gwR w p b).2.2 = w.2.2 := rfl
  have m3 : (gmR m a y).2.2 = m.2.2 := rfl
  generalize gmR m a y = mb at *
  generalize gwR w p b = wb at *
  refine ⟨hp, W1, ⟨by rw [FR.F f (by simp)]; exact h956.2, by rw [FR.F f (by simp)]; exact h956.1⟩, ⟨by rw [FR.F g (by simp)]; exact h149.1, by rw [FR.F g (by simp)]; exact h149.2⟩, CN_pg cn (PG0_fr f g (by simp) (by simp) (by simp) (by simp) (by simp)) at2, WTs_st wt (f.1 950 (by simp)) (fun k _ => f.2.2.1 k (by simp)) (g.1 125 (by simp)) (fun k _ => g.2.2.1 k (by simp)), ⟨TB_tab t1 ⟨f.1 442 (by simp), f.1 449 (by simp)⟩ (fun K _ => f.2.2.1 K (by simp)) (fun K _ => g.2.2.1 K (by simp)) (g.2.2.2 34 (by simp)), PN_st t2 (f.1 953 (by simp)) (fun K _ => f.2.2.1 K (by simp)) (g.1 128 (by simp)) (fun K _ => g.2.2.1 K (by simp)), ⟨CLk_st t3 (f.1 944 (by simp)) (g.1 120 (by simp)), by rw [f.1 945 (by simp), g.1 121 (by simp)]; exact t4, by rw [f.1 946 (by simp), g.1 119 (by simp)]; exact t5⟩, by rw [e6, I_F' e165], fa, na, ATf_k t7 (f.1 22 (by simp)) (f.2.2.1 2 (by simp)) (f.2.2.1 3 (by simp)) (g.1 14 (by simp)) (g.2.2.1 12 (by simp)) (g.2.2.1 13 (by simp))⟩, ⟨?_, by rw [FR.A g (by simp)]; exact hal'⟩, by rw [FR.F f (by simp)]; exact W0.1.1.1.1.1.1, by rw [FR.F g (by simp)]; exact W0.1.2.1.1.1.1⟩
  rw [FR.F f (by simp; unfold pq; omega)]
  exact hal
theorem SC_gs (s : SCs p (gmR m a y) wb) (g : ∀ K, K ≠ 109 → K ≠ 115 → w2.2.2.1 K = wb.2.2.1 K) (h115 : w2.2.2.1 115 p = I 0) (e29 : (gsM m p a y).1 (pq p 29) = I 0) : SCs p (gsM m p a y) w2 := by
  obtain ⟨s1, s2, s3, s4, s5, s6⟩ := s
  have q : ∀ k, k ≠ 9 → k ≠ 29 → (gsM m p a y).1 (pq p k) = (gmR m a y).1 (pq p k) := fun k h1 h2 => by
    unfold gsM
    rw [wi_1 (pq_inj h2), wi_1 (pq_inj h1)]
  have hF : F (gsM m p a y) (pq p 15) = F (gmR m a y) (pq p 15) := congrArg Int32.toInt (q 15 (by omega) (by omega))
  refine ⟨by rw [q 12 (by omega) (by omega), g 113 (by omega) (by omega)]; exact s1, by rw [q 13 (by omega) (by omega), g 114 (by omega) (by omega)]; exact s2, by rw [q 11 (by omega) (by omega), g 112 (by omega) (by omega)]; exact s3, by rw [q 15 (by omega) (by omega), g 117 (by omega) (by omega)]; exact s4, by rw [e29, h115], fun i hi => ?_⟩
  rw [hF] at hi
  rw [g 116 (by omega) (by omega)]
  exact s6 i hi
theorem FC_gs (s : FAs m w p j nb Hs Os ∧ CTs m w p j nb Hs Os) (g : ∀ K, K ≠ 109 → K ≠ 115 → w2.2.2.1 K = w.2.2.1 K) (g34 : w2.2.2.2 = w.2.2.2) : FAs (gsM m p a y) w2 p j nb Hs Os ∧ CTs (gsM m p a y) w2 p j nb Hs Os :=
  FC_w s (fun k c => gsM_q (by omega) (by omega)) (fun _ _ => rfl) rfl (fun K c => by rw [g K (by omega) (by omega)]) (fun K r c1 c2 _ _ => by rw [g K (by omega) (by omega)]) (fun K r c1 c2 _ => by rw [g K (by omega) (by omega)]) (fun K c => g K (by unfold PRr at c; omega) (by unfold PRr at c; omega)) (by rw [g34])
theorem PL_gs (pl : PLs bb p m w U B W Y) (g : ∀ K, K ≠ 109 → K ≠ 115 → w2.2.2.1 K = w.2.2.1 K) (g34 : w2.2.2.2 = w.2.2.2) : PLs bb p (gsM m p a y) w2 U B W Y ∧ PLs bb p (gsM m p a y) (wa w2 94 p ((B : Nat) : Int)) U B W Y := by
  have h2 : PLs bb p (gsM m p a y) w2 U B W Y := PLs_cg pl (fun k hk => gsM_q (by simp at hk; omega) (by simp at hk; omega)) (fun _ _ => rfl) (fun _ _ => rfl) (fun _ _ => rfl) (fun _ _ => rfl) (fun k hk => by rw [g k (by simp at hk; omega) (by simp at hk; omega)]) (fun _ _ => by rw [g34]) (fun _ _ => by rw [g34]) (fun _ _ => by rw [g34]) (fun _ _ => by rw [g34])
  refine ⟨h2, PLs_cg h2 (fun _ _ => rfl) (fun _ _ => rfl) (fun _ _ => rfl) (fun _ _ => rfl) (fun _ _ => rfl) (fun k hk => ?_) (fun _ _ => rfl) (fun _ _ => rfl) (fun _ _ => rfl) (fun _ _ => rfl)⟩
  by_cases c : k = 94
  · subst c
    rw [wa_s1, I_A' h2.2.1.2.1]
  · rw [wa_21 c]
theorem cof_e {β : Type} {x : Int32} {K : MS → Unit → Option (MS × β)} : bnd (fm_M_clausesOf N w x) K = bnd (fb_M_callRun_364 N () w x) K := by
  unfold fb_M_callRun_364
  cases fm_M_clausesOf N w x <;> rfl
end
section
variable {T : TYc} {u : MS} {i h m g x : Nat} {L : List Nat}
theorem in_32 (q : IN1 T u i h m L g x ∨ IN2 T u i h m L g x ∨ IN3 T u i h m L g x) (e : A u 23 i = 32) : x = i := by
  rcases q with q | q | q
  · exfalso
    rcases q with q | q | q | q | q | q | q | q | q | q | q | q | q <;> (have := q.1; omega)
  · exfalso
    rcases q with q | q | q | q | q | q | q | q | q | q | q <;> (have := q.1; omega)
  · rcases q with q | q | q | q | q | q | q | q | q
    · exfalso; have := q.1; omega
    · exact q.2.2.1
    · exfalso; have := q.1; omega
    · exfalso; have := q.1; omega
    · exfalso; have := q.1; omega
    · exfalso; omega
    · exfalso; have := q.1; omega
    · exfalso; have := q.1; omega
    · exfalso; have := q.1; omega
end
section
variable {Fv : Int64 → Int64 → Prop} {AN : Nat} {T : TY} {C : CY} {pM pE : Nat → Nat} {ND CN PN SN UN FN PR p : Nat} {w : MS}
/-- what waits, here -/
theorem go_w92 (hp : p < PR) (rest : REST Fv AN T ND UN FN PR w) (r : PER Fv AN T C pM pE ND CN PN SN UN FN w) (h3 : A w 109 p ≠ 3) : A w 92 p ≤ 45600 := by
  obtain ⟨d, hw, -⟩ := rest
  have pr := d.1.2
  rcases hw.2.2.2.2.2.2 p hp (by omega) with c | ⟨fr, ro, rn, rh, cb, pc, ct, q, frs, -, hq, -, -, e1, -⟩ | c
  · exact absurd c h3
  · obtain ⟨⟨f1, f2, -⟩, -, f5, -⟩ := frs
    have e3 := (f5 (fr - 1) (by omega)).2.2.2.2.1
    have e4 := (r.1.2.2.1 q hq).1.1
    rw [e1]
    omega
  · rw [c.2.2.1]
    omega
end
