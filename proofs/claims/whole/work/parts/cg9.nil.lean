/-! a list of no parts -/
set_option maxRecDepth 100000
section
variable {α β : Type} {b : Int → Nat → Nat → Prop} {N p l U B W Y j a n : Nat} {m w : MS} {nb : Nat → Nat} {Hs Os : Nat → List Nat} {y : Option (Nat × Nat × Nat)} {Q : MS → α → MS → β → Prop} {D : Option (MS × α)} {K : MS → Unit → Option (MS × β)} {K1 : MS → Option (MS × α)} {K2 : MS → Option (MS × β)}
theorem nil_r (hpp : p < 24) (h133 : F w 133 = ((p : Nat) : Int)) (h89 : A w 89 p = ((U : Nat) : Int)) (hU : U ≤ 500) (k : PP Q D (bnd (bnd (fm_M_put N w (mk 6 0)) (fun u1 _ => some (u1, ()))) K)) : PP Q D (bnd (fm_M_listRun N w (I 0) (I 0)) K) := by
  unfold fm_M_listRun fb_M_listRun_0
  have go : ∀ M, PP Q D (bnd ((gg_M_listRun N M).1 w (I 0) (I 0) (2 * I 0) 0) K) := by
    intro M
    cases M with
    | zero => exact pp_nr
    | succ M =>
    show PP Q D (bnd (fb_M_listRun_7 N (gg_M_listRun N M) w (I 0) (I 0) (2 * I 0) 0) K)
    unfold fb_M_listRun_7
    rw [show decide (I 0 + I 0 ≤ 0) = true from rfl, br_t, show decide (2 * I 0 ≤ (500 : Int32)) = true from rfl, br_t, I_F' h133, show (2 : Int32) * I 0 = I ((0 : Nat) : Int) from rfl]
    refine r_bb (r_bnd (pk_mo (wants_0 (N := N) (U := U) hpp h89 hU) (fun w3 r e => ?_)))
    obtain ⟨rfl, rfl⟩ := e
    rw [show decide ((1 : Int32) = 0) = false from rfl, br_f, show decide (I 0 = (1 : Int32)) = false from rfl, br_f, show fm_M_term N w3 6 0 = some (w3, mk 6 0) from rfl, bnd_so]
    unfold fb_M_listRun_89
    cases M with
    | zero => exact pp_nr
    | succ M =>
    show PP Q D (bnd (fb_M_listRun_94 N (gg_M_listRun N M) w3 (I 0) (mk 6 0) 0) K)
    unfold fb_M_listRun_94
    rw [show decide (I 0 ≤ (0 : Int32)) = true from rfl, br_t]
    exact k
  exact go N
theorem op_nil (hp : p < 24) (pl : PLs b p m w U B W Y) (ru : RUs m w p j nb Hs Os y a n) (bd : BDr p W l m) (ha : a + 3 < 24000) (hn : n < 100000) (h25 : A w 25 n = 0) (h26 : A w 26 n = 0) (c2 : A m 23 (a + 1) = 6) (c3 : A m 23 (a + 2) = 0) (cr : ∃ f, CRs (A m 23) (ROs w) (w.2.2.2 34) f y (a + 3) (n + 1) (Hs j) (Os j))
    (c : ∀ m3 w3, PLs b p m3 w3 U B (W + 1) Y → RUs m3 w3 p j nb Hs Os y (a + 3) (n + 1) → FGm p m m3 → FGw p j w w3 → PP Q (K1 m3) (K2 w3)) : PP Q (bnd (hm_Ma_making N m p (I 1)) (fun u _ => K1 u)) (bnd (fm_M_one N w (I ((n : Nat) : Int)) (I 5)) (fun u _ => K2 u)) := by
  obtain ⟨⟨fa, ct⟩, ⟨r2, r3⟩, -, ⟨r5, r6⟩, r7, ⟨r8, r9, r10⟩, r11, r12, r13⟩ := id ru
  have hj : j < 60 := fa.1.2.2
  rw [mak1, one_5, show I ((n : Nat) : Int) + 1 = I ((n + 1 : Nat) : Int) from addN, I_F' r2, show I ((a : Nat) : Int) + 1 = I ((a + 1 : Nat) : Int) from addN, Co_e (k := a + 1) rfl (by omega), bnd_so, I_F' r2, show I ((a : Nat) : Int) + 2 = I ((a + 2 : Nat) : Int) from addN, Co_e (k := a + 2) rfl (by omega), bnd_so, c2, c3, e_make, bnd_so]
  refine rb_bnd (pk_mo (goto_r (N := N) (n := ((n + 1 : Nat) : Int)) hp r11 fa.1.2.1 hj) (fun w2 _ h => ?_))
  subst h
  refine rb_ck (fun _ => rb_ck (fun _ => ?_))
  have e25 : A (wa w 98 (60 * p + j) ((n + 1 : Nat) : Int)) 25 n = 0 := by rw [wa_rne (by omega)]; exact h25
  have e26 : A (wa w 98 (60 * p + j) ((n + 1 : Nat) : Int)) 26 n = 0 := by rw [wa_rne (by omega)]; exact h26
  rw [tnI (n := n) rfl (by omega), I_A' e25, I_A' e26]
  refine r_bb (nil_r (U := U) hp r11 (by rw [wa_rne (by omega)]; exact pl.1.1.2.1) pl.1.1.2.2 ?_)
  have pp := push_pp (N := N) (Q := Q) (K1 := K1) (K2 := K2) (t := mk 6 0) (x := mk 6 0) (a2 := a + 3) (n2 := n + 1) (dz := 3) hp ru bd (w2 := wa w 98 (60 * p + j) ((n + 1 : Nat) : Int)) (lit_b (b := b) (v := 6) (z := 0) (Or.inr (Or.inr rfl)) (fun _ => rfl) ⟨by omega, by omega⟩) FGm.rf FGw.goto (PLs_98 pl) bd.2.1 r11 (show A (wa w 98 (60 * p + j) ((n + 1 : Nat) : Int)) 98 (60 * p + j) = ((n + 1 : Nat) : Int) by rw [wa_sm (by omega) (by omega)]) r2 rfl (by omega) cr c
  simp only [bb_e, bnd_so] at pp
  simp only [bb_e, bnd_so]
  exact pp
end
section
variable {T : TYc} {Fv Fv' : Int64 → Int64 → Prop} {P : Int64 → Prop} {AN : Nat} {TT : TY} {CC : CY} {pM pE : Nat → Nat} {ND CN PN SN UN FN N PR p i v mu M1 M2 f U B W Y l j a n : Nat} {m w : MS} {Q : MS → Int32 → MS → Int32 → Prop} {b : Int → Nat → Nat → Prop} {ow kw ow' kd' : Nat → Nat} {nb : Nat → Nat} {Hs Os : Nat → List Nat} {y : Option (Nat × Nat × Nat)}
/-- a list of no parts -/
theorem sk_5n (ih : ∀ M1 v m w, SIA T Fv P Fv' AN TT CC pM pE ND CN PN SN UN FN p v m w → PP Q (qgo (SAf T Fv P p) N M1 m p (I ((v : Nat) : Int))) (gg_M_go N M2 w (I ((p : Nat) : Int)))) (s : STx T Fv P Fv' AN TT CC pM pE ND CN PN SN UN FN N PR p i v f b U B W Y l ow kw ow' kd' j nb Hs Os y a n m w) (h25 : A w 25 n = 0) (h26 : A w 26 n = 0) (c0 : A m 23 a = 1) (d1 : A m 23 (a + 1) = 6) (d2 : A m 23 (a + 2) = 0) (cr : ∃ f, CRs (A m 23) (ROs w) (w.2.2.2 34) f y (a + 3) (n + 1) (Hs j) (Os j)) : PP Q (q67 (SAf T Fv P p) N (qgo (SAf T Fv P p) N M1) m p (I ((v : Nat) : Int))) (bnd (fm_M_one N w (I ((n : Nat) : Int)) (I 5)) (fun u _ => KRs Fv' AN TT CC ND CN UN FN N p mu M2 w u)) := by
  obtain ⟨⟨r5, r8, r2⟩, ⟨ha, hn, hv, hpp, hj⟩, nd, ⟨pl, ru, bd⟩, ⟨n1, n2, n3⟩, bH, bW, bB, bY, nND, hN⟩ := st_b s
  have cb := CR_b cr.choose_spec
  rw [go_mk r5 r8 (by omega) r2 (by omega) c0 ⟨by omega, by omega⟩]
  exact op_nil (K1 := fun u => q195 (SAf T Fv P p) N (qgo (SAf T Fv P p) N M1) u p (I ((v : Nat) : Int))) (K2 := fun u => KRs Fv' AN TT CC ND CN UN FN N p mu M2 w u) hpp pl ru bd (by omega) (by omega) h25 h26 d1 d2 cr (fun m3 w3 a1 a2 a3 a4 => st_fg ih s hj a1 a2 a3 a4)
end
