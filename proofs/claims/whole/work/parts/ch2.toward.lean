/-! steps, one by one: toward a PROCESS -/
set_option maxRecDepth 100000
section
variable {Fv Fv' : Int64 → Int64 → Prop} {P P' : Int64 → Prop} {PR q : Nat} {z : Int} {m w : MS}
theorem SF_98 (s : SFs Fv P Fv' P' PR m w) : SFs Fv P Fv' P' PR m (wa w 98 q z) := by
  obtain ⟨dc, ⟨dw, lk, wt⟩, pb⟩ := s
  have f2 : FR [] [] [98] [] w (wa w 98 q z) := FR.wa FR.rf (by simp)
  exact ⟨dc, ⟨DW_fr dw f2 (by simp) (by simp) (by simp) (by simp) (by simp) (by simp) (by simp) (by simp) (by simp) (by simp) (by simp) (by simp) (by simp) (by simp) (by simp) (by simp) (by simp), LK_fr lk f2 (by simp) (by simp), WTQ_fr wt f2 (by simp) (by simp) (by simp)⟩, pb⟩
end
section
variable {T : TYc} {Fv Fv' : Int64 → Int64 → Prop} {P : Int64 → Prop} {AN : Nat} {TT : TY} {CC : CY} {pM pE : Nat → Nat} {ND CN PN SN UN FN N PR p i v mu M1 M2 f U B W Y l j a n : Nat} {m w : MS} {Q : MS → Int32 → MS → Int32 → Prop} {b : Int → Nat → Nat → Prop} {ow kw ow' kd' : Nat → Nat} {nb : Nat → Nat} {Hs Os : Nat → List Nat} {y : Option (Nat × Nat × Nat)}
/-- a message has gone, p lives -/
theorem st_wo {m3 w3 : MS} {j3 a3 n3 : Nat} {nb3 : Nat → Nat} {Hs3 Os3 : Nat → List Nat} {y3 : Option (Nat × Nat × Nat)} (ih : ∀ M1 v m w, SIA T Fv P Fv' AN TT CC pM pE ND CN PN SN UN FN p v m w → PP Q (qgo (SAf T Fv P p) N M1 m p (I ((v : Nat) : Int))) (gg_M_go N M2 w (I ((p : Nat) : Int)))) (s : STx T Fv P Fv' AN TT CC pM pE ND CN PN SN UN FN N PR p i v f b U B W Y l ow kw ow' kd' j nb Hs Os y a n m w) (W3 : SFs Fv P Fv' (PWs AN) PR m3 w3 → WLs (RRp p) PR Fv P Fv' (PWs AN) none i 0 m3 w3) (ru3 : RUs m3 w3 p j3 nb3 Hs3 Os3 y3 a3 n3) (k : WOs m w m3 w3) : PP Q (q195 (SAf T Fv P p) N (qgo (SAf T Fv P p) N M1) m3 p (I ((v : Nat) : Int))) (KRs Fv' AN TT CC ND CN UN FN N p mu M2 w w3) := by
  obtain ⟨-, -, -, -, cn, wt, tb, -⟩ := id s.2.2.1
  exact st_kp ih s (fun l hl => by
    by_cases e : l = 1106
    · subst e
      exact k.2.2.2.2.2.1
    · by_cases e2 : l = 956
      · subst e2
        exact k.2.2.1.2.2
      · exact k.1.1 l (by omega)) (fun K hK => k.1.2 K (by omega)) (fun l hl => by
    by_cases e : l = 165
    · subst e
      exact k.2.2.2.2.2.2
    · exact k.2.1.1 l (by omega)) (fun K hK => k.2.1.2 K (by omega)) (PN_st tb.2.1 (k.1.1 953 (by omega)) (fun K hK => k.1.2 K (by omega)) (k.2.1.1 128 (by omega)) (fun K hK => k.2.1.2 K (by omega))) (WTs_st wt k.2.2.1.2.1 k.2.2.1.1 k.2.2.2.2.1 k.2.2.2.1) W3 ru3
/-- a message has gone, p has ENDED by it -/
theorem st_wd {m3 w3 : MS} (ih : ∀ M1 v m w, SIA T Fv P Fv' AN TT CC pM pE ND CN PN SN UN FN p v m w → PP Q (qgo (SAf T Fv P p) N M1 m p (I ((v : Nat) : Int))) (gg_M_go N M2 w (I ((p : Nat) : Int)))) (s : STx T Fv P Fv' AN TT CC pM pE ND CN PN SN UN FN N PR p i v f b U B W Y l ow kw ow' kd' j nb Hs Os y a n m w) (W3 : SFs Fv P Fv' (PWs AN) PR m3 w3 → WLs (RRt p) PR Fv P Fv' (PWs AN) none i 0 m3 w3) (h3 : F m3 (pq p 9) = 3) (a4 : WOs m w m3 w3) (h9 : F m3 1109 = 0) : PP Q (q195 (SAf T Fv P p) N (qgo (SAf T Fv P p) N M1) m3 p (I ((v : Nat) : Int))) (KRs Fv' AN TT CC ND CN UN FN N p mu M2 w w3) := by
  obtain ⟨-, -, ⟨h955, h956⟩, -, cn, wt, tb, -, q942, q118⟩ := id s.2.2.1
  exact aft_o2 ih s (i3 := i) ((congrArg Int32.toInt (a4.1.1 942 (by omega))).trans q942) ((congrArg Int32.toInt (a4.2.1.1 118 (by omega))).trans q118) (Or.inl h9) (fun s3 => WL_q (W3 s3) (fun h => absurd h3 h)) ((congrArg Int32.toInt a4.2.2.1.2.2).trans h956) (fun e a => CN_pg cn (PG_wo a4 e) a) (WTs_st wt a4.2.2.1.2.1 a4.2.2.1.1 a4.2.2.2.2.1 a4.2.2.2.1) (fun e => TB_wo tb a4 e)
/-- links of p and q alone have changed -/
theorem st_gl {q : Nat} {m3 w3 : MS} {j3 a3 n3 : Nat} {nb3 : Nat → Nat} {Hs3 Os3 : Nat → List Nat} {y3 : Option (Nat × Nat × Nat)} (ih : ∀ M1 v m w, SIA T Fv P Fv' AN TT CC pM pE ND CN PN SN UN FN p v m w → PP Q (qgo (SAf T Fv P p) N M1 m p (I ((v : Nat) : Int))) (gg_M_go N M2 w (I ((p : Nat) : Int)))) (s : STx T Fv P Fv' AN TT CC pM pE ND CN PN SN UN FN N PR p i v f b U B W Y l ow kw ow' kd' j nb Hs Os y a n m w) (W3 : SFs Fv P Fv' (PWs AN) PR m3 w3 → WLs (RRp p) PR Fv P Fv' (PWs AN) none i 0 m3 w3) (ru3 : RUs m3 w3 p j3 nb3 Hs3 Os3 y3 a3 n3) (a4 : GLm p q m m3) (a5 : GLw p q w w3) : PP Q (q195 (SAf T Fv P p) N (qgo (SAf T Fv P p) N M1) m3 p (I ((v : Nat) : Int))) (KRs Fv' AN TT CC ND CN UN FN N p mu M2 w w3) := by
  obtain ⟨-, -, -, -, cn, wt, tb, -⟩ := id s.2.2.1
  have mi := a4.2.2.2.2.2.2.2
  have ma := a4.2.2.2.2.2.2.1
  have wi := a5.2.2.2.2.2.2.2
  have wa := a5.2.2.2.2.2.2.1
  exact st_kp ih s (fun l hl => mi l (by omega)) (fun K hK => ma K (by omega)) (fun l hl => wi l (by omega)) (fun K hK => wa K (by omega)) (PN_st tb.2.1 (mi 953 (by omega)) (fun K hK => ma K (by omega)) (wi 128 (by omega)) (fun K hK => wa K (by omega))) (WTs_st wt (mi 950 (by omega)) (fun l hl => ma l (by omega)) (wi 125 (by omega)) (fun l hl => wa l (by omega))) W3 ru3
/-- a link comes -/
theorem pk_link (ih : ∀ M1 v m w, SIA T Fv P Fv' AN TT CC pM pE ND CN PN SN UN FN p v m w → PP Q (qgo (SAf T Fv P p) N M1 m p (I ((v : Nat) : Int))) (gg_M_go N M2 w (I ((p : Nat) : Int)))) (s : STx T Fv P Fv' AN TT CC pM pE ND CN PN SN UN FN N PR p i v f b U B W Y l ow kw ow' kd' j nb Hs Os y a n m w) (hP4 : ∀ k, k < W → so (m.2.2.2 (pq p 35) k) = 4 → 0 ≤ va (m.2.2.2 (pq p 35) k) ∧ va (m.2.2.2 (pq p 35) k) < ((PR : Nat) : Int)) (hb : tB TT n + 1 ≤ tH TT n) (cr : ∃ f, CRs (A m 23) (ROs w) (w.2.2.2 34) f y (a + 2) (n + 1) (Hs j) (Os j)) : PP Q (bnd (hm_Ma_toward N m p (I 2)) (fun u _ => q195 (SAf T Fv P p) N (qgo (SAf T Fv P p) N M1) u p (I ((v : Nat) : Int)))) (bnd (fm_M_predefinedRun N (wa w 98 (60 * p + j) ((n + 1 : Nat) : Int)) (I 2)) (fun u _ => KRs Fv' AN TT CC ND CN UN FN N p mu M2 w u)) := by
  obtain ⟨⟨r5, r8, r2⟩, ⟨ha, hn, hv, hpp, hj⟩, nd, ⟨pl, ru, bd⟩, ⟨n1, n2, n3⟩, bH, bW, bB, bY, nND, hN⟩ := st_b s
  obtain ⟨bd1, bd2, bd3, bd4⟩ := bd
  obtain ⟨⟨-, hpr, pr24, hi, hf⟩, ⟨per, hAN⟩, ba, lp, -, -, ⟨pt, xc, h140⟩, -, -, sc, wl, -⟩ := id s
  obtain ⟨-, -, ⟨h955, h956⟩, -, cn, wt, tb, -, q942, q118⟩ := id ba
  obtain ⟨W1, rfl⟩ : ∃ W1, W = W1 + 1 := ⟨W - 1, by omega⟩
  have h98 : A (wa w 98 (60 * p + j) ((n + 1 : Nat) : Int)) 98 (60 * p + j) = ((n + 1 : Nat) : Int) := by rw [wa_sm (by omega) (by omega)]
  refine tow_hd2 (K1 := fun u => q195 (SAf T Fv P p) N (qgo (SAf T Fv P p) N M1) u p (I ((v : Nat) : Int))) (K2 := fun u => KRs Fv' AN TT CC ND CN UN FN N p mu M2 w u) (Or.inl ⟨rfl, rfl⟩) hpp wl.1.1.1 (hP4 W1 (by omega)) (w1 := (wa w 98 (60 * p + j) ((n + 1 : Nat) : Int))) ru.2.2.2.2.2.2.1 (by omega) bd2 ⟨bd3, bd4⟩ (PLs_98 pl) (fun q hq e4 => ?_) ?_
  · by_cases dead : F m (pq q 9) = 3
    · exact op_linkE (K1 := fun u => q195 (SAf T Fv P p) N (qgo (SAf T Fv P p) N M1) u p (I ((v : Nat) : Int))) (K2 := fun u => KRs Fv' AN TT CC ND CN UN FN N p mu M2 w u) hpr hq dead wl ru sc (by omega) bd2 ⟨bd3, bd4⟩ (PLs_98 pl) e4 FGw.goto h98 (SF_98 wl.1) cr (by omega) (fun b3 U3 Y3 m3 w3 a1 a2 a3 a4 => st_wo ih s a1 a3 a4) (fun m3 w3 a1 a2 a3 a4 a5 => st_wd ih s a1 a2 a4 a5.1)
    · exact op_link (K1 := fun u => q195 (SAf T Fv P p) N (qgo (SAf T Fv P p) N M1) u p (I ((v : Nat) : Int))) (K2 := fun u => KRs Fv' AN TT CC ND CN UN FN N p mu M2 w u) hpr hq dead wl ru sc (by omega) bd2 ⟨bd3, bd4⟩ (PLs_98 pl) FGw.goto h98 cr (fun m3 w3 a1 a2 a3 a4 a5 => st_gl ih s a1 a3 a4 a5)
  · exact st_wr (c := 11) ih s (by omega) (by rw [wi_id pl.2.2.1.1]; exact PLs_98 pl) (by omega) (by omega) FGw.goto ⟨rfl, rfl⟩
/-- a link goes -/
theorem pk_unlink (ih : ∀ M1 v m w, SIA T Fv P Fv' AN TT CC pM pE ND CN PN SN UN FN p v m w → PP Q (qgo (SAf T Fv P p) N M1 m p (I ((v : Nat) : Int))) (gg_M_go N M2 w (I ((p : Nat) : Int)))) (s : STx T Fv P Fv' AN TT CC pM pE ND CN PN SN UN FN N PR p i v f b U B W Y l ow kw ow' kd' j nb Hs Os y a n m w) (hP4 : ∀ k, k < W → so (m.2.2.2 (pq p 35) k) = 4 → 0 ≤ va (m.2.2.2 (pq p 35) k) ∧ va (m.2.2.2 (pq p 35) k) < ((PR : Nat) : Int)) (hb : tB TT n + 1 ≤ tH TT n) (cr : ∃ f, CRs (A m 23) (ROs w) (w.2.2.2 34) f y (a + 2) (n + 1) (Hs j) (Os j)) : PP Q (bnd (hm_Ma_toward N m p (I 3)) (fun u _ => q195 (SAf T Fv P p) N (qgo (SAf T Fv P p) N M1) u p (I ((v : Nat) : Int)))) (bnd (fm_M_predefinedRun N (wa w 98 (60 * p + j) ((n + 1 : Nat) : Int)) (I 3)) (fun u _ => KRs Fv' AN TT CC ND CN UN FN N p mu M2 w u)) := by
  obtain ⟨⟨r5, r8, r2⟩, ⟨ha, hn, hv, hpp, hj⟩, nd, ⟨pl, ru, bd⟩, ⟨n1, n2, n3⟩, bH, bW, bB, bY, nND, hN⟩ := st_b s
  obtain ⟨bd1, bd2, bd3, bd4⟩ := bd
  obtain ⟨⟨-, hpr, pr24, hi, hf⟩, ⟨per, hAN⟩, ba, lp, -, -, ⟨pt, xc, h140⟩, -, -, sc, wl, -⟩ := id s
  obtain ⟨-, -, ⟨h955, h956⟩, -, cn, wt, tb, -, q942, q118⟩ := id ba
  obtain ⟨W1, rfl⟩ : ∃ W1, W = W1 + 1 := ⟨W - 1, by omega⟩
  have h98 : A (wa w 98 (60 * p + j) ((n + 1 : Nat) : Int)) 98 (60 * p + j) = ((n + 1 : Nat) : Int) := by rw [wa_sm (by omega) (by omega)]
  refine tow_hd2 (K1 := fun u => q195 (SAf T Fv P p) N (qgo (SAf T Fv P p) N M1) u p (I ((v : Nat) : Int))) (K2 := fun u => KRs Fv' AN TT CC ND CN UN FN N p mu M2 w u) (Or.inr (Or.inl ⟨rfl, rfl⟩)) hpp wl.1.1.1 (hP4 W1 (by omega)) (w1 := (wa w 98 (60 * p + j) ((n + 1 : Nat) : Int))) ru.2.2.2.2.2.2.1 (by omega) bd2 ⟨bd3, bd4⟩ (PLs_98 pl) (fun q hq e4 => ?_) ?_
  · exact op_unlink (K1 := fun u => q195 (SAf T Fv P p) N (qgo (SAf T Fv P p) N M1) u p (I ((v : Nat) : Int))) (K2 := fun u => KRs Fv' AN TT CC ND CN UN FN N p mu M2 w u) hpr hq wl ru sc (by omega) bd2 ⟨bd3, bd4⟩ (PLs_98 pl) FGw.goto h98 cr (fun m3 w3 a1 a2 a3 a4 a5 => st_gl ih s a1 a3 a4 a5)
  · exact st_wr (c := 11) ih s (by omega) (by rw [wi_id pl.2.2.1.1]; exact PLs_98 pl) (by omega) (by omega) FGw.goto ⟨rfl, rfl⟩
end
