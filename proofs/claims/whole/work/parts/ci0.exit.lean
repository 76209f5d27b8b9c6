/-! exit toward a PROCESS: a step of the induction -/
set_option maxRecDepth 100000
section
variable {T : TYc} {Fv Fv' : Int64 → Int64 → Prop} {P : Int64 → Prop} {AN : Nat} {TT : TY} {CC : CY} {pM pE : Nat → Nat} {ND CN PN SN UN FN N PR p i v mu M1 M2 f U B W Y l j a n : Nat} {m w : MS} {Q : MS → Int32 → MS → Int32 → Prop} {b : Int → Nat → Nat → Prop} {ow kw ow' kd' : Nat → Nat} {nb : Nat → Nat} {Hs Os : Nat → List Nat} {y : Option (Nat × Nat × Nat)}
theorem st_eg {m3 w3 : MS} (ih : ∀ M1 v m w, SIA T Fv P Fv' AN TT CC pM pE ND CN PN SN UN FN p v m w → PP Q (qgo (SAf T Fv P p) N M1 m p (I ((v : Nat) : Int))) (gg_M_go N M2 w (I ((p : Nat) : Int)))) (s : STx T Fv P Fv' AN TT CC pM pE ND CN PN SN UN FN N PR p i v f b U B W Y l ow kw ow' kd' j nb Hs Os y a n m w) (W3 : SFs Fv P Fv' (PWs AN) PR m3 w3 → WLs (RRx p (SPs p)) PR Fv P Fv' (PWs AN) none i 0 m3 w3) (e1 : EGm m m3) (e2 : EGw w w3) (h9 : F m3 1109 = 0 ∨ F m3 (pq p 9) = 3) : PP Q (q195 (SAf T Fv P p) N (qgo (SAf T Fv P p) N M1) m3 p (I ((v : Nat) : Int))) (KRs Fv' AN TT CC ND CN UN FN N p mu M2 w w3) := by
  obtain ⟨⟨hN, hpr, pr24, hi, hf⟩, -, ba, -⟩ := id s
  obtain ⟨-, -, ⟨h955, h956⟩, -, cn, wt, tb, -, q942, q118⟩ := id ba
  exact st_k3 ih s (PR3 := PR) (i3 := i) hpr ((congrArg Int32.toInt (e1.2 942 (by omega) (by omega))).trans q942) ((congrArg Int32.toInt (e2.2 118 (by omega))).trans q118) (fun k h => e1.2 k (by omega) (by omega)) (fun K h => e1.1 K (by omega) (by omega)) (fun k h => e2.2 k (by omega)) (fun K h => e2.1 K (by omega)) (by rw [e1.2 945 (by omega) (by omega), e2.2 121 (by omega)]; exact tb.2.2.1.2.1) (PN_st tb.2.1 (e1.2 953 (by omega) (by omega)) (fun K h => e1.1 K (by omega) (by omega)) (e2.2 128 (by omega)) (fun K h => e2.1 K (by omega))) (WTs_st wt (e1.2 950 (by omega) (by omega)) (fun K h => e1.1 K (by omega) (by omega)) (e2.2 125 (by omega)) (fun K h => e2.1 K (by omega))) ((congrArg Int32.toInt (e1.2 956 (by omega) (by omega))).trans h956) h9 W3
theorem EGm_fgm {m2 : MS} (f : FGm p m m2) : EGm m m2 := ⟨fun K h _ => f.2.2.1 K (by simp), fun k h _ => f.1 k (by
  have q : ∀ l, k ≠ pq p l := fun l => pq_n (by omega)
  have q2 : k ≠ 1105 := by omega
  simp [q, q2])⟩
theorem EGw_fgw {w2 : MS} (f : FGw p j w w2) : EGw w w2 := ⟨fun K h => f.1.2.2.1 K (by simp; omega), fun k h => f.1.1 k (by simp; omega)⟩
theorem EGm_ens {q e : Nat} {t : Int64} : EGm m (enS m q t q e) := ⟨fun K _ h => enS_3 h, fun k h1 h2 => enS_1 (pq_n (by omega)) (pq_n (by omega)) h2⟩
theorem EGw_enr {q e : Nat} {wr : Int} {x : Int64} : EGw w (enR w q wr ((q : Nat) : Int) x e) := by
  have fr := enR_fr (w := w) (q := q) (wr := wr) (o := q) (x := x) (e := e)
  exact ⟨fun K h => fr.2.2.1 K (by simp; omega), fun k h => fr.1 k (by simp; omega)⟩
theorem FMc_45 {m2 : MS} (f : FR [] [] [] [45] m m2) : FMc p m m2 := ⟨fun k _ _ => f.1 k (by simp), fun k _ _ => f.2.1 k (by simp), fun k _ _ => f.2.2.1 k (by simp), fun k h1 h2 => f.2.2.2 k (by simp at h2 ⊢; omega), fun r k _ _ => f.1 _ (by simp), fun r k _ _ => f.2.1 _ (by simp), fun r k _ _ => f.2.2.1 _ (by simp), fun r k _ _ => f.2.2.2 _ (by
  have q : pq r k ≠ 45 := fun c => pq_n (by omega) c.symm
  simp [q])⟩
theorem pk_exit (ih : ∀ M1 v m w, SIA T Fv P Fv' AN TT CC pM pE ND CN PN SN UN FN p v m w → PP Q (qgo (SAf T Fv P p) N M1 m p (I ((v : Nat) : Int))) (gg_M_go N M2 w (I ((p : Nat) : Int)))) (s : STx T Fv P Fv' AN TT CC pM pE ND CN PN SN UN FN N PR p i v f b U B W Y l ow kw ow' kd' j nb Hs Os y a n m w) (hP4 : ∀ k, k < W → so (m.2.2.2 (pq p 35) k) = 4 → 0 ≤ va (m.2.2.2 (pq p 35) k) ∧ va (m.2.2.2 (pq p 35) k) < ((PR : Nat) : Int)) (hb : tB TT n + 2 ≤ tH TT n) (cr : ∃ f, CRs (A m 23) (ROs w) (w.2.2.2 34) f y (a + 2) (n + 1) (Hs j) (Os j)) : PP Q (bnd (hm_Ma_toward N m p (I 29)) (fun u _ => q195 (SAf T Fv P p) N (qgo (SAf T Fv P p) N M1) u p (I ((v : Nat) : Int)))) (bnd (fm_M_predefinedRun N (wa w 98 (60 * p + j) ((n + 1 : Nat) : Int)) (I 8)) (fun u _ => KRs Fv' AN TT CC ND CN UN FN N p mu M2 w u)) := by
  obtain ⟨⟨r5, r8, r2⟩, ⟨ha, hn, hv, hpp, hj⟩, nd, ⟨pl, ru, bd⟩, ⟨n1, n2, n3⟩, bH, bW, bB, bY, nND, hN⟩ := st_b s
  obtain ⟨bd1, bd2, bd3, bd4⟩ := bd
  obtain ⟨⟨-, hpr, pr24, hi, hf⟩, ⟨per, hAN⟩, ba, lp, -, -, ⟨pt, xc, h140⟩, -, -, sc, wl, -⟩ := id s
  obtain ⟨-, -, ⟨h955, h956⟩, -, cn, wt, tb, -, q942, q118⟩ := id ba
  obtain ⟨W1, rfl⟩ : ∃ W1, W = W1 + 2 := ⟨W - 2, by omega⟩
  have cx : CTX Fv P m := (LPQ_dc lp).2
  have h98 : A (wa w 98 (60 * p + j) ((n + 1 : Nat) : Int)) 98 (60 * p + j) = ((n + 1 : Nat) : Int) := by rw [wa_sm (by omega) (by omega)]
  have pl1 : PLs (bGd b U ow' kd') p m (wa w 98 (60 * p + j) ((n + 1 : Nat) : Int)) U B (W1 + 2) Y := PLs_98 pl
  have hP : ∀ t, P t → PWs AN t := by
    obtain ⟨-, -, -, -, fa', na, atf⟩ := tb
    exact PT_pw (LPQ_dc lp).2 atf hAN
  have xc1 := CXf_cx (w := wa w 98 (60 * p + j) ((n + 1 : Nat) : Int)) (CXf_of (w := wa w 98 (60 * p + j) ((n + 1 : Nat) : Int)) hP pl1 pt xc.2.1 (by omega) ⟨by omega, by omega, bY⟩) h140
  have ha2 : a + 2 < 24000 := by
    obtain ⟨f9, cr9⟩ := cr
    have := CR_b cr9
    omega
  have alv : ∀ m3 w3 b3 U3 B3 W3 Y3 a3 n3, (SFs Fv P Fv' (PWs AN) PR m3 w3 → WLs (RRp p) PR Fv P Fv' (PWs AN) none i 0 m3 w3) → PLs b3 p m3 w3 U3 B3 W3 Y3 → RUs m3 w3 p j nb Hs Os y a3 n3 → EGm m m3 → EGw w w3 → PP Q (q195 (SAf T Fv P p) N (qgo (SAf T Fv P p) N M1) m3 p (I ((v : Nat) : Int))) (KRs Fv' AN TT CC ND CN UN FN N p mu M2 w w3) := fun m3 w3 b3 U3 B3 W3 Y3 a3 n3 a1 a2 a3 a4 a5 => st_eg ih s (fun s3 => WL_q (WL_t (a1 s3)) (fun _ => Or.inl ⟨_, _, _, _, _, _, _, a3⟩)) a4 a5 (Or.inl a3.2.2.2.2.2.1.2.1)
  have ded : ∀ m3 w3, (SFs Fv P Fv' (PWs AN) PR m3 w3 → WLs (RRt p) PR Fv P Fv' (PWs AN) none i 0 m3 w3) → F m3 (pq p 9) = 3 → EGm m m3 → EGw w w3 → PP Q (q195 (SAf T Fv P p) N (qgo (SAf T Fv P p) N M1) m3 p (I ((v : Nat) : Int))) (KRs Fv' AN TT CC ND CN UN FN N p mu M2 w w3) := fun m3 w3 a1 a2 a4 a5 => st_eg ih s (fun s3 => WL_q (a1 s3) (fun h => absurd a2 h)) a4 a5 (Or.inr a2)
  refine exit_hd (K1 := fun u => q195 (SAf T Fv P p) N (qgo (SAf T Fv P p) N M1) u p (I ((v : Nat) : Int))) (K2 := fun u => KRs Fv' AN TT CC ND CN UN FN N p mu M2 w u) (w1 := wa w 98 (60 * p + j) ((n + 1 : Nat) : Int)) hpp wl.1.1.1 (hP4 W1 (by omega)) ru.2.2.2.2.2.2.1 (by omega) bd2 ⟨bd3, bd4⟩ pl1 pt cx.1 xc1 (by omega) (fun q m2 w2 hq f2 g2 e4 hz => ?_) (fun m2 w2 f2 g2 => ?_)
  · obtain ⟨s0, hs5, ⟨f3, z1⟩, f4, z2⟩ := hz
    have fm2 : FGm p m m2 := FR.mo f2 (by simp) (by simp) (by simp) (by simp)
    have fw2 : FGw p j w w2 := FGw.tr FGw.goto (FGw_141 g2)
    have pl2 : PLs (bGd b U ow' kd') p m2 w2 U B (W1 + 2) Y := PLs_4541 pl1 f2 g2
    have xc2 := CX_141 xc1 g2
    have J2 : ∀ k, m2.2.2.2 (pq p k) = m.2.2.2 (pq p k) := fun k => f2.2.2.2 _ (by
      have q : pq p k ≠ 45 := fun c => pq_n (by omega) c.symm
      simp [q])
    have pt2 : PTQ m2 p U ow kw Fv P B (W1 + 2) Y := PTQ_same pt (fun k _ => f2.1 _ (by simp)) (fun k _ => J2 k)
    have m98 : A w2 98 (60 * p + j) = ((n + 1 : Nat) : Int) := (FR.A g2 (by simp)).trans h98
    have m05 : F m2 1105 = ((a : Nat) : Int) := (congrArg Int32.toInt (f2.1 1105 (by simp))).trans r2
    have m45 : F m2 (pq p 45) = ((l : Nat) : Int) := (congrArg Int32.toInt (f2.1 _ (by simp))).trans bd2
    have dc2 : DWc Fv P PR m2 := DWc_m wl.1.1.1 hpr (by omega) (FMc_45 f2) pt2
    have cx2 : CTX Fv P m2 := CTX_fr cx (f2.1 22 (by simp)) (f2.2.2.1 3 (by simp))
    have sf2 : SFs Fv P Fv' (PWs AN) PR m2 w2 := by
      obtain ⟨-, ⟨dw, lk, wt⟩, pb⟩ := SF_98 (q := 60 * p + j) (z := ((n + 1 : Nat) : Int)) wl.1
      exact ⟨⟨dc2, cx2⟩, ⟨DW_fr dw g2 (by simp) (by simp) (by simp) (by simp) (by simp) (by simp) (by simp) (by simp) (by simp) (by simp) (by simp) (by simp) (by simp) (by simp) (by simp) (by simp) (by simp), LK_fr lk g2 (by simp) (by simp), WTQ_fr wt g2 (by simp) (by simp) (by simp)⟩, pb⟩
    have e91 : w2.2.2.2 91 = (wa w 98 (60 * p + j) ((n + 1 : Nat) : Int)).2.2.2 91 := g2.2.2.2 91 (by simp)
    have e88 : hp w2 p = hp (wa w 98 (60 * p + j) ((n + 1 : Nat) : Int)) p := by
      unfold hp
      rw [g2.2.2.2 88 (by simp)]
    rw [← J2 2, ← J2 35] at z1
    rw [← e91, ← e88] at z2
    rw [← e91]
    by_cases q9 : F m (pq q 9) = 3
    · exact op_exitN (K1 := fun u => q195 (SAf T Fv P p) N (qgo (SAf T Fv P p) N M1) u p (I ((v : Nat) : Int))) (K2 := fun u => KRs Fv' AN TT CC ND CN UN FN N p mu M2 w u) hpr hq wl ru sc (by omega) m45 ⟨bd3, bd4⟩ pl2 fm2 m05 fw2 m98 cr (Or.inl q9) (fun m3 w3 a1 a2 a3 a4 a5 => st_fg ih s hj a2 a3 a4 a5)
    · by_cases h5 : m2.2.2.2 (pq p 35) (W1 + 1) = mk 1 5
      · by_cases hqp : q = p
        · subst hqp
          refine op_exitS (K1 := fun u => q195 (SAf T Fv P q) N (qgo (SAf T Fv P q) N M1) u q (I ((v : Nat) : Int))) (K2 := fun u => KRs Fv' AN TT CC ND CN UN FN N q mu M2 w u) hpr wl ru sc (by omega) m45 ⟨bd3, bd4⟩ pl2 fm2 m05 ha2 fw2 dc2 h5 (fun m3 w8 e e' a1 a2 a3 a4 a5 a6 a7 a8 => ded _ _ a5 a6 ?_ ?_)
          · exact EGm.tr (EGm.tr (EGm_fgm fm2) EGm_ens) (EGm_fgm a3)
          · exact EGw.tr (EGw_fgw a4) EGw_enr
        · refine op_exitK (K1 := fun u => q195 (SAf T Fv P p) N (qgo (SAf T Fv P p) N M1) u p (I ((v : Nat) : Int))) (K2 := fun u => KRs Fv' AN TT CC ND CN UN FN N p mu M2 w u) hpr hq hqp q9 wl ru sc (by omega) ⟨by omega, bY⟩ m45 ⟨bd3, bd4⟩ pl2 fm2 m05 fw2 m98 cr h5 (fun mB wB m3 w3 a1 a2 a3 a4 a5 a6 a7 => alv _ _ _ _ _ _ _ _ _ a1 a2 a3 ?_ ?_)
          · obtain ⟨e, e', rfl, rfl⟩ := a7
            exact EGm.tr EGm_ens (EGm_fgm a5)
          · obtain ⟨e, e', rfl, rfl⟩ := a7
            exact EGw.tr EGw_enr (EGw_fgw a6)
      · by_cases hqp : q = p
        · subst hqp
          by_cases h11 : F m (pq q 11) = 0
          · exact op_exitO (K1 := fun u => q195 (SAf T Fv P q) N (qgo (SAf T Fv P q) N M1) u q (I ((v : Nat) : Int))) (K2 := fun u => KRs Fv' AN TT CC ND CN UN FN N q mu M2 w u) hpr h11 wl h955 ru sc (by omega) m45 ⟨bd3, bd4⟩ pl2 pt2 xc2 hs5 z1 z2 (by omega) fm2 m05 ha2 fw2 h5 (fun m3 w3 a1 a2 a3 a4 a5 a6 => ded _ _ a1 a2 a4 a5)
          · have eh : ¬ isH (m2.2.2.2 (pq q 35) W1) := by
              rw [J2 35]
              have := e4.1
              unfold isH
              omega
            exact op_exitR (K1 := fun u => q195 (SAf T Fv P q) N (qgo (SAf T Fv P q) N M1) u q (I ((v : Nat) : Int))) (K2 := fun u => KRs Fv' AN TT CC ND CN UN FN N q mu M2 w u) hpr h11 wl h955 ru sc (by omega) m45 ⟨bd3, bd4⟩ pl2 pt2 xc2 hs5 z1 (by omega) fm2 m05 fw2 m98 cr h5 eh (fun b3 U3 Y3 m3 w3 a1 a2 a3 a4 a5 => alv _ _ _ _ _ _ _ _ _ a1 a2 a3 a4 a5) (fun m3 w3 a1 a2 a3 a4 a5 a6 => ded _ _ a1 a2 a4 a5)
        · by_cases h11 : F m (pq q 11) = 0
          · by_cases h4 : m2.2.2.2 (pq p 35) (W1 + 1) = mk 1 4
            · exact op_exitN (K1 := fun u => q195 (SAf T Fv P p) N (qgo (SAf T Fv P p) N M1) u p (I ((v : Nat) : Int))) (K2 := fun u => KRs Fv' AN TT CC ND CN UN FN N p mu M2 w u) hpr hq wl ru sc (by omega) m45 ⟨bd3, bd4⟩ pl2 fm2 m05 fw2 m98 cr (Or.inr ⟨h4, q9, h11, hqp⟩) (fun m3 w3 a1 a2 a3 a4 a5 => st_fg ih s hj a2 a3 a4 a5)
            · exact op_exitC (K1 := fun u => q195 (SAf T Fv P p) N (qgo (SAf T Fv P p) N M1) u p (I ((v : Nat) : Int))) (K2 := fun u => KRs Fv' AN TT CC ND CN UN FN N p mu M2 w u) hpr hq hqp q9 h11 wl h955 ru sc (by omega) ⟨by omega, bY⟩ m45 ⟨bd3, bd4⟩ pl2 pt2 cx.1 xc2 hs5 z1 z2 (by omega) fm2 m05 fw2 m98 cr h5 h4 (fun m3 w3 a1 a2 a3 a4 a5 => alv _ _ _ _ _ _ _ _ _ a1 a2 a3 a4 a5)
          · exact op_exitT (K1 := fun u => q195 (SAf T Fv P p) N (qgo (SAf T Fv P p) N M1) u p (I ((v : Nat) : Int))) (K2 := fun u => KRs Fv' AN TT CC ND CN UN FN N p mu M2 w u) hpr hq hqp q9 h11 wl h955 ru sc (by omega) ⟨by omega, bY⟩ m45 ⟨bd3, bd4⟩ pl2 pt2 cx.1 xc2 sf2 z1 z2 (by omega) fm2 m05 fw2 m98 cr h5 (fun m3 w3 a1 a2 a3 a4 a5 => alv _ _ _ _ _ _ _ _ _ a1 a2 a3 a4 a5)
  · have fm2 : FGm p m m2 := FR.mo f2 (by simp) (by simp) (by simp) (by simp)
    have fw2 : FGw p j w w2 := FGw.tr FGw.goto (FGw_141 g2)
    have pl2 : PLs (bGd b U ow' kd') p m2 w2 U B (W1 + 2) Y := PLs_4541 pl1 f2 g2
    have J2 : ∀ k, m2.2.2.2 (pq p k) = m.2.2.2 (pq p k) := fun k => f2.2.2.2 _ (by
      have q : pq p k ≠ 45 := fun c => pq_n (by omega) c.symm
      simp [q])
    have pt2 : PTQ m2 p U ow kw Fv P B (W1 + 2) Y := PTQ_same pt (fun k _ => f2.1 _ (by simp)) (fun k _ => J2 k)
    have g140 : F w2 140 = -1 := (congrArg Int32.toInt (g2.1 140 (by simp))).trans h140
    exact st_w3 (c := 11) (W2 := W1 + 2) ih s (by omega) (by omega) fm2 fw2 (by rw [wi_id pl2.2.2.1.1]; exact pl2) (RUb_fg (RUs_b ru) fm2 fw2) pt2 (by omega) (by omega) (by omega) (CX_141 xc1 g2) g140
end
