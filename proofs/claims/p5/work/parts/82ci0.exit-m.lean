section
set_option maxRecDepth 100000
section
variable {T : TYc} {Fv Fv' : Int64 → Int64 → Prop} {P : Int64 → Prop} {AN : Nat} {TT : TY} {CC : CY} {pM pE : Nat → Nat} {ND CN PN SN UN FN N PR p i v mu M1 M2 f U B W Y l j a n : Nat} {m w : MS} {Q : MS → Int32 → MS → Int32 → Prop} {b : Int → Nat → Nat → Prop} {ow kw ow' kd' : Nat → Nat} {nb : Nat → Nat} {Hs Os : Nat → List Nat} {y : Option (Nat × Nat × Nat)}
theorem st_eg {m3 w3 : MS} (ih : ∀ M1 v m w, SIA T Fv P Fv' AN TT CC pM pE ND CN PN SN UN FN p v m w → PP Q (qgo (SAf T Fv P p) N M1 m p (I ((v : Nat) : Int))) (gg_M_go N M2 w (I ((p : Nat) : Int)))) (s : STx T Fv P Fv' AN TT CC pM pE ND CN PN SN UN FN N PR p i v f b U B W Y l ow kw ow' kd' j nb Hs Os y a n m w) (W3 : SFs Fv P Fv' (PWs AN) PR m3 w3 → WLs (RRx p (SPs p)) PR Fv P Fv' (PWs AN) none i 0 m3 w3) (e1 : EGm m m3) (e2 : EGw w w3) (h9 : F m3 1109 = 0 ∨ F m3 (pq p 9) = 3) : PP Q (q195 (SAf T Fv P p) N (qgo (SAf T Fv P p) N M1) m3 p (I ((v : Nat) : Int))) (KRs Fv' AN TT CC ND CN UN FN N p mu M2 w w3) := by
  obtain ⟨⟨hN, hpr, pr24, hi, hf⟩, -, ba, -⟩ := id s
  obtain ⟨-, -, ⟨h955, h956⟩, -, cn, wt, tb, -, q942, q118⟩ := id ba
  exact st_k3 ih s (PR3 := PR) (i3 := i) hpr ((congrArg Int32.toInt (e1.2 942 (by omega) (by omega))).trans q942) ((congrArg Int32.toInt (e2.2 118 (by omega))).trans q118) (fun k h => e1.2 k (by omega) (by omega)) (fun K h => e1.1 K (by omega) (by omega)) (fun k h => e2.2 k (by omega)) (fun K h => e2.1 K (by omega)) (by rw [e1.2 945 (by omega) (by omega), e2.2 121 (by omega)]; exact tb.2.2.1.2.1) (PN_st tb.2.1 (e1.2 953 (by omega) (by omega)) (fun K h => e1.1 K (by omega) (by omega)) (e2.2 128 (by omega)) (fun K h => e2.1 K (by omega))) (WTs_st wt (e1.2 950 (by omega) (by omega)) (fun K h => e1.1 K (by omega) (by omega)) (e2.2 125 (by omega)) (fun K h => e2.1 K (by omega))) ((congrArg Int32.toInt (e1.2 956 (by omega) (by omega))).trans h956) h9 W3
theorem EGm_fgm {m2 : MS} (f : FGm p m m2) : EGm m m2 := ⟨fun K h _ => f.2.2.1 K (by simp), fun k h _ => f.1 k (by
  have q : ∀ l, k ≠ pq p l := fun l => pq_n (by omega)
  have q2 : k ≠ 1105 := by omega
  simp [q, q2])⟩
theorem EGw_fgw {w2 : MS} (f : FGw p j w w2) : EGw w w2 := ⟨fun K h => f.1.2.2.1 K (by simp; omega), fun k h => f.1.1 k (by simp; omega)⟩
theorem EGm_ens {q e : Nat} {t : Int64} : EGm m (enS m q t q e) := ⟨fun K _ h => enS_3 h, fun k h1 h2 => enS_1 (pq_n (by omega)) (pq_n (by omega)) h2⟩
theorem EGw_enr {q e : Nat} {wr : Int} {x : Int64} : EGw w (enR w q wr ((q : Nat) : Int) x e) := by
  have fr := enR_fr (w := w) (q := q) (wr := wr) (o := q) (x := x) (e := e)
  exact ⟨fun K h => fr.2.2.1 K (by simp; omega), fun k h => fr.1 k (by simp; omega)⟩
theorem FMc_45 {m2 : MS} (f : FR [] [] [] [45] m m2) : FMc p m m2 := ⟨fun k _ _ => f.1 k (by simp), fun k _ _ => f.2.1 k (by simp), fun k _ _ => f.2.2.1 k (by simp), fun k h1 h2 => f.2.2.2 k (by simp at h2 ⊢; omega), fun r k _ _ => f.1 _ (by simp), fun r k _ _ => f.2.1 _ (by simp), fun r k _ _ => f.2.2.1 _ (by simp), fun r k _ _ => f.2.2.2 _ (by
  have q : pq r k ≠ 45 := fun c => pq_n (by omega) c.symm
  simp [q])⟩
theorem pk_exit (ih : ∀ M1 v m w, SIA T Fv P Fv' AN TT CC pM pE ND CN PN SN UN FN p v m w → PP Q (qgo (SAf T Fv P p) N M1 m p (I ((v : Nat) : Int))) (gg_M_go N M2 w (I ((p : Nat) : Int)))) (s : STx T Fv P Fv' AN TT CC pM pE ND CN PN SN UN FN N PR p i v f b U B W Y l ow kw ow' kd' j nb Hs Os y a n m w) (hP4 : ∀ k, k < W → so (m.2.2.2 (pq p 35) k) = 4 → 0 ≤ va (m.2.2.2 (pq p 35) k) ∧ va (m.2.2.2 (pq p 35) k) < ((PR : Nat) : Int)) (hb : tB TT n + 2 ≤ tH TT n) (cr : ∃ f, CRs (A m 23) (ROs w) (w.2.2.2 34) f y (a + 2) (n + 1) (Hs j) (Os j)) : PP Q (bnd (hm_Ma_toward N m p (I 29)) (fun u _ => q195 (SAf T Fv P p) N (qgo (SAf T Fv P p) N M1) u p (I ((v : Nat) : Int)))) (bnd (fm_M_predefinedRun N (wa w 98 (60 * p + j) ((n + 1 : Nat) : Int)) (I 8)) (fun u _ => KRs Fv' AN TT CC ND CN UN FN N p mu M2 w u)) := by
  obtain ⟨⟨r5, r8, r2⟩, ⟨ha, hn, hv, hpp, hj⟩, nd, ⟨pl, ru, bd⟩, ⟨n1, n2, n3⟩, bH, bW, bB, bY, nND, hN⟩ := st_b s
  obtain ⟨bd1, bd2, bd3, bd4⟩ := bd
  obtain ⟨⟨-, hpr, pr24, hi, hf⟩, ⟨per, hAN⟩, ba, lp, -, -, ⟨pt, xc, h140⟩, -, -, sc, wl, -⟩ := id s
  obtain ⟨-, -, ⟨h955, h956⟩, -, cn, wt, tb, -, q942, q118⟩ := id ba
  obtain ⟨W1, rfl⟩ : ∃ W1, W = W1 + 2 := ⟨W - 2, by omega⟩
  have cx : CTX Fv P m := (LPQ_dc lp).2
  have h98 : A (wa w 98 (60 * p + j) ((n + 1 : Nat) : Int)) 98 (60 * p + j) = ((n + 1 : Nat) : Int) := by rw [wa_sm (by omega) (by omega)]
  have pl1 : PLs (bGd b U ow' kd') p m (wa w 98 (60 * p + j) ((n + 1 : Nat) : Int)) U B (W1 + 2) Y := PLs_98 pl
  have hP : ∀ t, P t → PWs AN t := by
    obtain ⟨-, -, -, -, fa', na, atf⟩ := tb
    exact PT_pw (LPQ_dc lp).2 atf hAN
  have xc1 := CXf_cx (w := wa w 98 (60 * p + j) ((n + 1 : Nat) : Int)) (CXf_of (w := wa w 98 (60 * p + j) ((n + 1 : Nat) : Int)) hP pl1 pt xc.2.1 (by omega) ⟨by omega, by omega, bY⟩) h140
  have ha2 : a + 2 < 24000 := by
    obtain ⟨f9, cr9⟩ := cr
    have := CR_b cr9
    omega
  have alv : ∀ m3 w3 b3 U3 B3 W3 Y3 a3 n3, (SFs Fv P Fv' (PWs AN) PR m3 w3 → WLs (RRp p) PR Fv P Fv' (PWs AN) none i 0 m3 w3) → PLs b3 p m3 w3 U3 B3 W3 Y3 → RUs m3 w3 p j nb Hs Os y a3 n3 → EGm m m3 → EGw w w3 → PP Q (q195 (SAf T Fv P p) N (qgo (SAf T Fv P p) N M1) m3 p (I ((v : Nat) : Int))) (KRs Fv' AN TT CC ND CN UN FN N p mu M2 w w3) := fun m3 w3 b3 U3 B3 W3 Y3 a3 n3 a1 a2 a3 a4 a5 => st_eg ih s (fun s3 => WL_q (WL_t (a1 s3)) (fun _ => Or.inl ⟨_, _, _, _, _, _, _, a3⟩)) a4 a5 (Or.inl a3.2.2.2.2.2.1.2.1)
  have ded : ∀ m3 w3, (SFs Fv P Fv' (PWs AN) PR m3 w3 → WLs (RRt p) PR Fv P Fv' (PWs AN) none i 0 m3 w3) → F m3 (pq p 9) = 3 → EGm m m3 → EGw w w3 → PP Q (q195 (SAf T Fv P p) N (qgo (SAf T Fv P p) N M1) m3 p (I ((v : Nat) : Int))) (KRs Fv' AN TT CC ND CN UN FN N p mu M2 w w3) := fun m3 w3 a1 a2 a4 a5 => st_eg ih s (fun s3 => WL_q (a1 s3) (fun h => absurd a2 h)) a4 a5 (Or.inr a2)
  refine exit_hd (K1 := fun u => q195 (SAf T Fv P p) N (qgo (SAf T Fv P p) N M1) u p (I ((v : Nat) : Int))) (K2 := fun u => KRs Fv' AN TT CC ND CN UN FN N p mu M2 w u) (w1 := wa w 98 (60 * p + j) ((n + 1 : Nat) : Int)) hpp wl.1.1.1 (hP4 W1 (by omega)) ru.2.2.2.2.2.2.1 (by omega) bd2 ⟨bd3, bd4⟩ pl1 pt cx.1 xc1 (by omega) (fun q m2 w2 hq f2 g2 e4 hz => ?_) (fun m2 w2 f2 g2 => ?_)
  · obtain ⟨s0, hs5, ⟨f3, z1⟩, f4, z2⟩ := hz
    have fm2 : FGm p m m2 := FR.mo f2 (by simp) (by simp) (by simp) (by simp)
    have fw2 : FGw p j w w2 := FGw.tr FGw.goto (FGw_141 g2)
    have pl2 : PLs (bGd b U ow' kd') p m2 w2 U B (W1 + 2) Y := PLs_4541 pl1 f2 g2
    have xc2 := CX_141 xc1 g2
    have J2 : ∀ k, m2.2.2.2 (pq p k) = m.2.2.2 (pq p k) := fun k => f2.2.2.2 _ (by
      have q : pq p k ≠ 45 := fun c => pq_n (by omega) c.symm
      simp [q])
    have pt2 : PTQ m2 p U ow kw Fv P B (W1 + 2) Y := PTQ_same pt (fun k _ => f2.1 _ (by simp)) (fun k _ => J2 k)
    have m98 : A w2 98 (60 * p + j) = ((n + 1 : Nat) : Int) := (FR.A g2 (by simp)).trans h98
    have m05 : F m2 1105 = ((a : Nat) : Int) := (congrArg Int32.toInt (f2.1 1105 (by simp))).trans r2
    have m45 : F m2 (pq p 45) = ((l : Nat) : Int) := (congrArg Int32.toInt (f2.1 _ (by simp))).trans bd2
    have dc2 : DWc Fv P PR m2 := DWc_m wl.1.1.1 hpr (by omega) (FMc_45 f2) pt2
    have cx2 : CTX Fv P m2 := CTX_fr cx (f2.1 22 (by simp)) (f2.2.2.1 3 (by simp))
    have sf2 : SFs Fv P Fv' (PWs AN) PR m2 w2 := by
      obtain ⟨-, ⟨dw, lk, wt⟩, pb⟩ := SF_98 (q := 60 * p + j) (z := ((n + 1 : Nat) : Int)) wl.1
      exact ⟨⟨dc2, cx2⟩, ⟨DW_fr dw g2 (by simp) (by simp) (by simp) (by simp) (by simp) (by simp) (by simp) (by simp) (by simp) (by simp) (by simp) (by simp) (by simp) (by simp) (by simp) (by simp) (by simp), LK_fr lk g2 (by simp) (by simp), WTQ_fr wt g2 (by simp) (by simp) (by simp)⟩, pb⟩
    have e91 : w2.2.2.2 91 = (wa w 98 (60 * p + j) ((n + 1 : Nat) : Int)).2.2.2 91 := g2.2.2.2 91 (by simp)
    have e88 : hp w2 p = hp (wa w 98 (60 * p + j) ((n + 1 : Nat) : Int)) p := by
      unfold hp
      rw [g2.2.2.2 88 (by simp)]
    rw [← J2 2, ← J2 35] at z1
    rw [← e91, ← e88] at z2
    rw [← e91]
    by_cases q9 : F m (pq q 9) = 3
    · exact op_exitN (K1 := fun u => q195 (SAf T Fv P p) N (qgo (SAf T Fv P p) N M1) u p (I ((v : Nat) : Int))) (K2 := fun u => KRs Fv' AN TT CC ND CN UN FN N p mu M2 w u) hpr hq wl ru sc (by omega) m45 ⟨bd3, bd4⟩ pl2 fm2 m05 fw2 m98 cr (Or.inl q9) (fun m3 w3 a1 a2 a3 a4 a5 => st_fg ih s hj a2 a3 a4 a5)
    · by_cases h5 : m2.2.2.2 (pq p 35) (W1 + 1) = mk 1 5
      · by_cases hqp : q = p
        · subst hqp
          refine op_exitS (K1 := fun u => q195 (SAf T Fv P q) N (qgo (SAf T Fv P q) N M1) u q (I ((v : Nat) : Int))) (K2 := fun u => KRs Fv' AN TT CC ND CN UN FN N q mu M2 w u) hpr wl ru sc (by omega) m45 ⟨bd3, bd4⟩ pl2 fm2 m05 ha2 fw2 dc2 h5 (fun m3 w8 e e' a1 a2 a3 a4 a5 a6 a7 a8 => ded _ _ a5 a6 ?_ ?_)
          · exact EGm.tr (EGm.tr (EGm_fgm fm2) EGm_ens) (EGm_fgm a3)
          · exact EGw.tr (EGw_fgw a4) EGw_enr
        · refine op_exitK (K1 := fun u => q195 (SAf T Fv P p) N (qgo (SAf T Fv P p) N M1) u p (I ((v : Nat) : Int))) (K2 := fun u => KRs Fv' AN TT CC ND CN UN FN N p mu M2 w u) hpr hq hqp q9 wl ru sc (by omega) ⟨by omega, bY⟩ m45 ⟨bd3, bd4⟩ pl2 fm2 m05 fw2 m98 cr h5 (fun mB wB m3 w3 a1 a2 a3 a4 a5 a6 a7 => alv _ _ _ _ _ _ _ _ _ a1 a2 a3 ?_ ?_)
          · obtain ⟨e, e', rfl, rfl⟩ := a7
            exact EGm.tr EGm_ens (EGm_fgm a5)
          · obtain ⟨e, e', rfl, rfl⟩ := a7
            exact EGw.tr EGw_enr (EGw_fgw a6)
      · by_cases hqp : q = p
        · subst hqp
          by_cases h11 : F m (pq q 11) = 0
          · exact op_exitO (K1 := fun u => q195 (SAf T Fv P q) N (qgo (SAf T Fv P q) N M1) u q (I ((v : Nat) : Int))) (K2 := fun u => KRs Fv' AN TT CC ND CN UN FN N q mu M2 w u) hpr h11 wl h955 ru sc (by omega) m45 ⟨bd3, bd4⟩ pl2 pt2 xc2 hs5 z1 z2 (by omega) fm2 m05 ha2 fw2 h5 (fun m3 w3 a1 a2 a3 a4 a5 a6 => ded _ _ a1 a2 a4 a5)
          · have eh : ¬ isH (m2.2.2.2 (pq q 35) W1) := by
              rw [J2 35]
              have := e4.1
              unfold isH
              omega
            exact op_exitR (K1 := fun u => q195 (SAf T Fv P q) N (qgo (SAf T Fv P q) N M1) u q (I ((v : Nat) : Int))) (K2 := fun u => KRs Fv' AN TT CC ND CN UN FN N q mu M2 w u) hpr h11 wl h955 ru sc (by omega) m45 ⟨bd3, bd4⟩ pl2 pt2 xc2 hs5 z1 (by omega) fm2 m05 fw2 m98 cr h5 eh (fun b3 U3 Y3 m3 w3 a1 a2 a3 a4 a5 => alv _ _ _ _ _ _ _ _ _ a1 a2 a3 a4 a5) (fun m3 w3 a1 a2 a3 a4 a5 a6 => ded _ _ a1 a2 a4 a5)
        · by_cases h11 : F m (pq q 11) = 0
          · by_cases h4 : m2.2.2.2 (pq p 35) (W1 + 1) = mk 1 4
            · exact op_exitN (K1 := fun u => q195 (SAf T Fv P p) N (qgo (SAf T Fv P p) N M1) u p (I ((v : Nat) : Int))) (K2 := fun u => KRs Fv' AN TT CC ND CN UN FN N p mu M2 w u) hpr hq wl ru sc (by omega) m45 ⟨bd3, bd4⟩ pl2 fm2 m05 fw2 m98 cr (Or.inr ⟨h4, q9, h11, hqp⟩) (fun m3 w3 a1 a2 a3 a4 a5 => st_fg ih s hj a2 a3 a4 a5)
            · exact op_exitC (K1 := fun u => q195 (SAf T Fv P p) N (qgo (SAf T Fv P p) N M1) u p (I ((v : Nat) : Int))) (K2 := fun u => KRs Fv' AN TT CC ND CN UN FN N p mu M2 w u) hpr hq hqp q9 h11 wl h955 ru sc (by omega) ⟨by omega, bY⟩ m45 ⟨bd3, bd4⟩ pl2 pt2 cx.1 xc2 hs5 z1 z2 (by omega) fm2 m05 fw2 m98 cr h5 h4 (fun m3 w3 a1 a2 a3 a4 a5 => alv _ _ _ _ _ _ _ _ _ a1 a2 a3 a4 a5)
          · exact op_exitT (K1 := fun u => q195 (SAf T Fv P p) N (qgo (SAf T Fv P p) N M1) u p (I ((v : Nat) : Int))) (K2 := fun u => KRs Fv' AN TT CC ND CN UN FN N p mu M2 w u) hpr hq hqp q9 h11 wl h955 ru sc (by omega) ⟨by omega, bY⟩ m45 ⟨bd3, bd4⟩ pl2 pt2 cx.1 xc2 sf2 z1 z2 (by omega) fm2 m05 fw2 m98 cr h5 (fun m3 w3 a1 a2 a3 a4 a5 => alv _ _ _ _ _ _ _ _ _ a1 a2 a3 a4 a5)
  · have fm2 : FGm p m m2 := FR.mo f2 (by simp) (by simp) (by simp) (by simp)
    have fw2 : FGw p j w w2 := FGw.tr FGw.goto (FGw_141 g2)
    have pl2 : PLs (bGd b U ow' kd') p m2 w2 U B (W1 + 2) Y := PLs_4541 pl1 f2 g2
    have J2 : ∀ k, m2.2.2.2 (pq p k) = m.2.2.2 (pq p k) := fun k => f2.2.2.2 _ (by
      have q : pq p k ≠ 45 := fun c => pq_n (by omega) c.symm
      simp [q])
    have pt2 : PTQ m2 p U ow kw Fv P B (W1 + 2) Y := PTQ_same pt (fun k _ => f2.1 _ (by simp)) (fun k _ => J2 k)
    have g140 : F w2 140 = -1 := (congrArg Int32.toInt (g2.1 140 (by simp))).trans h140
    exact st_w3 (c := 11) (W2 := W1 + 2) ih s (by omega) (by omega) fm2 fw2 (by rw [wi_id pl2.2.2.1.1]; exact pl2) (RUb_fg (RUs_b ru) fm2 fw2) pt2 (by omega) (by omega) (by omega) (CX_141 xc1 g2) g140
end
end
section
set_option maxRecDepth 100000
section
variable {T : TYc} {Fv Fv' : Int64 → Int64 → Prop} {P : Int64 → Prop} {AN : Nat} {TT : TY} {CC : CY} {pM pE : Nat → Nat} {ND CN PN SN UN FN N PR p i v mu M1 M2 f U B W Y l j a n : Nat} {m w : MS} {Q : MS → Int32 → MS → Int32 → Prop} {b : Int → Nat → Nat → Prop} {ow kw ow' kd' : Nat → Nat} {nb : Nat → Nat} {Hs Os : Nat → List Nat} {y : Option (Nat × Nat × Nat)}
theorem sk_1820 (ih : ∀ M1 v m w, SIA T Fv P Fv' AN TT CC pM pE ND CN PN SN UN FN p v m w → PP Q (qgo (SAf T Fv P p) N M1 m p (I ((v : Nat) : Int))) (gg_M_go N M2 w (I ((p : Nat) : Int)))) (s : STx T Fv P Fv' AN TT CC pM pE ND CN PN SN UN FN N PR p i v f b U B W Y l ow kw ow' kd' j nb Hs Os none a n m w) {k : Nat} (h23 : A w 23 n = 18) (h24 : A w 23 (n + 1) = 20) (c0 : A m 23 a = 30) (c1 : A m 23 (a + 1) = 16) (hd : A w 25 n = ((k : Nat) : Int)) (hk : k ≤ (Os j).length) (ht : A m 23 (a + 2) = (((Os j).length - k : Nat) : Int)) (cr : ∃ f, CRs (A m 23) (ROs w) (w.2.2.2 34) f none (a + 3) (n + 2) (Hs j) ((Os j).take k)) : PP Q (q67 (SAf T Fv P p) N (qgo (SAf T Fv P p) N M1) m p (I ((v : Nat) : Int))) (bnd (fm_M_one N w (I ((n : Nat) : Int)) (I 18)) (fun u _ => KRs Fv' AN TT CC ND CN UN FN N p mu (M2 + 1) w u)) := by
  obtain ⟨⟨r5, r8, r2⟩, ⟨ha, hn, hv, hpp, hj⟩, nd, ⟨pl, ru, bd⟩, ⟨n1, n2, n3⟩, bH, bW, bB, bY, nND, hN⟩ := st_b s
  have cb := CR_b cr.choose_spec
  obtain ⟨a0, q1, q2, -⟩ := (n2.2.2.2.2.2.2.1 h23).2
  have ek : a0 = k := by omega
  subst ek
  obtain ⟨⟨fa, ct⟩, ⟨-, r3⟩, -, ⟨-, r6⟩, r7, ⟨-, r9, r10⟩, r11, r12, r13⟩ := id ru
  obtain ⟨-, -, ⟨h955, h956⟩, ⟨h149, h150⟩, -⟩ := id s.2.2.1
  have fl := fa.2.1 j (Nat.le_refl _)
  have hct := sk_105 s q2
  obtain ⟨q, c28, c106, c3, -⟩ := id ct
  obtain ⟨c, rfl⟩ : ∃ c, q = c + 1 := ⟨q - 1, by
    obtain ⟨i2, h, mm, L, g2, x2, j2, wb, nb2, cb2, rk, M⟩ := cl_any s.2.2.2.1 r5 r8
    obtain ⟨-, -, st, ⟨ti, e5⟩, -⟩ := id M
    have ei : a = i2 := by omega
    subst ei
    have h1 := in_30 (M.1.2.2.1 _ _ _ _ _ _ ti).2.2.2.2.2 c0
    have h2 := st.2.2.2.1
    omega⟩
  have eB : B = nb j + (Hs j).length + (Os j).length := by
    have := fa.2.2.2
    rw [pl.2.1.1, List.length_append] at this
    omega
  have eB2 : B - ((Os j).length - a0) = nb j + (Hs j).length + a0 := by omega
  have cm1 : I ((c + 1 : Nat) : Int) - 1 = I ((c : Nat) : Int) := by rw [lit1q, I_sub]; congr 1; omega
  rw [go_fl r5 r8 (by omega) r2 (by omega) c0 ⟨by omega, by omega⟩, flo30, I_F' r2, show I ((a : Nat) : Int) + 1 = I ((a + 1 : Nat) : Int) from addN, Co_e (k := a + 1) rfl ha, bnd_so, I_F' c28, cm1, wi_e, lt_e]
  have e5 : F (wi m (pq p 28) ((c : Nat) : Int)) 1105 = ((a : Nat) : Int) := by rw [wi_ne (pq_n (by omega))]; exact r2
  rw [I_F' e5, show I ((a : Nat) : Int) + 1 = I ((a + 1 : Nat) : Int) from addN, wi_e]
  show PP Q (q195 (SAf T Fv P p) N (qgo (SAf T Fv P p) N M1) (wi (wi m (pq p 28) ((c : Nat) : Int)) 1105 ((a + 1 : Nat) : Int)) p (I ((v : Nat) : Int))) _
  have o1 : ∀ z, z < 100 → z ≠ 28 → (wi (wi m (pq p 28) ((c : Nat) : Int)) 1105 ((a + 1 : Nat) : Int)).1 (pq p z) = m.1 (pq p z) := fun z h1 h2 => (wi_1 (fun c => pq_n (by omega) c.symm)).trans (wi_1 (pq_inj h2))
  have o2 : ∀ z, z < 2000 → z ≠ 1105 → (wi (wi m (pq p 28) ((c : Nat) : Int)) 1105 ((a + 1 : Nat) : Int)).1 z = m.1 z := fun z h1 h2 => (wi_1 h2).trans (wi_1 (pq_n h1))
  have o28 : F (wi (wi m (pq p 28) ((c : Nat) : Int)) 1105 ((a + 1 : Nat) : Int)) (pq p 28) = ((c : Nat) : Int) := by rw [wi_ne (fun c => pq_n (by omega) c.symm), wi_sm (by omega) (by omega)]
  have o5 : F (wi (wi m (pq p 28) ((c : Nat) : Int)) 1105 ((a + 1 : Nat) : Int)) 1105 = ((a + 1 : Nat) : Int) := by rw [wi_sm (by omega) (by omega)]
  have oR : (wi (wi m (pq p 28) ((c : Nat) : Int)) 1105 ((a + 1 : Nat) : Int)).2 = m.2 := rfl
  have og : GGm p m (wi (wi m (pq p 28) ((c : Nat) : Int)) 1105 ((a + 1 : Nat) : Int)) := GGm.tr (GGm_own (by omega)) (GGm_reg (by omega))
  generalize wi (wi m (pq p 28) ((c : Nat) : Int)) 1105 ((a + 1 : Nat) : Int) = m1 at o1 o2 o28 o5 oR og
  have oF : ∀ z, z < 2000 → z ≠ 1105 → F m1 z = F m z := fun z h1 h2 => congrArg Int32.toInt (o2 z h1 h2)
  have oA : ∀ K z, A m1 K z = A m K z := fun K z => by show (m1.2.2.1 K z).toInt = _; rw [oR]; rfl
  have o9 : F m1 (pq p 9) = 0 := (congrArg Int32.toInt (o1 9 (by omega) (by omega))).trans r5
  have o24 : F m1 (pq p 24) = ((B : Nat) : Int) := (congrArg Int32.toInt (o1 24 (by omega) (by omega))).trans pl.2.1.1
  refine go195 ((oF 1109 (by omega) (by omega)).trans r9) (by rw [oF 955 (by omega) (by omega), oF 956 (by omega) (by omega)]; omega) (fun hs => ?_)
  cases M1 with
  | zero => exact pp_nl
  | succ M1 =>
  show PP Q (q67 (SAf T Fv P p) N (qgo (SAf T Fv P p) N M1) m1 p (I ((v + 1 : Nat) : Int))) _
  rw [go_vl o9 ((oF 1108 (by omega) (by omega)).trans r8) (by omega) o5 (by omega) ((oA 23 (a + 1)).trans c1) ⟨by omega, by omega⟩, val16, I_F' o5, show I ((a + 1 : Nat) : Int) + 1 = I ((a + 2 : Nat) : Int) from addN, Co_e (k := a + 2) rfl (by omega), bnd_so, oA, ht, forgetc_e (B := B) (k := (Os j).length - a0) o24 rfl (by omega), bnd_so, eB2]
  have e6 : F (wi m1 (pq p 24) ((nb j + (Hs j).length + a0 : Nat) : Int)) 1105 = ((a + 1 : Nat) : Int) := by rw [wi_ne (pq_n (by omega))]; exact o5
  rw [I_F' e6, show I ((a + 1 : Nat) : Int) + 2 = I ((a + 3 : Nat) : Int) from addN, wi_e]
  show PP Q (q195 (SAf T Fv P p) N (qgo (SAf T Fv P p) N M1) (wi (wi m1 (pq p 24) ((nb j + (Hs j).length + a0 : Nat) : Int)) 1105 ((a + 3 : Nat) : Int)) p (I ((v + 1 : Nat) : Int))) _
  have t1 : ∀ z, z < 100 → z ≠ 24 → (wi (wi m1 (pq p 24) ((nb j + (Hs j).length + a0 : Nat) : Int)) 1105 ((a + 3 : Nat) : Int)).1 (pq p z) = m1.1 (pq p z) := fun z h1 h2 => (wi_1 (fun c => pq_n (by omega) c.symm)).trans (wi_1 (pq_inj h2))
  have t2 : ∀ z, z < 2000 → z ≠ 1105 → (wi (wi m1 (pq p 24) ((nb j + (Hs j).length + a0 : Nat) : Int)) 1105 ((a + 3 : Nat) : Int)).1 z = m1.1 z := fun z h1 h2 => (wi_1 h2).trans (wi_1 (pq_n h1))
  have t24 : (wi (wi m1 (pq p 24) ((nb j + (Hs j).length + a0 : Nat) : Int)) 1105 ((a + 3 : Nat) : Int)).1 (pq p 24) = I ((nb j + (Hs j).length + a0 : Nat) : Int) := (wi_1 (fun c => pq_n (by omega) c.symm)).trans wi_s1
  have t5 : F (wi (wi m1 (pq p 24) ((nb j + (Hs j).length + a0 : Nat) : Int)) 1105 ((a + 3 : Nat) : Int)) 1105 = ((a + 3 : Nat) : Int) := by rw [wi_sm (by omega) (by omega)]
  have tR : (wi (wi m1 (pq p 24) ((nb j + (Hs j).length + a0 : Nat) : Int)) 1105 ((a + 3 : Nat) : Int)).2 = m1.2 := rfl
  have tg : GGm p m1 (wi (wi m1 (pq p 24) ((nb j + (Hs j).length + a0 : Nat) : Int)) 1105 ((a + 3 : Nat) : Int)) := GGm.tr (GGm_own (by omega)) (GGm_reg (by omega))
  generalize wi (wi m1 (pq p 24) ((nb j + (Hs j).length + a0 : Nat) : Int)) 1105 ((a + 3 : Nat) : Int) = m2 at t1 t2 t24 t5 tR tg
  have u1 : ∀ z, z < 100 → z ≠ 24 → z ≠ 28 → m2.1 (pq p z) = m.1 (pq p z) := fun z h1 h2 h3 => (t1 z h1 h2).trans (o1 z h1 h3)
  have u2 : ∀ z, z < 2000 → z ≠ 1105 → m2.1 z = m.1 z := fun z h1 h2 => (t2 z h1 h2).trans (o2 z h1 h2)
  have uR : m2.2 = m.2 := tR.trans oR
  have u28 : F m2 (pq p 28) = ((c : Nat) : Int) := (congrArg Int32.toInt (t1 28 (by omega) (by omega))).trans o28
  have u24 : F m2 (pq p 24) = ((nb j + (Hs j).length + a0 : Nat) : Int) := by
    show (m2.1 (pq p 24)).toInt = _
    rw [t24, I_ti (by omega) (by omega)]
  have gm : GGm p m m2 := GGm.tr og tg
  rw [one_18, show I ((n : Nat) : Int) + 1 = I ((n + 1 : Nat) : Int) from addN, bb_e]
  refine r_bnd (pk_mo (goto_r (N := N) (n := ((n + 1 : Nat) : Int)) hpp r11 fa.1.2.1 hj) (fun w2 _ h => ?_))
  subst h
  have aw : ∀ K i, K ≠ 98 → A (wa w 98 (60 * p + j) ((n + 1 : Nat) : Int)) K i = A w K i := fun K i h => by rw [wa_rne h]
  refine rb_ck (fun _ => ?_)
  rw [tnI (n := n) rfl (by omega), I_A' ((aw 25 n (by omega)).trans hd), bb_e]
  refine r_bnd (pk_mo (names_r (N := N) (w := wa w 98 (60 * p + j) ((n + 1 : Nat) : Int)) (k := a0) hpp r11 ((aw 95 p (by omega)).trans fa.1.2.1) hj ((aw 99 _ (by omega)).trans fl.2.2.1.2) ((aw 101 _ (by omega)).trans fl.2.2.2.2.1)) (fun w3 _ h => ?_))
  subst h
  rw [bnd_so]
  have fr1 : FR [] [] [94, 98] [] w (wa (wa w 98 (60 * p + j) ((n + 1 : Nat) : Int)) 94 p ((nb j + (Hs j).length + a0 : Nat) : Int)) := FR.wa (FR.wa FR.rf (by simp)) (by simp)
  have g1 : GGw p w (wa (wa w 98 (60 * p + j) ((n + 1 : Nat) : Int)) 94 p ((nb j + (Hs j).length + a0 : Nat) : Int)) := GGw.tr (GGw_fg FGw.goto hj) (GGw_own (Or.inl ⟨by omega, rfl⟩))
  have k98 : A (wa (wa w 98 (60 * p + j) ((n + 1 : Nat) : Int)) 94 p ((nb j + (Hs j).length + a0 : Nat) : Int)) 98 (60 * p + j) = ((n + 1 : Nat) : Int) := by rw [wa_rne (by omega), wa_sm (by omega) (by omega)]
  have k94 : (wa (wa w 98 (60 * p + j) ((n + 1 : Nat) : Int)) 94 p ((nb j + (Hs j).length + a0 : Nat) : Int)).2.2.1 94 p = I ((nb j + (Hs j).length + a0 : Nat) : Int) := wa_s1
  have ko : ∀ r, r < j → (wa (wa w 98 (60 * p + j) ((n + 1 : Nat) : Int)) 94 p ((nb j + (Hs j).length + a0 : Nat) : Int)).2.2.1 98 (60 * p + r) = w.2.2.1 98 (60 * p + r) := fun r hr => (wa_at (by omega)).trans (wa_at (by omega))
  generalize wa (wa w 98 (60 * p + j) ((n + 1 : Nat) : Int)) 94 p ((nb j + (Hs j).length + a0 : Nat) : Int) = w1 at fr1 g1 k98 k94 ko
  have y33 : F w1 133 = ((p : Nat) : Int) := (FR.F fr1 (by simp)).trans r11
  have y95 : A w1 95 p = ((j + 1 : Nat) : Int) := (FR.A fr1 (by simp)).trans fa.1.2.1
  refine st_k0 s (r := n + 1) (by omega) w1 _ k98 ((FR.A fr1 (by simp)).trans r6) ((FR.F fr1 (by simp)).trans r10) y33 y95 ((FR.F fr1 (by simp)).trans h149) ((FR.F fr1 (by simp)).trans h150) ?_
  rw [show A w1 23 (n + 1) = 20 from (FR.A fr1 (by simp)).trans h24]
  rw [one_20, show I ((n + 1 : Nat) : Int) + 1 = I ((n + 2 : Nat) : Int) from addN, bb_e]
  refine r_bnd (pk_mo (goto_r (N := N) (n := ((n + 2 : Nat) : Int)) hpp y33 y95 hj) (fun w2 _ h => ?_))
  subst h
  have g3 : F (wa w1 98 (60 * p + j) ((n + 2 : Nat) : Int)) 133 = ((p : Nat) : Int) := y33
  have g106 : A (wa w1 98 (60 * p + j) ((n + 2 : Nat) : Int)) 106 p = ((c + 1 : Nat) : Int) := by rw [wa_rne (by omega)]; exact (FR.A fr1 (by simp)).trans c106
  rw [oth_20, bb_e, I_F' g3, tnI (n := p) rfl (by omega), I_A' g106, cm1]
  refine rb_ck (fun _ => rb_ck (fun _ => ?_))
  rw [wa_e]
  show PP Q _ (KRs Fv' AN TT CC ND CN UN FN N p mu M2 w (wa (wa w1 98 (60 * p + j) ((n + 2 : Nat) : Int)) 106 p ((c : Nat) : Int)))
  have fr : FR [] [] [94, 98, 106] [] w (wa (wa w1 98 (60 * p + j) ((n + 2 : Nat) : Int)) 106 p ((c : Nat) : Int)) := FR.wa (FR.wa (FR.mo fr1 (by simp) (by simp) (by simp) (by simp)) (by simp)) (by simp)
  have gw : GGw p w (wa (wa w1 98 (60 * p + j) ((n + 2 : Nat) : Int)) 106 p ((c : Nat) : Int)) := GGw.tr g1 (GGw.tr (GGw_fg FGw.goto hj) (GGw_own (Or.inl ⟨by omega, rfl⟩)))
  have x98 : A (wa (wa w1 98 (60 * p + j) ((n + 2 : Nat) : Int)) 106 p ((c : Nat) : Int)) 98 (60 * p + j) = ((n + 2 : Nat) : Int) := by rw [wa_rne (by omega), wa_sm (by omega) (by omega)]
  have x106 : A (wa (wa w1 98 (60 * p + j) ((n + 2 : Nat) : Int)) 106 p ((c : Nat) : Int)) 106 p = ((c : Nat) : Int) := by rw [wa_sm (by omega) (by omega)]
  have x94 : (wa (wa w1 98 (60 * p + j) ((n + 2 : Nat) : Int)) 106 p ((c : Nat) : Int)).2.2.1 94 p = I ((nb j + (Hs j).length + a0 : Nat) : Int) := by rw [wa_at (by omega), wa_at (by omega)]; exact k94
  have xo : ∀ r, r < j → (wa (wa w1 98 (60 * p + j) ((n + 2 : Nat) : Int)) 106 p ((c : Nat) : Int)).2.2.1 98 (60 * p + r) = w.2.2.1 98 (60 * p + r) := fun r hr => ((wa_at (by omega)).trans (wa_at (by omega))).trans (ko r hr)
  generalize wa (wa w1 98 (60 * p + j) ((n + 2 : Nat) : Int)) 106 p ((c : Nat) : Int) = w2 at fr gw x98 x106 x94 xo
  have fa2 : FAs m2 w2 p j nb Hs (tkO Os j a0) := FA_less fa hk (u1 21 (by omega) (by omega) (by omega)) u24 (fun _ _ => by rw [uR]) (by rw [uR]) (by rw [fr.2.2.1 95 (by simp)]) (fun K r c1 c2 c3 c4 => by
    by_cases c5 : K = 98
    · subst c5
      exact xo r (c4 rfl)
    · rw [fr.2.2.1 K (by simp; omega)]) gw.2.1.1 gw.2.1.2.1
  have ctu : CTs m2 w2 p j nb Hs Os := CT_pop (n := c) ct c28 u28 x106 (by rw [uR]) (fun K c2 h1 h2 => FR.A fr (by simp; omega)) (by rw [uR]) gw.2.1.1 gw.2.1.2.1
  have ct2 : CTs m2 w2 p j nb Hs (tkO Os j a0) := CT_less ctu (fun nC d h1 h2 => by
    rw [FR.A fr (by simp)]
    exact hct (c + 1) d c28 (by omega)) hk rfl rfl rfl rfl (fun _ _ _ => rfl) (fun _ _ => rfl) rfl
  have gd : GDr none m2 w2 p (nb j) (Hs j) (tkO Os j a0 j) := by
    rcases r7 with ⟨_, d2, d3⟩ | ⟨_, _, _, d, _⟩
    · exact Or.inl ⟨rfl, (congrArg Int32.toInt (u2 1112 (by omega) (by omega))).trans d2, (FR.F fr (by simp)).trans d3⟩
    · cases d
  have cr2 : ∃ f, CRs (A m2 23) (ROs w2) (w2.2.2.2 34) f none (a + 3) (n + 2) (Hs j) (tkO Os j a0 j) := by
    rw [tkO_j, ROs_eq gw.2.1.1, gw.2.1.2.1, show A m2 23 = A m 23 from by funext z; show (m2.2.2.1 23 z).toInt = _; rw [uR]; rfl]
    exact cr
  have pl2 : PLs (bGd b U ow' kd') p m w U (nb j + (Hs j).length + a0 + ((Os j).length - a0)) W Y := by
    rw [show nb j + (Hs j).length + a0 + ((Os j).length - a0) = B by omega]
    exact pl
  have pl3 : PLs (bGd b U ow' kd') p m2 w2 U (nb j + (Hs j).length + a0) W Y := PLs_cg (PLs_forget pl2 (by omega)) (fun z hz => by
      by_cases c : z = 24
      · subst c
        rw [t24, wi_s1]
      · rw [wi_1 (pq_inj c)]
        exact u1 z (by simp at hz; omega) c (by simp at hz; omega)) (fun _ _ => by rw [uR]; rfl) (fun _ _ => by rw [uR]; rfl) (fun _ _ => by rw [uR]; rfl) (fun _ _ => by rw [uR]; rfl) (fun z hz => by
      by_cases c : z = 94
      · subst c
        rw [x94, wa_s1]
      · rw [wa_at (by omega), fr.2.2.1 z (by simp at hz ⊢; omega)]) (fun _ _ => by rw [fr.2.2.2 88 (by simp)]; rfl) (fun _ _ => by rw [fr.2.2.2 93 (by simp)]; rfl) (fun _ _ => by rw [fr.2.2.2 91 (by simp)]; rfl) (fun _ _ => by rw [fr.2.2.2 107 (by simp)]; rfl)
  have ru3 : RUs m2 w2 p j nb Hs (tkO Os j a0) none (a + 3) (n + 2) := ⟨⟨fa2, ct2⟩, ⟨t5, x98⟩, cr2, ⟨(congrArg Int32.toInt (u1 9 (by omega) (by omega) (by omega))).trans r5, (FR.A fr (by simp)).trans r6⟩, gd, ⟨(congrArg Int32.toInt (u2 1108 (by omega) (by omega))).trans r8, (congrArg Int32.toInt (u2 1109 (by omega) (by omega))).trans r9, (FR.F fr (by simp)).trans r10⟩, (FR.F fr (by simp)).trans r11, by rw [u2 1106 (by omega) (by omega), fr.1 165 (by simp)]; exact r12, by rw [u2 1107 (by omega) (by omega), fr.1 164 (by simp)]; exact r13⟩
  exact st_rv ih s (by omega) pl3 ru3 gm gw (fun s => SC_ow s (fun z hz => u1 z (by omega) (by omega) (by omega)) (by rw [uR]) (fun K h1 h2 => fr.2.2.1 K (by simp; omega)))
end
end
section
set_option maxRecDepth 100000
section
variable {T : TYc} {Fv Fv' : Int64 → Int64 → Prop} {P : Int64 → Prop} {AN : Nat} {TT : TY} {CC : CY} {pM pE : Nat → Nat} {ND CN PN SN UN FN N PR p i v mu M1 M2 f U B W Y l j a n : Nat} {m w : MS} {Q : MS → Int32 → MS → Int32 → Prop} {b : Int → Nat → Nat → Prop} {ow kw ow' kd' : Nat → Nat} {nb : Nat → Nat} {Hs Os : Nat → List Nat} {y : Option (Nat × Nat × Nat)}
theorem sk_pd (ih : ∀ M1 v m w, SIA T Fv P Fv' AN TT CC pM pE ND CN PN SN UN FN p v m w → PP Q (qgo (SAf T Fv P p) N M1 m p (I ((v : Nat) : Int))) (gg_M_go N M2 w (I ((p : Nat) : Int)))) (s : STx T Fv P Fv' AN TT CC pM pE ND CN PN SN UN FN N PR p i v f b U B W Y l ow kw ow' kd' j nb Hs Os y a n m w) (hP4 : ∀ k, k < W → so (m.2.2.2 (pq p 35) k) = 4 → 0 ≤ va (m.2.2.2 (pq p 35) k) ∧ va (m.2.2.2 (pq p 35) k) < ((PR : Nat) : Int)) (h23 : A w 23 n = 12) (h27 : 2000 ≤ A w 27 n) (pd : PDs (A w 27 n - 2000) (A m 23 a) (A m 23 (a + 1))) (cr : ∃ f, CRs (A m 23) (ROs w) (w.2.2.2 34) f y (a + 2) (n + 1) (Hs j) (Os j)) : PP Q (q67 (SAf T Fv P p) N (qgo (SAf T Fv P p) N M1) m p (I ((v : Nat) : Int))) (bnd (fm_M_one N w (I ((n : Nat) : Int)) (I 12)) (fun u _ => KRs Fv' AN TT CC ND CN UN FN N p mu M2 w u)) := by
  obtain ⟨⟨r5, r8, r2⟩, ⟨ha, hn, hv, hpp, hj⟩, nd, ⟨pl, ru, bd⟩, -⟩ := st_b s
  have hb : ∀ d : Nat, d < 30 → A w 27 n = ((2000 + d : Nat) : Int) → tB TT n + npre d ≤ tH TT n := fun d hd h => (sp_b s hd h23 h).1
  refine pd_go (K2 := fun u => KRs Fv' AN TT CC ND CN UN FN N p mu M2 w u) hpp (by omega) ru h27 pd (fun d hd hd2 _ _ d2 d3 d4 d8 d16 => ?_) (fun d d' hdd hd2 => ?_)
  · have hb := hb d hd hd2
    have cs : d = 0 ∨ d = 1 ∨ d = 5 ∨ d = 6 ∨ d = 7 ∨ d = 9 ∨ d = 10 ∨ d = 11 ∨ d = 12 ∨ d = 13 ∨ d = 14 ∨ d = 15 ∨ d = 17 ∨ d = 18 ∨ d = 19 ∨ d = 20 ∨ d = 21 ∨ d = 22 ∨ d = 23 ∨ d = 24 ∨ d = 25 ∨ d = 26 ∨ d = 27 ∨ d = 28 ∨ d = 29 := by omega
    rcases cs with rfl | rfl | rfl | rfl | rfl | rfl | rfl | rfl | rfl | rfl | rfl | rfl | rfl | rfl | rfl | rfl | rfl | rfl | rfl | rfl | rfl | rfl | rfl | rfl | rfl
    · exact pk_here ih s (Or.inl ⟨rfl, rfl⟩) cr
    · exact pk_spawn ih s hb cr
    · exact pk_unwatch ih s hb cr
    · exact pk_trap ih s hb cr
    · exact pk_tells ih s (Or.inl ⟨rfl, rfl, rfl, rfl⟩) hb cr
    · exact pk_tells ih s (Or.inr (Or.inl ⟨rfl, rfl, rfl, rfl⟩)) hb cr
    · exact pk_tells ih s (Or.inr (Or.inr ⟨rfl, rfl, rfl, rfl⟩)) hb cr
    · exact pk_print ih s hb cr
    · exact pk_ref ih s cr
    · exact pk_name2 ih s hP4 hb cr
    · exact pk_named (d := 13) ih s (Or.inl rfl) hb cr
    · exact pk_named (d := 14) ih s (Or.inr rfl) hb cr
    · exact pk_here ih s (Or.inr ⟨rfl, rfl⟩) cr
    · exact pk_tests ih s (Or.inl ⟨rfl, rfl⟩) hb cr
    · exact pk_tests ih s (Or.inr (Or.inl ⟨rfl, rfl⟩)) hb cr
    · exact pk_tests ih s (Or.inr (Or.inr (Or.inl ⟨rfl, rfl⟩))) hb cr
    · exact pk_tests ih s (Or.inr (Or.inr (Or.inr (Or.inl ⟨rfl, rfl⟩)))) hb cr
    · exact pk_tests ih s (Or.inr (Or.inr (Or.inr (Or.inr (Or.inl ⟨rfl, rfl⟩))))) hb cr
    · exact pk_tests ih s (Or.inr (Or.inr (Or.inr (Or.inr (Or.inr (Or.inl ⟨rfl, rfl⟩)))))) hb cr
    · exact pk_tests ih s (Or.inr (Or.inr (Or.inr (Or.inr (Or.inr (Or.inr (⟨rfl, rfl⟩))))))) hb cr
    · exact pk_parts ih s (Or.inl ⟨rfl, rfl⟩) hb cr
    · exact pk_parts ih s (Or.inr (Or.inl ⟨rfl, rfl⟩)) hb cr
    · exact pk_parts ih s (Or.inr (Or.inr (Or.inl ⟨rfl, rfl⟩))) hb cr
    · exact pk_elem ih s hb cr
    · exact pk_parts ih s (Or.inr (Or.inr (Or.inr (⟨rfl, rfl⟩)))) hb cr
  · rcases hdd with ⟨rfl, rfl⟩ | ⟨rfl, rfl⟩ | ⟨rfl, rfl⟩ | ⟨rfl, rfl⟩ | ⟨rfl, rfl⟩
    · exact pk_link ih s hP4 (hb 2 (by omega) hd2) cr
    · exact pk_unlink ih s hP4 (hb 3 (by omega) hd2) cr
    · exact pk_watch ih s hP4 (hb 4 (by omega) hd2) cr
    · exact pk_exit ih s hP4 (hb 8 (by omega) hd2) cr
    · exact pk_alive ih s hP4 (hb 16 (by omega) hd2) cr
end
end
section
set_option maxRecDepth 100000
section
variable {T : TYc} {Fv Fv' : Int64 → Int64 → Prop} {P : Int64 → Prop} {AN : Nat} {TT : TY} {CC : CY} {pM pE : Nat → Nat} {ND CN PN SN UN FN N PR p i v mu M1 M2 f U B W Y l j a n : Nat} {m w : MS} {Q : MS → Int32 → MS → Int32 → Prop} {b : Int → Nat → Nat → Prop} {ow kw ow' kd' : Nat → Nat} {nb : Nat → Nat} {Hs Os : Nat → List Nat} {y : Option (Nat × Nat × Nat)}
theorem WNa_18 (s : STx T Fv P Fv' AN TT CC pM pE ND CN PN SN UN FN N PR p i v f b U B W Y l ow kw ow' kd' j nb Hs Os y a n m w) (h23 : A w 23 n = 18) : tG TT n = 0 := by
  obtain ⟨-, -, -, -, ⟨-, n2, -⟩, -⟩ := st_b s
  exact (n2.2.2.2.2.2.2.1 h23).1
theorem KR_0 {Z : Option (MS × Int32)} {o : Option (MS × Unit)} : PP Q Z (bnd o (fun u _ => KRs Fv' AN TT CC ND CN UN FN N p mu 0 w u)) := by
  have e : ∀ u, KRs Fv' AN TT CC ND CN UN FN N p mu 0 w u = none := fun u => by
    unfold KRs
    have e2 : bnd (fm_M_allEnds N u) (fun u _ => gg_M_go N 0 u (I ((p : Nat) : Int))) = none := by
      cases fm_M_allEnds N u with
      | none => rfl
      | some y => rfl
    rw [e2]
    by_cases z : RSW Fv' AN TT CC ND CN UN FN p mu w u
    · exact rsc_t z
    · exact @if_neg _ (Classical.propDecidable _) z _ _ _
  cases o with
  | none => exact pp_nr
  | some y =>
    show PP Q Z (KRs Fv' AN TT CC ND CN UN FN N p mu 0 w y.1)
    rw [e]
    exact pp_nr
theorem ZR_b {C : Nat → Int} {R : Nat → Nat → Int} {J : Nat → Int64} {S : Option (Nat × Nat × Nat) → Nat → Nat → List Nat → List Nat → Prop} {kd sc g e : Nat} {c : Int} {H O : List Nat} (z : ZRs C R J S kd sc H O g e c) : e + 1 < 24000 := by
  cases g with
  | zero => exact z.elim
  | succ g => exact z.1
theorem sk_all (IH : ∀ K, K ≤ M2 → ∀ M1 v m w, SIA T Fv P Fv' AN TT CC pM pE ND CN PN SN UN FN p v m w → PP Q (qgo (SAf T Fv P p) N M1 m p (I ((v : Nat) : Int))) (gg_M_go N K w (I ((p : Nat) : Int)))) (s : STx T Fv P Fv' AN TT CC pM pE ND CN PN SN UN FN N PR p i v f b U B W Y l ow kw ow' kd' j nb Hs Os y a n m w) (hP4 : ∀ k, k < W → so (m.2.2.2 (pq p 35) k) = 4 → 0 ≤ va (m.2.2.2 (pq p 35) k) ∧ va (m.2.2.2 (pq p 35) k) < ((PR : Nat) : Int)) : PP Q (q67 (SAf T Fv P p) N (qgo (SAf T Fv P p) N M1) m p (I ((v : Nat) : Int))) (bnd (fm_M_one N w (I ((n : Nat) : Int)) (I (A w 23 n))) (fun u _ => KRs Fv' AN TT CC ND CN UN FN N p mu M2 w u)) := by
  have ih := IH M2 (Nat.le_refl _)
  obtain ⟨-, -, -, -, ⟨-, n2, -⟩, -, -, -, -, nND, -⟩ := st_b s
  have nd := s.2.1.1.1.1.1
  have n26 := n2.2.2.2.2.2.2.2.2.2.2.2.2.2.2.2
  have n28 := n2.2.2.2.2.2.2.2.2.2.2.2.2.1
  obtain ⟨f1, cr1⟩ := s.2.2.2.2.2.1.2.2.1
  cases f1 with
  | zero => exact cr1.elim
  | succ f0 =>
  obtain ⟨-, bds, lc⟩ := cr1
  rcases lc with lc | lc | lc | lc | lc | lc | lc | lc | lc | lc | lc | lc | lc | lc | lc | lc | lc | lc | lc | lc | lc | lc | lc | lc | lc | lc | lc | lc | lc | lc | lc
  · obtain ⟨h23, h1, c0, c1, c2, cr⟩ := lc
    rw [show A w 23 n = 1 from h23]
    exact sk_1 ih s c0 h1 c1 c2 ⟨f0, cr⟩
  · obtain ⟨h23, c0, l2, st, cr⟩ := lc
    rw [show A w 23 n = 2 from h23]
    exact sk_2 ih s h23 c0 st ⟨f0, cr⟩
  · obtain ⟨h23, c0, lk, cr⟩ := lc
    rw [show A w 23 n = 3 from h23]
    exact sk_3 ih s c0 lk ⟨f0, cr⟩
  · obtain ⟨h23, c0, c1, cr⟩ := lc
    rw [show A w 23 n = 4 from h23]
    exact sk_4 ih s h23 c0 c1 ⟨f0, cr⟩
  · obtain ⟨h23, h26, h25, c0, c1, cr⟩ := lc
    rw [show A w 23 n = 5 from h23]
    exact sk_5a ih s h23 h26 h25 c0 c1 ⟨f0, cr⟩
  · rcases lc with ⟨h23, h26, c0, d1, d2, ⟨h25, cr⟩ | ⟨h25, d3, d4, cr⟩⟩
    · rw [show A w 23 n = 5 from h23]
      exact sk_5n ih s h25 h26 c0 d1 d2 ⟨f0, cr⟩
    · rw [show A w 23 n = 5 from h23]
      exact sk_5b ih s h23 h26 h25 c0 d1 d2 d3 d4 ⟨f0, cr⟩
  · obtain ⟨h23, tw, cr⟩ := lc
    rw [show A w 23 n = 6 from h23]
    rcases tw with ⟨c0, hs⟩ | ⟨c0, hs⟩ | ⟨c0, ⟨hd, ht⟩ | ⟨hd, ht⟩⟩
    · exact sk_6c ih s h23 hs c0 rfl rfl ⟨f0, cr⟩
    · exact sk_6a ih s h23 hs c0 rfl rfl ⟨f0, cr⟩
    · exact sk_6j ih s h23 c0 ht hd ⟨f0, cr⟩
    · exact sk_6l ih s h23 c0 ht hd ⟨f0, cr⟩
  · obtain ⟨h23, c0, cr⟩ := lc
    rw [show A w 23 n = 7 from h23]
    exact sk_7 ih s h23 c0 ⟨f0, cr⟩
  · obtain ⟨h23, c0, cr⟩ := lc
    rw [show A w 23 n = 8 from h23]
    exact sk_8 ih s h23 c0 ⟨f0, cr⟩
  · rcases lc with ⟨⟨h23, c0⟩ | ⟨h23, c0⟩, ⟨t, b0, ht, hd, cr2⟩, cr⟩
    · rw [show A w 23 n = 9 from h23]
      exact sk_9 ih s h23 c0 ht hd ⟨f0, cr2⟩ ⟨f0, cr⟩
    · rw [show A w 23 n = 10 from h23]
      exact sk_10 ih s h23 c0 ht hd ⟨f0, cr2⟩ ⟨f0, cr⟩
  · obtain ⟨h23, c0, cr⟩ := lc
    rw [show A w 23 n = 11 from h23]
    exact sk_11 ih s hP4 h23 c0 ⟨f0, cr⟩
  · obtain ⟨h23, h27, pd, cr⟩ := lc
    rw [show A w 23 n = 12 from h23]
    exact sk_pd ih s hP4 h23 h27 pd ⟨f0, cr⟩
  · obtain ⟨h23, rfl, h27, c1, c2, c3, hh⟩ := lc
    rw [show A w 23 n = 12 from h23]
    have hh2 : (A w 30 n = 1 ∧ A m 23 a = 26 ∧ a + 3 < 24000) ∨ (A w 30 n = 0 ∧ A m 23 a = 25 ∧ ∃ f, CRs (A m 23) (ROs w) (w.2.2.2 34) f none (a + 4) (n + 1) (Hs j) (Os j)) := by
      rcases hh with hh | ⟨k1, k2, k3⟩
      · exact Or.inl hh
      · exact Or.inr ⟨k1, k2, f0, k3⟩
    exact sk_12 ih s h27 c1 c2 c3 hh2 h23
  · obtain ⟨h23, rfl, c1, c3, hh⟩ := lc
    rw [show A w 23 n = 13 from h23]
    have hh2 : (A w 30 n = 1 ∧ A m 23 a = 28 ∧ a + 2 < 24000) ∨ (A w 30 n = 0 ∧ A m 23 a = 27 ∧ ∃ f, CRs (A m 23) (ROs w) (w.2.2.2 34) f none (a + 3) (n + 1) (Hs j) (Os j)) := by
      rcases hh with hh | ⟨k1, k2, k3⟩
      · exact Or.inl hh
      · exact Or.inr ⟨k1, k2, f0, k3⟩
    exact sk_13 ih s h23 c1 c3 hh2
  · obtain ⟨h23, c0, c1, uu, l2, bb, h25, h54, c2, h55, lk, cr⟩ := lc
    rw [show A w 23 n = 14 from h23]
    exact sk_14 ih s h23 c0 c1 h25 h54 c2 h55 lk ⟨f0, cr⟩
  · obtain ⟨h23, c0, c1, cr⟩ := lc
    rw [show A w 23 n = 15 from h23]
    exact sk_15 ih s h23 c0 c1 ⟨f0, cr⟩
  · obtain ⟨h23, rfl, c0, q, e, O2, h25, ps, c8, cr⟩ := lc
    rw [show A w 23 n = 16 from h23]
    exact sk_16 ih s h23 c0 h25 ps c8 (by have := CR_b2 cr; omega) ⟨f0, cr⟩
  · obtain ⟨h23, c0, cr⟩ := lc
    rw [show A w 23 n = 17 from h23]
    exact sk_17 ih s h23 c0 ⟨f0, cr⟩
  · obtain ⟨h23, c0, k, hd, hk, ht, cr⟩ := lc
    rw [show A w 23 n = 18 from h23]
    have e : y = none := y_none s (WNa_18 s h23)
    subst e
    exact sk_18 ih s h23 c0 hd hk ht ⟨f0, cr⟩
  · obtain ⟨h23, h24, c0, c1, k, hd, hk, ht, cr⟩ := lc
    rw [show A w 23 n = 18 from h23]
    have e : y = none := y_none s (WNa_18 s h23)
    subst e
    cases M2 with
    | zero => exact KR_0
    | succ M2 => exact sk_1820 (IH M2 (by omega)) s h23 h24 c0 c1 hd hk ht ⟨f0, cr⟩
  · obtain ⟨h23, rfl, c0, ⟨t, b0, ht, hd, crc⟩, cr⟩ := lc
    rw [show A w 23 n = 19 from h23]
    exact sk_19 ih s c0 ht hd ⟨f0, crc⟩ ⟨f0, cr⟩
  · obtain ⟨h23, c0, cr⟩ := lc
    rw [show A w 23 n = 20 from h23]
    exact sk_20 ih s h23 c0 ⟨f0, cr⟩
  · obtain ⟨h23, rfl, h27, zr⟩ := lc
    rcases h23 with h23 | h23
    · rw [show A w 23 n = 21 from h23]
      rw [if_pos h23] at zr
      exact sk_21 ih s h27 ⟨f0, f0, zr⟩
    · have e : ROs w 23 n = 31 := h23
      rw [show A w 23 n = 31 from h23]
      rw [if_neg (by rw [e]; omega)] at zr
      exact sk_31 ih s h27 ⟨f0, f0, zr⟩
  · obtain ⟨h23, hy, c0, cr⟩ := lc
    rw [show A w 23 n = 22 from h23]
    cases y with
    | none => exact absurd rfl hy
    | some y =>
      obtain ⟨kd, k, sc⟩ := y
      exact sk_22 ih s h23 c0 ⟨f0, cr⟩
  · obtain ⟨h23, c0, kd, k, sc, rfl, cs⟩ := lc
    rw [show A w 23 n = 23 from h23]
    exact sk_23 ih s c0 ⟨f0, cs⟩
  · obtain ⟨h23, c0, t, b0, ht, hd, cr⟩ := lc
    rw [show A w 23 n = 26 from h23]
    refine sk_26 ih s c0 ht ?_ ⟨f0, cr⟩
    rcases hd with hd | ⟨hd, r, hr, hr2⟩
    · exact Or.inl hd
    · refine Or.inr ⟨hd, r, hr, ?_, hr2⟩
      rcases (n26 h23).2 with ⟨a5, y1, -⟩ | ⟨-, r5, y1, y2, -⟩
      · have e1 : A w 25 n = -2 := hd
        omega
      · have e1 : A w 26 n = ((r : Nat) : Int) := hr
        omega
  · obtain ⟨h23, b0, hd, cr⟩ := lc
    rw [show A w 23 n = 26 from h23]
    exact sk_26n ih s hd ⟨f0, cr⟩
  · obtain ⟨h23, rfl, h31, c0, c1, h27, rc⟩ := lc
    rw [show A w 23 n = 27 from h23]
    exact sk_27 ih s h23 h31 c0 c1 h27 ⟨f0, rc⟩
  · obtain ⟨h23, rfl, r, k, a2, h25, h27, hk, hh, c31, c1, r23, r31, r27, rc⟩ := lc
    rw [show A w 23 n = 28 from h23]
    have hr : r < 100000 := by
      obtain ⟨-, -, c5, -, -, -, a5, y1, y2, -⟩ := n28 h23
      have e1 : A w 25 n = ((r : Nat) : Int) := h25
      omega
    have ha2 : a2 + 1 < 24000 := by
      rcases hh with ⟨-, e⟩ | ⟨-, -, -, e⟩
      · omega
      · have := rc.2.1
        have z := ZR_b this
        omega
    cases M2 with
    | zero => exact KR_0
    | succ M2 => exact sk_28 (IH M2 (by omega)) (IH (M2 + 1) (by omega)) s h23 h25 hr h27 hk hh c31 c1 ha2 r23 r31 r27 ⟨f0, rc⟩
  · obtain ⟨h23, rfl, c0⟩ := lc
    rw [show A w 23 n = 29 from h23]
    exact sk_29 ih s h23 c0
  · obtain ⟨h23, cr⟩ := lc
    rw [show A w 23 n = 30 from h23]
    exact sk_30 ih s ⟨f0, cr⟩
end
end
section
set_option maxRecDepth 100000
def RQg (Fv : Int64 → Int64 → Prop) (P : Int64 → Prop) (Fv' : Int64 → Int64 → Prop) (AN p : Nat) (m2 : MS) (r : Int32) (w2 : MS) (r2 : Int32) : Prop := r = r2 ∧ ∃ PR, p < PR ∧ FQs WTr PR Fv P Fv' (PWs AN) m2 w2 ∧ TBs m2 w2
section
variable {T : TYc} {Fv Fv' : Int64 → Int64 → Prop} {P : Int64 → Prop} {AN : Nat} {TT : TY} {CC : CY} {pM pE : Nat → Nat} {ND CN PN SN UN FN N PR p i v mu M1 M2 f U B W Y l j a n : Nat} {m w : MS}
theorem goA (hN : 11000000 ≤ N) : ∀ M2 M1 v m w, SIA T Fv P Fv' AN TT CC pM pE ND CN PN SN UN FN p v m w → PP (RQg Fv P Fv' AN p) (qgo (SAf T Fv P p) N M1 m p (I ((v : Nat) : Int))) (gg_M_go N M2 w (I ((p : Nat) : Int))) := by
  intro M2
  induction M2 using Nat.strongRecOn with
  | ind M2 IH =>
  intro M1 v m w s
  cases M2 with
  | zero => exact pp_nr
  | succ M2 =>
  cases M1 with
  | zero => exact pp_nl
  | succ M1 =>
  show PP _ (q67 (SAf T Fv P p) N (qgo (SAf T Fv P p) N M1) m p (I ((v : Nat) : Int))) _
  by_cases h : F m (pq p 9) = 0 ∧ F m 1108 = 0
  · obtain ⟨PR, i, f, b, U, B, W, Y, l, ow, kw, ow', kd', j, nb, Hs, Os, y, a, n, mu, st, pk, hP4⟩ := st_of hN s h.1 h.2
    exact st_go st pk (sk_all (fun K hK => IH K (by omega)) st hP4)
  · obtain ⟨PR, f, mu, hpr, ⟨hf, l⟩, ⟨al, wd, per⟩, fq, tb⟩ := s
    have p24 : PR ≤ 24 := by
      obtain ⟨i, W, -⟩ := id fq
      exact W.1.1.1.1.1.2
    have le : ENDc T Fv P PR p m ∨ SVc T Fv P PR p m := by
      rcases l with ⟨⟨i, h1, mm, L, g, x, j, wb, nb, cb, rk, M, -⟩, -, t8⟩ | l | l
      · exact absurd ⟨M.2.1, t8⟩ h
      · exact Or.inl l
      · exact Or.inr l
    refine exit_pp (by omega) hpr fq (by omega) (fun h3 => ?_) (fun m2 r e => ?_) (fun m2 fq2 e2 => ⟨tb.2.2.2.1, PR, hpr, fq2, ?_⟩)
    · rcases le with l | l
      · exact l.2.2.2
      · exact absurd h3 l.2.1.1
    · have := pk_ok (exit_okc (N := N) le) m2 r e
      exact ⟨this.1, this.2.1⟩
    · rcases e2 with rfl | ⟨k, z, rfl⟩
      · exact tb
      · exact TB_gg tb GGm_s30 GGw.rf
end
end
section
set_option maxRecDepth 100000
def gwR (w : MS) (p b : Nat) : MS := wi (wi (wi (wi (wi (wi w 3 0) 133 ((p : Nat) : Int)) 164 ((b : Nat) : Int)) 165 0) 151 0) 152 0
def gwA (w : MS) (p b : Nat) : MS := wa (gwR w p b) 115 p 0
def gwN (w : MS) (p b : Nat) : MS := wa (gwA w p b) 109 p 0
section
variable {α : Type} {Fv : Int64 → Int64 → Prop} {AN : Nat} {T : TY} {C : CY} {pM pE : Nat → Nat} {ND CN PN SN UN FN N PR p mu M2 b : Nat} {w u : MS} {Q : MS → α → MS → Int32 → Prop} {D : Option (MS × α)} {G : MS → Int32 → Option (MS × Int32)}
theorem go_3 (hp : p < 24) (h3 : A u 109 p = 3) : fb_M_go_199 N G u (I ((p : Nat) : Int)) = fb_M_go_243 N G u := by
  unfold fb_M_go_199
  rw [(I_inb (by omega) (by omega)).mpr ⟨by omega, by show ((p : Nat) : Int) < ((24 : Nat) : Int); omega⟩, ck_t, tnI (n := p) rfl (by omega), I_A' h3, show decide (I 3 = 0) = false from rfl, br_fq]
  cases decide (u.1 151 = 0) <;> rfl
theorem go_kr {Z : Option (MS × Unit)} (hX : PK (fun u (_ : Unit) => RSW Fv AN T C ND CN UN FN p mu w u ∧ ((F u 149 = 0 ∧ F u 150 = 0) ∨ A u 109 p = 3)) Z) (per : PER Fv AN T C pM pE ND CN PN SN UN FN w) (hN : 11000000 ≤ N) (hp : p < 24) (h : PP Q D (bnd Z (fun u _ => KRs Fv AN T C ND CN UN FN N p mu (M2 + 1) w u))) : PP Q D (bnd Z (fun u _ => gg_M_go N (M2 + 1) u (I ((p : Nat) : Int)))) := by
  intro m z w2 r e1 e2
  cases Z with
  | none => cases e2
  | some y =>
  obtain ⟨u, y⟩ := y
  obtain ⟨rs, c⟩ := hX u y rfl
  have e3 : gg_M_go N (M2 + 1) u (I ((p : Nat) : Int)) = some (w2, r) := e2
  refine h m z w2 r e1 ?_
  show KRs Fv AN T C ND CN UN FN N p mu (M2 + 1) w u = some (w2, r)
  unfold KRs
  rw [rsc_t rs]
  rcases c with ⟨c1, c2⟩ | c
  · rw [ends_id c1 c2, bnd_so]
    exact e3
  · have e4 : fb_M_go_243 N (gg_M_go N M2) u = some (w2, r) := (go_3 hp c).symm.trans e3
    unfold fb_M_go_243 at e4
    obtain ⟨PR', hp', al, wd, gf⟩ := rs
    have per3 : PER Fv AN T C pM pE ND CN PN SN UN FN u := PER_fr per gf (by decide) (by decide)
    have al2 : ALT Fv (PQ AN PR') PR' T C ND CN p mu u := al
    have ae := pk_ok (ae_step (N := N) per3 al2 wd hN)
    cases hE : fm_M_allEnds N u with
    | none =>
      rw [hE] at e4
      cases e4
    | some y2 =>
      obtain ⟨u1, y3⟩ := y2
      rw [hE] at e4
      obtain ⟨-, -, a1, a2, -, a3, -⟩ := ae u1 y3 hE
      have c3 : A u1 109 p = 3 := by omega
      have e5 : some (u1, u1.1 165) = some (w2, r) := e4
      show gg_M_go N (M2 + 1) u1 (I ((p : Nat) : Int)) = some (w2, r)
      show fb_M_go_199 N (gg_M_go N M2) u1 (I ((p : Nat) : Int)) = some (w2, r)
      rw [go_3 hp c3]
      unfold fb_M_go_243
      rw [ends_id a1 a2, bnd_so]
      exact e5
theorem gwR_v (hp : p < 24) (hb : b ≤ 500) : FR [3, 133, 151, 152, 164, 165] [] [] [] w (gwR w p b) ∧ F (gwR w p b) 133 = ((p : Nat) : Int) ∧ F (gwR w p b) 164 = ((b : Nat) : Int) ∧ F (gwR w p b) 165 = 0 ∧ F (gwR w p b) 151 = 0 ∧ F (gwR w p b) 152 = 0 := by
  unfold gwR
  refine ⟨FR.wi (FR.wi (FR.wi (FR.wi (FR.wi (FR.wi FR.rf (by decide)) (by decide)) (by decide)) (by decide)) (by decide)) (by decide), ?_, ?_, ?_, ?_, ?_⟩
  · rw [wi_ne (by omega), wi_ne (by omega), wi_ne (by omega), wi_ne (by omega), wi_sm (by omega) (by omega)]
  · rw [wi_ne (by omega), wi_ne (by omega), wi_ne (by omega), wi_sm (by omega) (by omega)]
  · rw [wi_ne (by omega), wi_ne (by omega), wi_sm (by omega) (by omega)]
  · rw [wi_ne (by omega), wi_sm (by omega) (by omega)]
  · rw [wi_sm (by omega) (by omega)]
theorem go_wst (hp : p < PR) (hb : b ≤ 500) (rest : REST Fv AN T ND UN FN PR w) (r : PER Fv AN T C pM pE ND CN PN SN UN FN w) (h3 : A w 109 p ≠ 3) (hN : 700000000000000 < N)
    (k0 : A w 109 p = 0 → (∃ mm, mm ≤ 600000000000000 ∧ ALT Fv (PQ AN PR) PR T C ND CN p mm (gwA w p b)) → WLD (gwA w p b) T ND UN FN PR p → PER Fv AN T C pM pE ND CN PN SN UN FN (gwA w p b) → PP Q D (gg_M_go N N (gwA w p b) (I ((p : Nat) : Int))))
    (k1 : A w 109 p = 1 → ∀ q j : Nat, A w 95 p = ((j + 1 : Nat) : Int) → A w 98 (60 * p + j) = ((q : Nat) : Int) → q < ND → PER Fv AN T C pM pE ND CN PN SN UN FN (gwN w p b) → PK (fun u (_ : Unit) => RSW Fv AN T C ND CN UN FN p 600000000000000 (gwN w p b) u ∧ ((F u 149 = 0 ∧ F u 150 = 0) ∨ A u 109 p = 3)) (fm_M_goOnWith N (gwN w p b) (I ((q : Nat) : Int))) → PP Q D (bnd (fm_M_goOnWith N (gwN w p b) (I ((q : Nat) : Int))) (fun u _ => gg_M_go N N u (I ((p : Nat) : Int)))))
    (k5 : A w 109 p = 5 → ∀ c : Nat, ((0 ≤ A w 96 (60 * p) ∧ A w 50 (A w 96 (60 * p)).toNat = ((c : Nat) : Int)) ∨ (A w 96 (60 * p) = -1 ∧ ∃ u : Nat, A w 170 p = ((u : Nat) : Int) ∧ A w 53 u = ((c : Nat) : Int))) → PER Fv AN T C pM pE ND CN PN SN UN FN (gwN w p b) → PK (fun u (_ : Unit) => RSW Fv AN T C ND CN UN FN p 600000000000000 (gwN w p b) u ∧ ((F u 149 = 0 ∧ F u 150 = 0) ∨ A u 109 p = 3)) (fm_M_clausesOf N (gwN w p b) (I ((c : Nat) : Int))) → PP Q D (bnd (fm_M_clausesOf N (gwN w p b) (I ((c : Nat) : Int))) (fun u _ => gg_M_go N N u (I ((p : Nat) : Int))))) :
    PP Q D (fb_M_go_61 N (gg_M_go N N) w (I ((p : Nat) : Int)) (I ((b : Nat) : Int)) 0) := by
  obtain ⟨d, hw, h149, h150⟩ := rest
  have pr := d.1.2
  have hT := PRG_26 r.1
  have nd := r.1.1.1
  have un := r.1.1.2.2.2.1
  have fn := r.1.1.2.2.2.2.1
  have cn := r.1.1.2.1
  obtain ⟨f1, e133, e164, e165, e151, e152⟩ := gwR_v (w := w) (p := p) (b := b) (by omega) hb
  have f12 : FR [] [] [115] [] (gwR w p b) (gwA w p b) := FR.wa FR.rf (by decide)
  have f9 : FR [] [] [109] [] (gwA w p b) (gwN w p b) := FR.wa FR.rf (by decide)
  have a9 : ∀ y, A (gwN w p b) 109 y = if y = p then 0 else A (gwA w p b) 109 y := fun y => by
    unfold gwN
    exact A_eq (by omega) (by omega)
  have un0 : fb_M_go_61 N (gg_M_go N N) w (I ((p : Nat) : Int)) (I ((b : Nat) : Int)) 0 = ck (inb (I ((p : Nat) : Int)) (ln 115)) (lt (gwA w p b) (fun w12 => ck (inb (I ((p : Nat) : Int)) (ln 109)) (br (decide ((w12.2.2.1 109 (I ((p : Nat) : Int)).toNatClampNeg) = 5)) (ck (inb (I ((p : Nat) : Int)) (ln 109)) (lt (upA w12 109 (upd (w12.2.2.1 109) (I ((p : Nat) : Int)).toNatClampNeg 0)) (fun w16 => bnd (fm_M_frame0 N w16) (fun u17 r17 => ck (inb r17 (ln 96)) (br (decide ((u17.2.2.1 96 r17.toNatClampNeg) = (-1))) (ck (inb (I ((p : Nat) : Int)) (ln 170)) (ck (inb (u17.2.2.1 170 (I ((p : Nat) : Int)).toNatClampNeg) (ln 53)) (fb_M_go_163 N (gg_M_go N N) u17 (I ((p : Nat) : Int)) ((u17.2.2.1 53 (u17.2.2.1 170 (I ((p : Nat) : Int)).toNatClampNeg).toNatClampNeg))))) (ck (inb r17 (ln 96)) (ck (inb (u17.2.2.1 96 r17.toNatClampNeg) (ln 50)) (fb_M_go_163 N (gg_M_go N N) u17 (I ((p : Nat) : Int)) ((u17.2.2.1 50 (u17.2.2.1 96 r17.toNatClampNeg).toNatClampNeg)))))))))) (ck (inb (I ((p : Nat) : Int)) (ln 109)) (br (decide ((w12.2.2.1 109 (I ((p : Nat) : Int)).toNatClampNeg) = 1)) (ck (inb (I ((p : Nat) : Int)) (ln 109)) (lt (upA w12 109 (upd (w12.2.2.1 109) (I ((p : Nat) : Int)).toNatClampNeg 0)) (fun w13 => bnd (fm_M_frame0 N w13) (fun u14 r14 => ck (inb r14 (ln 98)) (bnd (fm_M_goOnWith N u14 (u14.2.2.1 98 r14.toNatClampNeg)) (fun u15 _ => gg_M_go N N u15 (I ((p : Nat) : Int)))))))) (gg_M_go N N w12 (I ((p : Nat) : Int)))))))) := by
    unfold fb_M_go_61
    rw [lt_e, show upI w 3 0 = wi w 3 0 from rfl, show decide ((wi w 3 0).1 3 = 0) = true from rfl, br_tq, lt_e, lt_e, lt_e, lt_e, lt_e, wi_e (k := 133), wi_e (k := 164), show ∀ s : MS, upI s 165 0 = wi s 165 0 from fun _ => rfl, show ∀ s : MS, upI s 151 0 = wi s 151 0 from fun _ => rfl, show ∀ s : MS, upI s 152 0 = wi s 152 0 from fun _ => rfl]
    rw [show wi (wi (wi (wi (wi (wi w 3 0) 133 ((p : Nat) : Int)) 164 ((b : Nat) : Int)) 165 0) 151 0) 152 0 = gwR w p b from rfl, show upA (gwR w p b) 115 (upd ((gwR w p b).2.2.1 115) (I ((p : Nat) : Int)).toNatClampNeg 0) = gwA w p b from by
      rw [tnI (n := p) rfl (by omega), show (0 : Int32) = I 0 from rfl, wa_e]
      rfl]
  rw [un0]
  clear un0
  have f2 : FR [3, 133, 151, 152, 164, 165] [] [115] [] w (gwA w p b) := FR.tr (FR.mo f1 (by decide) (by decide) (by decide) (by decide)) (FR.mo f12 (by decide) (by decide) (by decide) (by decide))
  have c133 : F (gwA w p b) 133 = ((p : Nat) : Int) := by rw [FR.F f12 (by decide)]; exact e133
  have c164 : F (gwA w p b) 164 = ((b : Nat) : Int) := by rw [FR.F f12 (by decide)]; exact e164
  have c165 : F (gwA w p b) 165 = 0 := by rw [FR.F f12 (by decide)]; exact e165
  have c151 : F (gwA w p b) 151 = 0 := by rw [FR.F f12 (by decide)]; exact e151
  have c152 : F (gwA w p b) 152 = 0 := by rw [FR.F f12 (by decide)]; exact e152
  clear e133 e164 e165 e151 e152 f1 f12
  have up9 : upA (gwA w p b) 109 (upd ((gwA w p b).2.2.1 109) (I ((p : Nat) : Int)).toNatClampNeg 0) = gwN w p b := by
    rw [tnI (n := p) rfl (by omega), show (0 : Int32) = I 0 from rfl, wa_e]
    rfl
  generalize gwN w p b = w9 at *
  generalize gwA w p b = w2 at *
  have d2 : DW Fv (PQ AN PR) PR w2 := DW_fr d f2 (by decide) (by decide) (by decide) (by decide) (by decide) (by decide) (by decide) (by decide) (by decide) (by decide) (by decide) (by decide) (by decide) (by decide) (by decide) (by decide) (by decide)
  have r2 : PER Fv AN T C pM pE ND CN PN SN UN FN w2 := PER_fr r f2 (by decide) (by decide)
  have wl24 : WLD w2 T ND UN FN PR 24 := WLD_fr hw hT (OTF_fr f2 (by decide)) f2 (by decide) (by decide) (fun z _ => Or.inl (FR.A f2 (by decide)))
  have wl2 : WLD w2 T ND UN FN PR p := WLD_p wl24 pr
  have ps := wl24.2.2.2.2.2.2 p hp (by omega)
  have g149 : F w2 149 = 0 := by rw [FR.F f2 (by decide)]; exact h149
  have g150 : F w2 150 = 0 := by rw [FR.F f2 (by decide)]; exact h150
  have n3 : A w2 109 p ≠ 3 := by rw [FR.A f2 (by decide)]; exact h3
  have s9 : A w2 109 p = A w 109 p := FR.A f2 (by decide)
  have r109 := A_r w2 109 p
  have d9 : DW Fv (PQ AN PR) PR w9 := DW_109 d2 f9 (fun z hz => by rw [a9, if_neg hz]) n3 (Or.inl (by rw [a9, if_pos rfl]))
  have p9 : A w9 109 p = 0 := by rw [a9, if_pos rfl]
  have o9 : OTF p w2 w9 := OTF_fr f9 (by decide)
  have wl9 : WLD w9 T ND UN FN PR p := WLD_fr wl2 hT o9 f9 (by decide) (by decide) (fun z hz => Or.inl (by rw [a9, if_neg hz]))
  have in9 : inb (I ((p : Nat) : Int)) (ln 109) = true := (I_inb (by omega) (by omega)).mpr ⟨by omega, by show ((p : Nat) : Int) < ((24 : Nat) : Int); omega⟩
  refine r_ck (fun _ => r_lt ?_)
  have tnp : (I ((p : Nat) : Int)).toNatClampNeg = p := tnI (n := p) rfl (by omega)
  rw [in9, ck_t, ck_t, tnp, I_A (k := 109), show (5 : Int32) = I 5 from rfl, decE r109.1 r109.2 (by omega) (by omega), show (1 : Int32) = I 1 from rfl, decE r109.1 r109.2 (by omega) (by omega), ck_t, ck_t, lt_e, lt_e]
  rw [tnp] at up9
  rw [up9]
  have r9 : PER Fv AN T C pM pE ND CN PN SN UN FN w9 := PER_fr r2 f9 (by decide) (by decide)
  have pgm9 := PER_pgm r9 pr
  have k133 : F w9 133 = p := by rw [FR.F f9 (by decide)]; exact c133
  have k152 : F w9 152 = 0 := by rw [FR.F f9 (by decide)]; exact c152
  have kE : F w9 149 = F w9 150 ∧ F w9 151 = 0 := by rw [FR.F f9 (by decide), FR.F f9 (by decide), FR.F f9 (by decide), g149, g150]; exact ⟨rfl, c151⟩
  have k149 : F w9 149 = 0 := by rw [FR.F f9 (by decide)]; exact g149
  have k150 : F w9 150 = 0 := by rw [FR.F f9 (by decide)]; exact g150
  have k165 : F w9 165 = 0 := by rw [FR.F f9 (by decide)]; exact c165
  have k164 : F w9 164 = ((b : Nat) : Int) := by rw [FR.F f9 (by decide)]; exact c164
  have res : ∀ {Z : Option (MS × Unit)}, OK (fun x (_ : Unit) => RES Fv (PQ AN PR) PR T C ND CN p 600000000000000 w9 x) Z → PK (fun u (_ : Unit) => RSW Fv AN T C ND CN UN FN p 600000000000000 w9 u ∧ ((F u 149 = 0 ∧ F u 150 = 0) ∨ A u 109 p = 3)) Z := fun ok => pk_mo (pk_ok ok) (fun x _ hx => ⟨RES_rsw hx wl9 hT hp, by
    rcases hx.2.1 with c | c
    · exact Or.inl ⟨by rw [FR.F c (by decide)]; exact k149, by rw [FR.F c (by decide)]; exact k150⟩
    · exact Or.inr c.2⟩)
  refine r_br (fun z5 => ?_) (fun z5 => r_br (fun z1 => ?_) (fun z1 => ?_))
  · have e5 := of_decide_eq_true z5
    obtain ⟨-, q2, q3, q4, q5, q6, hh, q7, q8, q9, q10⟩ : FRH w2 UN FN p := by
      rcases ps with ps | ⟨fr, ro, rn, rh, cb, pc, ct, q, -, -, -, -, -, -, -, -, h9⟩ | ps
      · omega
      · rcases h9 with h9 | ⟨h9, -⟩ <;> omega
      · exact ps
    obtain ⟨n, ow, kd, bx, ix⟩ := MEX_of (opM := 0) (bnM := hh) d9 hp k133 (by rw [FR.A f9 (by decide)]; exact q3) (by rw [FR.A f9 (by decide)]; exact q8)
    have i9 := MEX_i ix (by omega)
    have F9 : FRS w9 T ND p 1 (fun _ => 0) (fun _ => 0) (fun _ => hh) (fun _ => 0) (fun _ => 0) (fun _ => 0) 0 0 := ⟨⟨by omega, by omega, by rw [FR.A f9 (by decide)]; exact q2⟩, ⟨rfl, rfl, rfl⟩, fun i hi => by
      have i0 : i = 0 := by omega
      subst i0
      rw [FR.A f9 (by decide), FR.A f9 (by decide), FR.A f9 (by decide)]
      exact ⟨q6, q5, q9, q7, Nat.zero_le _, Nat.zero_le _, Nat.zero_le _⟩, fun i hi => by omega, fun j hj => absurd hj (Nat.not_lt_zero j)⟩
    rw [frame0_x (fr := 1) k133 (by omega) (by rw [FR.A f9 (by decide)]; exact q2) (by omega), bnd_so, show (60 * p + (1 - 1) : Nat) = 60 * p from by omega]
    have in96 : inb (I ((60 * p : Nat) : Int)) (ln 96) = true := (I_inb (by omega) (by omega)).mpr ⟨by omega, by show ((60 * p : Nat) : Int) < ((1440 : Nat) : Int); omega⟩
    have t96 : (I ((60 * p : Nat) : Int)).toNatClampNeg = 60 * p := by rw [I_tn (by omega) (by omega), Int.toNat_natCast]
    rw [in96, ck_t, ck_t, t96]
    have run : ∀ (c rr : Nat), CLS C w9 CN 0 0 0 0 hh 0 0 rr ((c : Nat) : Int) → ((0 ≤ A w 96 (60 * p) ∧ A w 50 (A w 96 (60 * p)).toNat = ((c : Nat) : Int)) ∨ (A w 96 (60 * p) = -1 ∧ ∃ u : Nat, A w 170 p = ((u : Nat) : Int) ∧ A w 53 u = ((c : Nat) : Int))) → PP Q D (fb_M_go_163 N (gg_M_go N N) w9 (I ((p : Nat) : Int)) (I ((c : Nat) : Int))) := fun c rr hc hw => by
      have rr' : rr < 16000 := by
        obtain ⟨c', d1, d2, d3, d4, d5, d6, d7, d8, d9', d10⟩ := hc
        have := (r9.1.2.2.2.1 c' d2).2.1
        omega
      unfold fb_M_go_163
      refine k5 (by omega) c hw r9 (res ?_)
      exact clausesOf_ok (N := N) (mu := 600000000000000) (b := 0) (c := c) (r := rr) (bn := 0) (h2 := 0) (fr := 1) (ro := fun _ => 0) (rn := fun _ => 0) (rh := fun _ => hh) (cb := fun _ => 0) (pc := fun _ => 0) (ct := fun _ => 0) pgm9 F9 (by rw [FR.A f9 (by decide)]; exact q4) p9 k152 (by rw [Nat.zero_add]; show MEI Fv (PQ AN PR) PR w9 p n ow kd 0 (0 + hh) bx; rw [Nat.zero_add]; exact i9) (by omega) hc (CLG_new (b := b) (e := 16002) k165 k164 hb (by show 0 + rr ≤ _; omega) (by omega)) kE (by omega)
    have u2 : ∀ K i, K ≠ 115 → A w2 K i = A w K i := fun K i h => FR.A f2 (by simp; omega)
    rcases q10 with ⟨y1, xx, y2, y3, y4, c, y5, y6⟩ | ⟨y1, ff, y2, y3, y4⟩
    · obtain ⟨aa, hd, rr, v1, v2, v3, v4, v5, c3⟩ := r9.1.2.2.2.2.2 xx y2
      have c3' := c3
      obtain ⟨c', d1, d2', d3, -⟩ := c3'
      have e53 : A w9 53 xx = ((c : Nat) : Int) := by rw [FR.A f9 (by decide)]; exact y5
      obtain rfl : c' = c := by omega
      have e41 : A w9 41 c' = 0 := by rw [FR.A f9 (by decide)]; exact y6
      have e54 : A w9 54 xx = ((hh : Nat) : Int) := by rw [FR.A f9 (by decide)]; exact y4
      obtain rfl : aa = 0 := by omega
      obtain rfl : hd = hh := by omega
      rw [I_A' (show A w9 96 (60 * p) = -1 by rw [FR.A f9 (by decide)]; exact y1)]
      refine r_br (fun _ => ?_) (fun z => absurd rfl (of_decide_eq_false z))
      refine r_ck (fun _ => ?_)
      rw [I_A' (show A w9 170 p = ((xx : Nat) : Int) by rw [FR.A f9 (by decide)]; exact y3)]
      refine r_ck (fun _ => ?_)
      rw [I_tn (x := (xx : Int)) (by omega) (by omega), Int.toNat_natCast, I_A' e53]
      exact run c' rr (by rw [← e53]; exact c3) (Or.inr ⟨by rw [← u2 96 _ (by omega)]; exact y1, xx, by rw [← u2 170 _ (by omega)]; exact y3, by rw [← u2 53 _ (by omega)]; exact y5⟩)
    · obtain ⟨aa, rr, v1, v2, c3⟩ := r9.1.2.2.2.2.1 ff y2
      have c3' := c3
      obtain ⟨c', d1, d2', d3, -⟩ := c3'
      have e48 : A w9 48 ff = 0 := by rw [FR.A f9 (by decide)]; exact y4
      obtain rfl : aa = 0 := by omega
      subst y1
      rw [I_A' (show A w9 96 (60 * p) = ((ff : Nat) : Int) by rw [FR.A f9 (by decide)]; exact y3), show (-(I 1) : Int32) = I (-1) from rfl, decE (by omega) (by omega) (by omega) (by omega), decide_eq_false (by omega), br_fq]
      refine r_ck (fun _ => ?_)
      rw [I_tn (x := (ff : Int)) (by omega) (by omega), Int.toNat_natCast, I_A' d1]
      have y3' : A w 96 (60 * p) = ((ff : Nat) : Int) := by rw [← u2 96 _ (by omega)]; exact y3
      exact run c' rr (by rw [← d1]; exact c3) (Or.inl ⟨by rw [y3']; omega, by rw [y3', Int.toNat_natCast, ← u2 50 _ (by omega), ← FR.A f9 (by decide)]; exact d1⟩)
  · have e1 := of_decide_eq_true z1
    have fz : FRZ w2 T ND p := by
      rcases ps with ps | ps | ⟨ps, -⟩
      · omega
      · exact ps
      · omega
    obtain ⟨fr, ro, rn, rh, cb, pc, ct, q, n, ow, kd, bx, aq, hG, hs⟩ := FRZ_atq fz d2 hp c133 n3
    obtain ⟨s1, s2, s3, s4⟩ : A w2 109 p = 1 ∧ A w2 23 q = 27 ∧ (A w2 31 q = -1 → w2.2.2.2 111 p = -1) ∧ 0 ≤ A w2 110 p := by
      rcases hs with hs | hs
      · omega
      · exact hs
    obtain ⟨i, hF, a98, a4, a5, a6⟩ := aq
    have hf := hF.1
    obtain ⟨n', ow', kd', bx', ix⟩ := MEX_of (opM := ro (fr - 1) + tH T q) (bnM := rn (fr - 1) + rh (fr - 1) + tM T q) d9 hp k133 (by rw [FR.A f9 (by decide)]; exact i.2.2.2.2.2.2.2.2.2.1.1) (by rw [FR.A f9 (by decide)]; exact i.2.2.2.2.2.2.2.2.2.2.1.1)
    have aq9 : ATQ Fv (PQ AN PR) PR T ND p w9 fr ro rn rh cb pc ct q n' ow' kd' bx' := ⟨MEX_i ix (by omega), FRS_fr hF f9 (by decide) (by decide) (by decide) (by decide) (by decide) (by decide) (by decide) (by decide) (by decide) (by decide), by rw [FR.A f9 (by decide)]; exact a98, a4, a5, by rw [FR.A f9 (by decide)]; exact a6⟩
    have sRb : sR T pc (fr - 1) ≤ 16000 * (fr - 1) := sR_le (fr - 1) (fun j hj => (r2.1.2.2.1 _ (hF.2.2.2.1 j (by omega)).2.1).1.2.2.2.2.2.1.2)
    have tRb := (r2.1.2.2.1 q a4).1.2.2.2.2.2.1.2
    rw [frame0_x (fr := fr) k133 (by omega) (by rw [FR.A f9 (by decide)]; exact hf.2.2) ⟨hf.1, hf.2.1⟩, bnd_so]
    refine r_ck (fun _ => ?_)
    rw [I_tn (x := ((60 * p + (fr - 1) : Nat) : Int)) (by omega) (by omega), Int.toNat_natCast, I_A' aq9.2.2.1]
    refine k1 (by omega) q (fr - 1) ?_ ?_ a4 r9 (res ?_)
    · rw [show fr - 1 + 1 = fr by omega, ← FR.A f2 (by decide)]
      exact hf.2.2
    · rw [← FR.A f2 (by decide)]
      exact a98
    · exact goOnWith_ok (N := N) (mu := 600000000000000) (C := C) (CN := CN) aq9 p9 k152 (CLG_new (b := b) (e := 0) k165 k164 hb (by omega) (by omega)) pgm9 hG (by rw [FR.A f9 (by decide)]; exact s2) (fun z => by rw [FR.A f9 (by decide)] at z; rw [f9.2.2.2 111 (by decide)]; exact s3 z) (by rw [FR.A f9 (by decide)]; exact s4) kE (by omega)
  · have e5 := of_decide_eq_false z5
    have e1 := of_decide_eq_false z1
    have fz : FRZ w2 T ND p := by
      rcases ps with ps | ps | ⟨ps, -⟩
      · omega
      · exact ps
      · omega
    obtain ⟨fr, ro, rn, rh, cb, pc, ct, q, n, ow, kd, bx, aq, hG, hs⟩ := FRZ_atq fz d2 hp c133 n3
    have s1 : A w2 109 p = 0 := by
      rcases hs with hs | ⟨hs, -⟩
      · exact hs
      · omega
    have hF := aq.2.1
    have hf := hF.1
    have a4 := aq.2.2.2.1
    have sRb : sR T pc (fr - 1) ≤ 16000 * (fr - 1) := sR_le (fr - 1) (fun j hj => (r2.1.2.2.1 _ (hF.2.2.2.1 j (by omega)).2.1).1.2.2.2.2.2.1.2)
    have tRb := (r2.1.2.2.1 q a4).1.2.2.2.2.2.1.2
    refine k0 (by omega) ⟨600000000000000, Nat.le_refl _, Or.inr (Or.inr (Or.inr ⟨599999999999999, by omega, fr, ro, rn, rh, cb, pc, ct, q, n, ow, kd, bx, aq, s1, Or.inl ⟨hG, c152, ?_⟩⟩))⟩ wl2 r2
    refine ⟨by omega, by omega, by omega, ?_⟩
    rw [c164, c165]
    omega
end
end
section
set_option maxRecDepth 100000
def gmR (m : MS) (a : Nat) (y : Int) : MS := wi (wi (wi (wi (wi (wi m 1105 ((a : Nat) : Int)) 1106 0) 1107 y) 1108 0) 1109 0) 1112 0
def TBz (m w : MS) : Prop := (FTs m w ∧ FAr m w ∧ FUs m w) ∧ PNx m w ∧ (CLk m w ∧ m.1 945 = w.1 121 ∧ m.1 946 = w.1 119) ∧ ∃ fa na, ATf m w fa na
theorem TBz_of {m w : MS} (h : TBs m w) : TBz m w := ⟨h.1, h.2.1, h.2.2.1, h.2.2.2.2⟩
def gsM (m : MS) (p a : Nat) (y : Int) : MS := wi (wi (gmR m a y) (pq p 9) 0) (pq p 29) 0
section
variable {T : TYc} {Fv Fv' : Int64 → Int64 → Prop} {P P' : Int64 → Prop} {PR p a b j i j0 k N U B W Y : Nat} {y x2 : Int} {m w w2 wb : MS} {RR : Nat → MS → MS → Prop} {cur : Option Nat} {bb : Int → Nat → Nat → Prop} {nb : Nat → Nat} {Hs Os : Nat → List Nat}
theorem gmR_fr : FR [1105, 1106, 1107, 1108, 1109, 1112] [] [] [] m (gmR m a y) := by
  unfold gmR
  exact FR.wi (FR.wi (FR.wi (FR.wi (FR.wi (FR.wi FR.rf (by decide)) (by decide)) (by decide)) (by decide)) (by decide)) (by decide)
theorem gsM_q (h1 : k ≠ 9) (h2 : k ≠ 29) : (gsM m p a y).1 (pq p k) = m.1 (pq p k) := by
  unfold gsM
  rw [wi_1 (pq_inj h2), wi_1 (pq_inj h1)]
  exact gmR_fr.1 _ (by simp; unfold pq; omega)
theorem gsM_g (h : k < 2000) : (gsM m p a y).1 k = (gmR m a y).1 k := by
  unfold gsM
  rw [wi_1 (pq_n h), wi_1 (pq_n h)]
theorem gsM_v (ha : a < 100000) (hy : 0 ≤ y ∧ y ≤ 500) : (F (gsM m p a y) 1105 = ((a : Nat) : Int) ∧ (gsM m p a y).1 1106 = I 0 ∧ (gsM m p a y).1 1107 = I y) ∧ (F (gsM m p a y) 1108 = 0 ∧ F (gsM m p a y) 1109 = 0 ∧ F (gsM m p a y) 1112 = 0) ∧ F (gsM m p a y) (pq p 9) = 0 ∧ (gsM m p a y).1 (pq p 29) = I 0 := by
  have g : ∀ k, k < 2000 → F (gsM m p a y) k = F (gmR m a y) k := fun k h => congrArg Int32.toInt (gsM_g h)
  refine ⟨⟨?_, ?_, ?_⟩, ⟨?_, ?_, ?_⟩, ?_, ?_⟩
  · rw [g 1105 (by omega)]
    unfold gmR
    rw [wi_ne (by omega), wi_ne (by omega), wi_ne (by omega), wi_ne (by omega), wi_ne (by omega), wi_sm (by omega) (by omega)]
  · rw [gsM_g (by omega)]
    unfold gmR
    rw [wi_1 (by omega), wi_1 (by omega), wi_1 (by omega), wi_1 (by omega), wi_s1]
  · rw [gsM_g (by omega)]
    unfold gmR
    rw [wi_1 (by omega), wi_1 (by omega), wi_1 (by omega), wi_s1]
  · rw [g 1108 (by omega)]
    unfold gmR
    rw [wi_ne (by omega), wi_ne (by omega), wi_sm (by omega) (by omega)]
  · rw [g 1109 (by omega)]
    unfold gmR
    rw [wi_ne (by omega), wi_sm (by omega) (by omega)]
  · rw [g 1112 (by omega)]
    unfold gmR
    rw [wi_sm (by omega) (by omega)]
  · unfold gsM
    rw [wi_ne (pq_inj (by omega)), wi_sm (by omega) (by omega)]
  · unfold gsM
    exact wi_s1
theorem go_mst (W : WRD T Fv P PR m) (hq : p < PR) (hal : F m (pq p 9) ≠ 3) (hy : 0 ≤ y ∧ y ≤ 500) (h21 : F m (pq p 21) = ((j + 1 : Nat) : Int)) (h4 : A m (pq p 30) (5 * j + 4) = ((a : Nat) : Int)) : hm_Ma_goOn N m p (I y) = hg_Ma_goOn N N (gsM m p a y) p (I ((0 : Nat) : Int)) ∧ LPQ T Fv P PR p 600000000 (gsM m p a y) ∧ a < 24000 := by
  obtain ⟨g1, g2, g3, g4, g5, g6⟩ := W
  obtain ⟨j', wb, nb, cb, rk, i, h, mm, L, x, st, e4, tt, hx, b1, b2, un⟩ := g5 p hq hal
  obtain ⟨hc, hj⟩ := st.2.1
  obtain rfl : j' = j := by omega
  obtain rfl : i = a := by omega
  have tb := g3 _ _ _ _ _ _ tt
  refine ⟨?_, ?_, tb.1.2⟩
  · unfold hm_Ma_goOn hb_Ma_goOn_0 hm_Fr_place hb_Fr_place_0
    rw [I_F (k := pq p 21), hc, lit1q, I_sub, show ((j' + 1 : Nat) : Int) - 1 = ((j' : Nat) : Int) by omega, I_lit (n := 4), of_e (y := ((j' : Nat) : Int)) (z := 4) (a := j') (k := 4) hc hj rfl (Nat.le_refl _) rfl (by omega), bnd_so, e4, bnd_so, lit0q]
    rw [lt_e, lt_e, lt_e, lt_e, lt_e, lt_e, lt_e, lt_e]
    simp only [wi_e]
    rfl
  have f : FC p [1105, 1106, 1107, 1108, 1109, 1112] [] [] [9, 29] [] [] [] m (gsM m p i y) := by
    unfold gsM gmR
    exact FC.wi_q (FC.wi_q (FC.wi_g (FC.wi_g (FC.wi_g (FC.wi_g (FC.wi_g (FC.wi_g FC.rf (by omega) (by simp)) (by omega) (by simp)) (by omega) (by simp)) (by omega) (by simp)) (by omega) (by simp)) (by omega) (by simp)) (by omega) (by simp)) (by omega) (by simp)
  obtain ⟨⟨v5, v6', v7'⟩, ⟨v8, v9, v12⟩, vs, -⟩ := gsM_v (m := m) (p := p) (a := i) (y := y) (by have := tb.1.2; omega) hy
  have v6 : F (gsM m p i y) 1106 = 0 := by
    show ((gsM m p i y).1 1106).toInt = 0
    rw [v6']
    rfl
  have v7 : F (gsM m p i y) 1107 = y := by
    show ((gsM m p i y).1 1107).toInt = y
    rw [v7', I_ti (by omega) (by omega)]
  clear v6' v7'
  generalize gsM m p i y = w at *
  obtain ⟨n, ow, kd, B, W, Y, pp⟩ := (g1.2 p hq).2.2 hal
  have eB : B = nb + mm := by have := pp.2.1.1; omega
  have eW : W = wb + h := by have := pp.2.2.1.1; omega
  subst eB; subst eW
  have p2 : PTQ w p n ow kd Fv P (nb + mm) (wb + h) Y := PTQ_same pp (fun k hk => f.2.2.2.2.1 p k (by simp at hk; omega) (fun _ => by simp at hk ⊢; omega)) (fun k hk => f.jq (by simp at hk; omega) (by simp))
  have sm : SMQ w p := SMQ_up (g1.2 p hq).1 (f.Fq (by omega) (by simp)) (f.Fq (by omega) (by simp)) (by rw [f.Fq (by omega) (by simp)]; exact Int.le_refl _) hal
  have d : DWc Fv P PR w := DWc_fc g1 f hq hal (by rw [vs]; decide) sm ⟨n, ow, kd, _, _, Y, p2⟩ (by simp) (by simp)
  have s : SCQ m w := SCQ_f f (by simp) (by simp)
  have al : ALN w := ALN_k g6 (f.2.2.1 1948 (by omega) (by simp)) (fun r _ h1 => LNB_fc h1 (fun k hk => f.2.2.2.2.1 r k (by simp at hk; omega) (fun _ => by simp at hk ⊢; omega)))
  have oth : OTH T PR p w := fun r hr hrq hal => PSQ_o (g5 r hr (by rw [← f.Fo hrq (by omega)]; exact hal)) f hrq (by simp)
  have M : MIc T Fv P PR p w i h mm L 0 x j' wb nb cb rk := ⟨⟨d, CTX_s s g2, WFT_s s g3, CDT_s s g4, oth, al, hq, by rw [v6, v7]; omega⟩, vs, STc_s st (f.2.2.2.2.2.2.1 p 30 (by omega) (by simp)) (f.2.2.2.2.2.2.1 p 37 (by omega) (by simp)) (f.2.2.2.2.1 p 21 (by omega) (by simp)) (f.2.2.2.2.1 p 28 (by omega) (by simp)), ⟨tt, v5⟩, ⟨by rw [f.Fq (by omega) (by simp)]; exact b1, by rw [f.Fq (by omega) (by simp)]; exact b2⟩, ⟨fun _ => v12, fun z => absurd rfl z⟩, fun z1 z2 => by omega, UN_k un (f.2.2.2.2.2.1 p 10 (by omega) (by simp)) (f.2.2.1 23 (by omega) (by simp))⟩
  have mb := MI_b M
  have hph : PHc T w p i x rk < 600000000 := by
    unfold PHc
    rw [v6, v7]
    have := pot_le (T := T) (i := i) (x := x) (t := (F w (pq p 8)).toNat) (by omega)
    have := mb.2.2.2.2
    omega
  exact Or.inl ⟨⟨_, _, _, _, _, _, _, _, _, _, _, M, hph⟩, v9, v8⟩
theorem WL_w3 (W0 : WLs RR PR Fv P Fv' P' cur i j0 m w) : WLs RR PR Fv P Fv' P' cur i j0 m (wi w 3 x2) := by
  obtain ⟨⟨d, cx⟩, ⟨dw, lk, wt⟩, pb⟩ := W0.1
  have f1 : FR [] [] [] [] m m := FR.rf
  have f2 : FR [3] [] [] [] w (wi w 3 x2) := FR.wi FR.rf (by simp)
  have lm : ∀ d, LOCm d m m := fun d k hk => ⟨rfl, rfl, rfl, rfl⟩
  have lw : ∀ d, LOCw d w (wi w 3 x2) := fun d => ⟨fun _ _ _ => rfl, fun _ _ => rfl, fun _ _ _ => rfl, rfl, fun _ _ _ => rfl, fun _ _ _ => rfl, fun _ _ _ => rfl, fun _ _ _ => rfl⟩
  exact WL_same W0 ⟨⟨d, cx⟩, ⟨DW_fr dw f2 (by simp) (by simp) (by simp) (by simp) (by simp) (by simp) (by simp) (by simp) (by simp) (by simp) (by simp) (by simp) (by simp) (by simp) (by simp) (by simp) (by simp), LK_fr lk f2 (by simp) (by simp), WTQ_fr wt f2 (by simp) (by simp) (by simp)⟩, pb⟩ (PGs_fr f1 f2 (by simp) (by simp) (by simp) (by simp) (by simp) (by simp)) lm lw rfl rfl (f2.1 150 (by simp)) (fun _ _ => rfl) rfl
theorem go_bas (W0 : WLs WTr PR Fv P Fv' P' none i 0 m w) (h956 : F m 956 = ((i : Nat) : Int) ∧ F m 955 = ((i : Nat) : Int)) (h149 : F w 149 = 0 ∧ F w 150 = 0) (cn : CNq P P' m w) (wt : WTs PR m w) (tb : TBz m w) (hp : p < PR) (hal : F m (pq p 9) ≠ 3) (hal' : A w 109 p ≠ 3) (hb : b ≤ 500) : BAs Fv P Fv' P' PR p i (gmR m a y) (gwR w p b) := by
  have p24 : PR ≤ 24 := W0.1.2.1.1.1.2
  have f : FR [1105, 1106, 1107, 1108, 1109, 1112] [] [] [] m (gmR m a y) := gmR_fr
  obtain ⟨g, e133, e164, e165, e151, e152⟩ := gwR_v (w := w) (p := p) (b := b) (by omega) hb
  have W1 : WLs (RRt p) PR Fv P Fv' P' none i 0 (gmR m a y) (gwR w p b) := WL_reg (w := wi w 3 0) (WL_w3 (WL_mono W0 (fun q h => Or.inr h) RRt_stb)) (FR.mo f (by simp) (by simp) (by simp) (by simp)) (by
    unfold gwR
    exact FR.wi (FR.wi (FR.wi (FR.wi (FR.wi FR.rf (by simp)) (by simp)) (by simp)) (by simp)) (by simp))
  have e6 : (gmR m a y).1 1106 = I 0 := by
    unfold gmR
    rw [wi_1 (by omega), wi_1 (by omega), wi_1 (by omega), wi_1 (by omega), wi_s1]
  obtain ⟨t1, t2, ⟨t3, t4, t5⟩, fa, na, t7⟩ := tb
  have at2 : ATM (gwR w p b) := by
    have := cn.2.1
    unfold ATM at this ⊢
    rw [FR.F g (by simp)]
    exact this
  have a3 : (gwR w p b).2.2 = w.2.2 := rfl
  have m3 : (gmR m a y).2.2 = m.2.2 := rfl
  generalize gmR m a y = mb at *
  generalize gwR w p b = wb at *
  refine ⟨hp, W1, ⟨by rw [FR.F f (by simp)]; exact h956.2, by rw [FR.F f (by simp)]; exact h956.1⟩, ⟨by rw [FR.F g (by simp)]; exact h149.1, by rw [FR.F g (by simp)]; exact h149.2⟩, CN_pg cn (PG0_fr f g (by simp) (by simp) (by simp) (by simp) (by simp)) at2, WTs_st wt (f.1 950 (by simp)) (fun k _ => f.2.2.1 k (by simp)) (g.1 125 (by simp)) (fun k _ => g.2.2.1 k (by simp)), ⟨TB_tab t1 ⟨f.1 442 (by simp), f.1 449 (by simp)⟩ (fun K _ => f.2.2.1 K (by simp)) (fun K _ => g.2.2.1 K (by simp)) (g.2.2.2 34 (by simp)), PN_st t2 (f.1 953 (by simp)) (fun K _ => f.2.2.1 K (by simp)) (g.1 128 (by simp)) (fun K _ => g.2.2.1 K (by simp)), ⟨CLk_st t3 (f.1 944 (by simp)) (g.1 120 (by simp)), by rw [f.1 945 (by simp), g.1 121 (by simp)]; exact t4, by rw [f.1 946 (by simp), g.1 119 (by simp)]; exact t5⟩, by rw [e6, I_F' e165], fa, na, ATf_k t7 (f.1 22 (by simp)) (f.2.2.1 2 (by simp)) (f.2.2.1 3 (by simp)) (g.1 14 (by simp)) (g.2.2.1 12 (by simp)) (g.2.2.1 13 (by simp))⟩, ⟨?_, by rw [FR.A g (by simp)]; exact hal'⟩, by rw [FR.F f (by simp)]; exact W0.1.1.1.1.1.1, by rw [FR.F g (by simp)]; exact W0.1.2.1.1.1.1⟩
  rw [FR.F f (by simp; unfold pq; omega)]
  exact hal
theorem SC_gs (s : SCs p (gmR m a y) wb) (g : ∀ K, K ≠ 109 → K ≠ 115 → w2.2.2.1 K = wb.2.2.1 K) (h115 : w2.2.2.1 115 p = I 0) (e29 : (gsM m p a y).1 (pq p 29) = I 0) : SCs p (gsM m p a y) w2 := by
  obtain ⟨s1, s2, s3, s4, s5, s6⟩ := s
  have q : ∀ k, k ≠ 9 → k ≠ 29 → (gsM m p a y).1 (pq p k) = (gmR m a y).1 (pq p k) := fun k h1 h2 => by
    unfold gsM
    rw [wi_1 (pq_inj h2), wi_1 (pq_inj h1)]
  have hF : F (gsM m p a y) (pq p 15) = F (gmR m a y) (pq p 15) := congrArg Int32.toInt (q 15 (by omega) (by omega))
  refine ⟨by rw [q 12 (by omega) (by omega), g 113 (by omega) (by omega)]; exact s1, by rw [q 13 (by omega) (by omega), g 114 (by omega) (by omega)]; exact s2, by rw [q 11 (by omega) (by omega), g 112 (by omega) (by omega)]; exact s3, by rw [q 15 (by omega) (by omega), g 117 (by omega) (by omega)]; exact s4, by rw [e29, h115], fun i hi => ?_⟩
  rw [hF] at hi
  rw [g 116 (by omega) (by omega)]
  exact s6 i hi
theorem FC_gs (s : FAs m w p j nb Hs Os ∧ CTs m w p j nb Hs Os) (g : ∀ K, K ≠ 109 → K ≠ 115 → w2.2.2.1 K = w.2.2.1 K) (g34 : w2.2.2.2 = w.2.2.2) : FAs (gsM m p a y) w2 p j nb Hs Os ∧ CTs (gsM m p a y) w2 p j nb Hs Os :=
  FC_w s (fun k c => gsM_q (by omega) (by omega)) (fun _ _ => rfl) rfl (fun K c => by rw [g K (by omega) (by omega)]) (fun K r c1 c2 _ _ => by rw [g K (by omega) (by omega)]) (fun K r c1 c2 _ => by rw [g K (by omega) (by omega)]) (fun K c => g K (by unfold PRr at c; omega) (by unfold PRr at c; omega)) (by rw [g34])
theorem PL_gs (pl : PLs bb p m w U B W Y) (g : ∀ K, K ≠ 109 → K ≠ 115 → w2.2.2.1 K = w.2.2.1 K) (g34 : w2.2.2.2 = w.2.2.2) : PLs bb p (gsM m p a y) w2 U B W Y ∧ PLs bb p (gsM m p a y) (wa w2 94 p ((B : Nat) : Int)) U B W Y := by
  have h2 : PLs bb p (gsM m p a y) w2 U B W Y := PLs_cg pl (fun k hk => gsM_q (by simp at hk; omega) (by simp at hk; omega)) (fun _ _ => rfl) (fun _ _ => rfl) (fun _ _ => rfl) (fun _ _ => rfl) (fun k hk => by rw [g k (by simp at hk; omega) (by simp at hk; omega)]) (fun _ _ => by rw [g34]) (fun _ _ => by rw [g34]) (fun _ _ => by rw [g34]) (fun _ _ => by rw [g34])
  refine ⟨h2, PLs_cg h2 (fun _ _ => rfl) (fun _ _ => rfl) (fun _ _ => rfl) (fun _ _ => rfl) (fun _ _ => rfl) (fun k hk => ?_) (fun _ _ => rfl) (fun _ _ => rfl) (fun _ _ => rfl) (fun _ _ => rfl)⟩
  by_cases c : k = 94
  · subst c
    rw [wa_s1, I_A' h2.2.1.2.1]
  · rw [wa_21 c]
theorem cof_e {β : Type} {x : Int32} {K : MS → Unit → Option (MS × β)} : bnd (fm_M_clausesOf N w x) K = bnd (fb_M_callRun_364 N () w x) K := by
  unfold fb_M_callRun_364
  cases fm_M_clausesOf N w x <;> rfl
end
section
variable {T : TYc} {u : MS} {i h m g x : Nat} {L : List Nat}
theorem in_32 (q : IN1 T u i h m L g x ∨ IN2 T u i h m L g x ∨ IN3 T u i h m L g x) (e : A u 23 i = 32) : x = i := by
  rcases q with q | q | q
  · exfalso
    rcases q with q | q | q | q | q | q | q | q | q | q | q | q | q <;> (have := q.1; omega)
  · exfalso
    rcases q with q | q | q | q | q | q | q | q | q | q | q <;> (have := q.1; omega)
  · rcases q with q | q | q | q | q | q | q | q | q
    · exfalso; have := q.1; omega
    · exact q.2.2.1
    · exfalso; have := q.1; omega
    · exfalso; have := q.1; omega
    · exfalso; have := q.1; omega
    · exfalso; omega
    · exfalso; have := q.1; omega
    · exfalso; have := q.1; omega
    · exfalso; have := q.1; omega
end
section
variable {Fv : Int64 → Int64 → Prop} {AN : Nat} {T : TY} {C : CY} {pM pE : Nat → Nat} {ND CN PN SN UN FN PR p : Nat} {w : MS}
theorem go_w92 (hp : p < PR) (rest : REST Fv AN T ND UN FN PR w) (r : PER Fv AN T C pM pE ND CN PN SN UN FN w) (h3 : A w 109 p ≠ 3) : A w 92 p ≤ 45600 := by
  obtain ⟨d, hw, -⟩ := rest
  have pr := d.1.2
  rcases hw.2.2.2.2.2.2 p hp (by omega) with c | ⟨fr, ro, rn, rh, cb, pc, ct, q, frs, -, hq, -, -, e1, -⟩ | c
  · exact absurd c h3
  · obtain ⟨⟨f1, f2, -⟩, -, f5, -⟩ := frs
    have e3 := (f5 (fr - 1) (by omega)).2.2.2.2.1
    have e4 := (r.1.2.2.1 q hq).1.1
    rw [e1]
    omega
  · rw [c.2.2.1]
    omega
end
end
section
set_option maxRecDepth 100000
section
variable {T : TYc} {Fv Fv' : Int64 → Int64 → Prop} {P : Int64 → Prop} {AN : Nat} {TT : TY} {CC : CY} {pM pE : Nat → Nat} {ND CN PN SN UN FN N PR p b : Nat} {m w : MS}
theorem gwN_v (hp : p < 24) (hb : b ≤ 500) : (∀ K, K ≠ 109 → K ≠ 115 → (gwN w p b).2.2.1 K = w.2.2.1 K) ∧ (gwN w p b).2.2.2 = w.2.2.2 ∧ (gwN w p b).2.2.1 115 p = I 0 ∧ A (gwN w p b) 109 p = 0 ∧ (∀ k, k ∉ [3, 133, 151, 152, 164, 165] → (gwN w p b).1 k = w.1 k) ∧ (F (gwN w p b) 133 = ((p : Nat) : Int) ∧ F (gwN w p b) 164 = ((b : Nat) : Int) ∧ F (gwN w p b) 165 = 0 ∧ F (gwN w p b) 151 = 0 ∧ F (gwN w p b) 152 = 0) := by
  obtain ⟨f, v⟩ := gwR_v (w := w) (p := p) (b := b) hp hb
  refine ⟨fun K h1 h2 => ?_, rfl, ?_, ?_, fun k h => ?_, v⟩
  · unfold gwN gwA
    rw [wa_21 h1, wa_21 h2]
    exact f.2.2.1 K (by simp)
  · unfold gwN gwA
    rw [wa_21 (by omega), wa_s1]
  · unfold gwN
    rw [wa_sm (by omega) (by omega)]
  · exact f.1 k h
theorem gwA_v (hp : p < 24) (hb : b ≤ 500) : (∀ K, K ≠ 109 → K ≠ 115 → (gwA w p b).2.2.1 K = w.2.2.1 K) ∧ (gwA w p b).2.2.2 = w.2.2.2 ∧ (gwA w p b).2.2.1 115 p = I 0 ∧ A (gwA w p b) 109 p = A w 109 p ∧ (∀ k, k ∉ [3, 133, 151, 152, 164, 165] → (gwA w p b).1 k = w.1 k) ∧ (F (gwA w p b) 133 = ((p : Nat) : Int) ∧ F (gwA w p b) 164 = ((b : Nat) : Int) ∧ F (gwA w p b) 165 = 0 ∧ F (gwA w p b) 151 = 0 ∧ F (gwA w p b) 152 = 0) := by
  obtain ⟨f, v⟩ := gwR_v (w := w) (p := p) (b := b) hp hb
  refine ⟨fun K h1 h2 => ?_, rfl, ?_, ?_, fun k h => ?_, v⟩
  · unfold gwA
    rw [wa_21 h2]
    exact f.2.2.1 K (by simp)
  · unfold gwA
    rw [wa_s1]
  · unfold gwA
    rw [wa_rne (by omega)]
    rfl
  · exact f.1 k h
theorem go_st (hN : 700000000000000 < N) (hpr : p < PR) (hb : b ≤ 500) (W : WRD T Fv P PR m) (rest : REST Fv' AN TT ND UN FN PR w) (per : PER Fv' AN TT CC pM pE ND CN PN SN UN FN w) (fq : FQs WTr PR Fv P Fv' (PWs AN) m w) (tb : TBz m w) (hal : F m (pq p 9) ≠ 3) : PP (RQg Fv P Fv' AN p) (hm_Ma_goOn N m p (I ((b : Nat) : Int))) (fb_M_go_61 N (gg_M_go N N) w (I ((p : Nat) : Int)) (I ((b : Nat) : Int)) 0) := by
  obtain ⟨i, WL, h56, h49, cn, wt⟩ := fq
  have p24 : PR ≤ 24 := WL.1.1.1.1.1.2
  rcases id (WL.2.2.1 p hpr) with ⟨x1, x2, bb, U, B, W4, Y, pl, sc, j, nb, Hs, Os, fa, ct, a, ha, st⟩ | ⟨x1, -⟩
  rotate_left
  · exact absurd x1 hal
  obtain ⟨eq1, lp, ha2⟩ := go_mst (N := N) (a := a) (y := ((b : Nat) : Int)) W hpr hal ⟨by omega, by omega⟩ fa.1.1 ha
  rw [eq1, ← qgo_eq (Sf := SAf T Fv P p) (by omega) (fun PR c u v o h => ⟨PR, c, v, rfl, h, o⟩) N 600000000 PR 0 _ (by omega) lp]
  clear eq1
  have ba := go_bas (a := a) (y := ((b : Nat) : Int)) WL h56 h49 cn wt tb hpr x1 x2 hb
  obtain ⟨⟨v5, v6, v7⟩, ⟨v8, v9, v12⟩, vs, v29⟩ := gsM_v (m := m) (p := p) (a := a) (y := ((b : Nat) : Int)) (by omega) ⟨by omega, by omega⟩
  obtain ⟨⟨ow, kw, pt⟩, ⟨ow', kd', xc⟩, ⟨bW, bB, bY⟩, -⟩ := SF_al WL.1 hpr x1 pl
  have w92 := go_w92 hpr rest per x2
  have plg := PLs_gd pl xc
  have hj : j < 60 := fa.1.2.2
  have gmM : GGm p (gmR m a ((b : Nat) : Int)) (gsM m p a ((b : Nat) : Int)) := by
    unfold gsM
    exact GGm.tr (GGm_own (by omega)) (GGm_own (by omega))
  have scb : ∀ w2 : MS, (∀ K, K ≠ 109 → K ≠ 115 → w2.2.2.1 K = w.2.2.1 K) → w2.2.2.1 115 p = I 0 → SCs p (gmR m a ((b : Nat) : Int)) (gwR w p b) → SCs p (gsM m p a ((b : Nat) : Int)) w2 := fun w2 g h s => SC_gs s g h v29
  have m23 : A (gsM m p a ((b : Nat) : Int)) 23 = A m 23 := rfl
  have q8 : F (gsM m p a ((b : Nat) : Int)) (pq p 8) = F m (pq p 8) := congrArg Int32.toInt (gsM_q (by omega) (by omega))
  have l10 : (gsM m p a ((b : Nat) : Int)).2.1 = m.2.1 := rfl
  have mF : ∀ k, k < 1100 → (gsM m p a ((b : Nat) : Int)).1 k = m.1 k := fun k h => (gsM_g (by omega)).trans (gmR_fr.1 k (by simp; omega))
  have fcA := fun (w2 : MS) (g : ∀ K, K ≠ 109 → K ≠ 115 → w2.2.2.1 K = w.2.2.1 K) (e : w2.2.2.2 = w.2.2.2) => FC_gs (a := a) (y := ((b : Nat) : Int)) ⟨fa, ct⟩ g e
  have plA := fun (w2 : MS) (g : ∀ K, K ≠ 109 → K ≠ 115 → w2.2.2.1 K = w.2.2.1 K) (e : w2.2.2.2 = w.2.2.2) => PL_gs (a := a) (y := ((b : Nat) : Int)) plg g e
  have hb7 : ∀ w2 : MS, F w2 164 = ((b : Nat) : Int) → (gsM m p a ((b : Nat) : Int)).1 1107 = w2.1 164 := fun w2 e => by rw [v7, I_F' e]
  have hb6 : ∀ w2 : MS, F w2 165 = 0 → (gsM m p a ((b : Nat) : Int)).1 1106 = w2.1 165 := fun w2 e => by rw [v6, I_F' e]
  have hAN : F (gwR w p b) 14 = ((AN : Nat) : Int) := by
    rw [FR.F (gwR_v (w := w) (p := p) (b := b) (by omega) hb).1 (by simp)]
    exact per.2.2.2.1
  have sq := (W.1.2 p hpr).1.2
  have sq2 := sq.2 x1
  have fl := fa.2.1 j (Nat.le_refl _)
  have eB : B = nb j + (Hs j ++ Os j).length := by
    have h1 := pl.2.1.1
    have h2 := fa.2.2.2
    omega
  have hcl : m.1 944 = w.1 120 := tb.2.2.1.1.1
  refine go_wst hpr hb rest per x2 hN (fun h0 hal0 wd pr => ?_) (fun h1 q j' e95 e98 hq pr pk => ?_) (fun h5 c hc pr pk => ?_)
  · 
    obtain ⟨mm, -, al⟩ := hal0
    obtain ⟨g1, g2, g3, g4, g5, g133, g164, g165, g151, g152⟩ := gwA_v (w := w) (p := p) (b := b) (by omega) hb
    have gwA' : GGw p (gwR w p b) (gwA w p b) := by
      unfold gwA
      exact GGw_own (Or.inl ⟨by omega, rfl⟩)
    obtain ⟨n, s3, f, s4⟩ : ∃ n : Nat, A w 98 (60 * p + j) = ((n : Nat) : Int) ∧ ∃ f, CRs (A m 23) (ROs w) (w.2.2.2 34) f none a n (Hs j) (Os j) := by
      rcases st with ⟨-, -, st⟩ | ⟨-, c, -⟩ | ⟨-, c, -⟩
      · exact st
      · omega
      · omega
    have ro : ROs (gwA w p b) = ROs w := ROs_eq (fun K h => g1 K (by unfold PRr at h; omega) (by unfold PRr at h; omega))
    have ru : RUs (gsM m p a ((b : Nat) : Int)) (gwA w p b) p j nb Hs Os none a n := ⟨fcA _ g1 g2, ⟨v5, by show ((gwA w p b).2.2.1 98 _).toInt = _; rw [g1 98 (by omega) (by omega)]; exact s3⟩, ⟨f, by rw [m23, ro, g2]; exact s4⟩, ⟨vs, by rw [g4]; exact h0⟩, Or.inl ⟨rfl, v12, g152⟩, ⟨v8, v9, g151⟩, g133, hb6 _ g165, hb7 _ g164⟩
    have plx := (plA _ g1 g2).1
    have scx := scb _ g1 g3
    generalize gwA w p b = wA at *
    generalize gsM m p a ((b : Nat) : Int) = m1 at *
    obtain ⟨-, W0, ⟨h955, h956⟩, ⟨g149, g150⟩, cn0, wt0, tb0, ⟨hal0, hal0'⟩, n1, n2⟩ := ba
    have dw := ALT_dw al
    have pb := PQ_b pr.2.2.2.2.1 dw.1.2
    have s3' : SFs Fv P Fv' (PWs AN) PR m1 wA := ⟨LPQ_dc lp, ⟨DW_mo PW_q dw, wd.1, wd.2.1⟩, PB_mo PW_q pb⟩
    have fi := gmM.2.2.2.2.2.2
    have fA := gmM.2.2.2.2.2.1
    have gi := gwA'.2.2.2.2.2.2
    have gA := gwA'.2.2.2.2.2.1
    have scp : SCs p (gmR m a ((b : Nat) : Int)) (gwR w p b) := by
      rcases W0.2.2.1 p hpr with ⟨-, -, _, _, _, _, _, _, s, -⟩ | ⟨x, -⟩
      · exact s
      · exact absurd x hal0
    refine goA (by omega) N N 0 m1 wA ⟨PR, 600000000, mm, hpr, ⟨by omega, lp⟩, ⟨al, wd, pr⟩, ⟨i, WL_q (WL_ownt W0 hpr hal0 hal0' s3' gmM gwA' plx (scx scp) ⟨by omega, by omega⟩) (fun _ => Or.inl ⟨j, nb, Hs, Os, none, a, n, ru⟩), ⟨?_, ?_⟩, ⟨?_, ?_⟩, CN_pg cn0 (PG0_gg gmM gwA') pr.2.2.1, WTs_st wt0 (fi 950 (by omega)) (fun k hk => fA k (by omega)) (gi 125 (by omega)) (fun k hk => gA k (by omega))⟩, TB_gg tb0 gmM gwA'⟩
    · rw [← h956]
      exact congrArg Int32.toInt gmM.2.2.2.2.1
    · rw [← h955]
      exact congrArg Int32.toInt gmM.2.2.1
    · rw [← h49.1]
      exact congrArg Int32.toInt (g5 149 (by simp))
    · rw [← g150]
      exact congrArg Int32.toInt gwA'.2.2.1
  · 
    cases N with
    | zero => omega
    | succ M2 =>
    obtain ⟨g1, g2, g3, g4, g5, g133, g164, g165, g151, g152⟩ := gwN_v (w := w) (p := p) (b := b) (by omega) hb
    have gwN' : GGw p (gwR w p b) (gwN w p b) := by
      unfold gwN gwA
      exact GGw.tr (GGw_own (Or.inl ⟨by omega, rfl⟩)) (GGw_own (Or.inl ⟨by omega, rfl⟩))
    obtain ⟨s8, dl, n, s3, s23, s27, nd, g, rc⟩ : F m (pq p 8) = A w 110 p ∧ DLs (m.2.1 (pq p 10)) (w.2.2.2 111 p) ∧ ∃ n : Nat, A w 98 (60 * p + j) = ((n : Nat) : Int) ∧ A w 23 n = 27 ∧ A w 27 n = (((Os j).length : Nat) : Int) ∧ ((Hs j).Nodup ∧ (Os j).Nodup) ∧ ∃ g, RCs (A m 23) (ROs w) (w.2.2.2 34) (CRs (A m 23) (ROs w) (w.2.2.2 34) g) g a n (Hs j) (Os j) := by
      rcases st with ⟨-, c, -⟩ | ⟨-, c, -⟩ | ⟨-, -, -, st⟩
      · omega
      · omega
      · exact st
    have ej : j' = j := by
      have := fa.1.2.1
      omega
    subst ej
    have en : n = q := by omega
    subst en
    have ro : ROs (gwN w p b) = ROs w := ROs_eq (fun K h => g1 K (by unfold PRr at h; omega) (by unfold PRr at h; omega))
    have aN : ∀ K k, K ≠ 109 → K ≠ 115 → A (gwN w p b) K k = A w K k := fun K k h1 h2 => by
      show ((gwN w p b).2.2.1 K k).toInt = _
      rw [g1 K h1 h2]
      rfl
    have nND := per.1.1.1
    obtain ⟨t, ht⟩ : ∃ t : Nat, F m (pq p 8) = ((t : Nat) : Int) := ⟨(F m (pq p 8)).toNat, by omega⟩
    have eY : F m (pq p 7) = ((Y : Nat) : Int) := pl.2.2.2.1
    have fcx := fcA _ g1 g2
    have plx := plA _ g1 g2
    have scx := scb _ g1 g3
    have e944 := mF 944 (by omega)
    have e955 : F (gsM m p a ((b : Nat) : Int)) 955 = ((i : Nat) : Int) := (congrArg Int32.toInt (mF 955 (by omega))).trans h56.2
    have e956 : F (gsM m p a ((b : Nat) : Int)) 956 = ((i : Nat) : Int) := (congrArg Int32.toInt (mF 956 (by omega))).trans h56.1
    have h149 : F (gwN w p b) 149 = 0 := by
      rw [← h49.1]
      exact congrArg Int32.toInt (g5 149 (by simp))
    have h140 : F (gwN w p b) 140 = -1 := by
      rw [← WL.1.2.1.1.2.2.2.1]
      exact congrArg Int32.toInt (g5 140 (by simp))
    have e120 := g5 120 (by simp)
    have hpw : hp (gwN w p b) p = hp w p := by
      unfold hp
      rw [g2]
    have l111 : (gwN w p b).2.2.2 111 p = w.2.2.2 111 p := by rw [g2]
    have l34 : (gwN w p b).2.2.2 34 = w.2.2.2 34 := by rw [g2]
    have hb6' := hb6 _ g165
    have hb7' := hb7 _ g164
    refine go_kr pk pr (by omega) (by omega) ?_
    generalize gwN w p b = wN at *
    generalize gsM m p a ((b : Nat) : Int) = m1 at *
    refine goW_r (nbj := nb j') (hl := (Hs j').length) (ol := (Os j').length) (t := t) (by omega) g133 (by rw [aN 95 _ (by omega) (by omega)]; exact fa.1.2.1) hj (by omega) (by rw [aN 110 _ (by omega) (by omega)]; omega) (by rw [aN 99 _ (by omega) (by omega)]; exact fl.2.2.1.2) (by rw [aN 101 _ (by omega) (by omega)]; exact fl.2.2.2.2.1) (by rw [aN 27 _ (by omega) (by omega)]; exact s27) ?_
    have nx := NX_of (m := m1) (w := wN) (t := t) (n := n) (sc := a) fcx vs g4 v12 g152 v8 v9 g151 g133 hb6' hb7' v5 (by rw [q8]; exact ht) (by omega) (by omega) (by rw [List.length_append] at eB; omega) (by rw [l10, l111]; exact dl) (by rw [aN 23 _ (by omega) (by omega)]; exact s23) (by rw [aN 27 _ (by omega) (by omega)]; exact s27) ⟨nd.2, nd.1⟩ ⟨g, by rw [m23, ro, l34]; exact rc⟩
    have gw5 : GGw p wN (wi (wi (wi (wi (wi wN 159 ((n : Nat) : Int)) 158 ((t : Nat) : Int)) 153 3) 155 (A wN 25 n)) 156 ((nb j' + (Hs j').length + (Os j').length : Nat) : Int)) := GGw.tr (GGw.tr (GGw.tr (GGw.tr (GGw_reg (by omega) ⟨by omega, by omega, by omega⟩) (GGw_reg (by omega) ⟨by omega, by omega, by omega⟩)) (GGw_reg (by omega) ⟨by omega, by omega, by omega⟩)) (GGw_reg (by omega) ⟨by omega, by omega, by omega⟩)) (GGw_reg (by omega) ⟨by omega, by omega, by omega⟩)
    have lo : ∀ l, l ≠ 159 → l ≠ 158 → l ≠ 153 → l ≠ 155 → l ≠ 156 → (wi (wi (wi (wi (wi wN 159 ((n : Nat) : Int)) 158 ((t : Nat) : Int)) 153 3) 155 (A wN 25 n)) 156 ((nb j' + (Hs j').length + (Os j').length : Nat) : Int)).1 l = wN.1 l := fun l h1 h2 h3 h4 h5 => by rw [wi_1 h5, wi_1 h4, wi_1 h3, wi_1 h2, wi_1 h1]
    have f159 : F (wi (wi (wi (wi (wi wN 159 ((n : Nat) : Int)) 158 ((t : Nat) : Int)) 153 3) 155 (A wN 25 n)) 156 ((nb j' + (Hs j').length + (Os j').length : Nat) : Int)) 159 = ((n : Nat) : Int) := by rw [wi_ne (by omega), wi_ne (by omega), wi_ne (by omega), wi_ne (by omega), wi_sm (by omega) (by omega)]
    have pl5 : PLs (bGd bb U ow' kd') p m1 (wa (wi (wi (wi (wi (wi wN 159 ((n : Nat) : Int)) 158 ((t : Nat) : Int)) 153 3) 155 (A wN 25 n)) 156 ((nb j' + (Hs j').length + (Os j').length : Nat) : Int)) 94 p ((B : Nat) : Int)) U B W4 Y := plx.2
    have sc5 : SCs p (gmR m a ((b : Nat) : Int)) (gwR w p b) → SCs p m1 (wi (wi (wi (wi (wi wN 159 ((n : Nat) : Int)) 158 ((t : Nat) : Int)) 153 3) 155 (A wN 25 n)) 156 ((nb j' + (Hs j').length + (Os j').length : Nat) : Int)) := scx
    have hp5 : hp (wi (wi (wi (wi (wi wN 159 ((n : Nat) : Int)) 158 ((t : Nat) : Int)) 153 3) 155 (A wN 25 n)) 156 ((nb j' + (Hs j').length + (Os j').length : Nat) : Int)) p = hp w p := hpw
    have l88 : (wi (wi (wi (wi (wi wN 159 ((n : Nat) : Int)) 158 ((t : Nat) : Int)) 153 3) 155 (A wN 25 n)) 156 ((nb j' + (Hs j').length + (Os j').length : Nat) : Int)).2.2.2 88 = wN.2.2.2 88 := rfl
    have w140 : F (wi (wi (wi (wi (wi wN 159 ((n : Nat) : Int)) 158 ((t : Nat) : Int)) 153 3) 155 (A wN 25 n)) 156 ((nb j' + (Hs j').length + (Os j').length : Nat) : Int)) 140 = -1 := by
      rw [← h140]
      exact congrArg Int32.toInt (lo 140 (by omega) (by omega) (by omega) (by omega) (by omega))
    have w120 := lo 120 (by omega) (by omega) (by omega) (by omega) (by omega)
    obtain ⟨-, -, -, -, wft, i2, h, mm, L, x, wb, ti, e5, -, -, un⟩ := cl_fct lp nx.1 pl5
    have ei : a = i2 := by omega
    subst ei
    obtain ⟨⟨a1, -⟩, -, -, -, -, ins⟩ := wft _ _ _ _ _ _ ti
    have x0 : x = a := in_32 ins (by rw [m23]; exact rc.1)
    subst x0
    show PP _ (q67 (SAf T Fv P p) (M2 + 1) (qgo (SAf T Fv P p) (M2 + 1) M2) m1 p (I ((0 : Nat) : Int))) _
    generalize wi (wi (wi (wi (wi wN 159 ((n : Nat) : Int)) 158 ((t : Nat) : Int)) 153 3) 155 (A wN 25 n)) 156 ((nb j' + (Hs j').length + (Os j').length : Nat) : Int) = w5 at *
    have gwb : GGw p (gwR w p b) w5 := GGw.tr gwN' gw5
    have ih := goA (T := T) (Fv := Fv) (Fv' := Fv') (P := P) (AN := AN) (TT := TT) (CC := CC) (pM := pM) (pE := pE) (ND := ND) (CN := CN) (PN := PN) (SN := SN) (UN := UN) (FN := FN) (p := p) (N := M2 + 1) (by omega) (M2 + 1)
    refine recv_pp (t := t) (K2 := fun u => KRs Fv' AN TT CC ND CN UN FN (M2 + 1) p 600000000000000 (M2 + 1) wN u) (by omega) nx pl5 (by rw [List.length_append] at eB; omega) (by omega) bY (by rw [q8]; exact ht) (by omega) (by omega) (by omega) (by rw [e944, w120, e120]; exact hcl) (fun z => un (by omega) z) (fun n' hn => by omega) (fun M' vk' m3 w3 q1 q2 a1 a2 a3 a4 a5 => ?_) (fun M' vk' m3 w3 l2 q' q1 q2 a1 a2 a3 a4 a5 => ?_) (fun m3 w3 k q1 a1 a2 q3 a3 a4 a5 a6 => ?_)
    · exact (aft_gg (by omega) pr h149 ih ba (by omega) (GGm.tr gmM a3) (GGw.tr gwb a4) a2 (fun s => a5 (sc5 s)) (Or.inr (Or.inl ⟨j', nb, Hs, Os, x, a1⟩)) (by obtain ⟨y1, y2⟩ := a1.2.1; omega) a1.2.2.2.2.2.1.2.1).1
    · exact (aft_gg (by omega) pr h149 ih ba (by omega) (GGm.tr gmM a3) (GGw.tr gwb a4) a2 (fun s => a5 (sc5 s)) (Or.inl ⟨j', nb, Hs, Os, none, l2, q', a1⟩) (by obtain ⟨y1, y2⟩ := a1.2.2.2.1; omega) a1.2.2.2.2.2.1.2.1).1
    · have q5 : F m3 955 ≤ F m3 956 := by
        have y1 : F m3 955 = F m1 955 := congrArg Int32.toInt a3.2.2.1
        have y2 : F m3 956 = F m1 956 := congrArg Int32.toInt a3.2.2.2.2.1
        omega
      refine go195 a1.1.2.2.2.1.2.1 q5 (fun hs => ?_)
      have e : hp w3 p = hp w p := by
        rw [← hp5]
        unfold hp
        rw [a6.1]
      exact st_tr (M := M2 + 1) (d := 19) (by omega) (by omega) pr h149 hAN ih ba rfl (by omega) hs a1 a2 (by rw [e]; exact xc.2.1) ((congrArg Int32.toInt a6.2).trans w140) (by have := pl.2.2.1.2.1; omega) (GGm.tr gmM a3) (GGw.tr gwb a4) (fun s => a5 (sc5 s))
  · 
    cases N with
    | zero => omega
    | succ M2 =>
    obtain ⟨g1, g2, g3, g4, g5, g133, g164, g165, g151, g152⟩ := gwN_v (w := w) (p := p) (b := b) (by omega) hb
    have gwN' : GGw p (gwR w p b) (gwN w p b) := by
      unfold gwN gwA
      exact GGw.tr (GGw_own (Or.inl ⟨by omega, rfl⟩)) (GGw_own (Or.inl ⟨by omega, rfl⟩))
    obtain ⟨ej, eO, c', hc', nd, f, g, zr⟩ : j = 0 ∧ Os j = [] ∧ ∃ c : Nat, ((0 ≤ A w 96 (60 * p) ∧ A w 50 (A w 96 (60 * p)).toNat = ((c : Nat) : Int)) ∨ (A w 96 (60 * p) = -1 ∧ ∃ u : Nat, A w 170 p = ((u : Nat) : Int) ∧ A w 53 u = ((c : Nat) : Int))) ∧ ((Hs j).Nodup ∧ ∃ f g, ZRs (A m 23) (ROs w) (w.2.2.2 34) (CRs (A m 23) (ROs w) (w.2.2.2 34) f) 0 0 (Hs j) [] g a ((c : Nat) : Int)) := by
      rcases st with ⟨-, c, -⟩ | ⟨-, -, st⟩ | ⟨-, c, -⟩
      · omega
      · exact st
      · omega
    have ec : c' = c := by
      rcases hc with ⟨y1, y2⟩ | ⟨y1, u, y2, y3⟩
      · rcases hc' with ⟨z1, z2⟩ | ⟨z1, -⟩
        · omega
        · omega
      · rcases hc' with ⟨z1, z2⟩ | ⟨z1, u', z2, z3⟩
        · omega
        · have eu : u' = u := by omega
          subst eu
          omega
    subst ec
    subst ej
    have ro : ROs (gwN w p b) = ROs w := ROs_eq (fun K h => g1 K (by unfold PRr at h; omega) (by unfold PRr at h; omega))
    have aN : ∀ K k, K ≠ 109 → K ≠ 115 → A (gwN w p b) K k = A w K k := fun K k h1 h2 => by
      show ((gwN w p b).2.2.1 K k).toInt = _
      rw [g1 K h1 h2]
      rfl
    have fcx := fcA _ g1 g2
    have plx := plA _ g1 g2
    have scx := scb _ g1 g3
    have h149 : F (gwN w p b) 149 = 0 := by
      rw [← h49.1]
      exact congrArg Int32.toInt (g5 149 (by simp))
    have h140 : F (gwN w p b) 140 = -1 := by
      rw [← WL.1.2.1.1.2.2.2.1]
      exact congrArg Int32.toInt (g5 140 (by simp))
    have hpw : hp (gwN w p b) p = hp w p := by
      unfold hp
      rw [g2]
    have l34 : (gwN w p b).2.2.2 34 = w.2.2.2 34 := by rw [g2]
    have hb6' := hb6 _ g165
    have hb7' := hb7 _ g164
    have hc9 : c' < 100000 := by
      cases g with
      | zero => exact zr.elim
      | succ g =>
        rcases zr.2 with ⟨z, -⟩ | ⟨k0, ⟨z, z2⟩, -⟩
        · omega
        · omega
    refine go_kr pk pr (by omega) (by omega) ?_
    generalize gwN w p b = wN at *
    generalize gsM m p a ((b : Nat) : Int) = m1 at *
    rw [cof_e]
    refine clof_r (nbn := nb 0) (a := (Hs 0).length) (j := 0) (by omega) g133 (by rw [aN 95 _ (by omega) (by omega)]; exact fa.1.2.1) (by omega) (by rw [aN 99 _ (by omega) (by omega)]; exact fl.2.2.1.2) (by rw [aN 101 _ (by omega) (by omega)]; exact fl.2.2.2.2.1) ?_
    have gw4 : GGw p wN (wi (wi (wi (wi wN 153 0) 155 ((c' : Nat) : Int)) 154 ((c' : Nat) : Int)) 156 ((nb 0 + (Hs 0).length : Nat) : Int)) := GGw.tr (GGw.tr (GGw.tr (GGw_reg (by omega) ⟨by omega, by omega, by omega⟩) (GGw_reg (by omega) ⟨by omega, by omega, by omega⟩)) (GGw_reg (by omega) ⟨by omega, by omega, by omega⟩)) (GGw_reg (by omega) ⟨by omega, by omega, by omega⟩)
    have lo : ∀ l, l ≠ 154 → l ≠ 153 → l ≠ 155 → l ≠ 156 → (wi (wi (wi (wi wN 153 0) 155 ((c' : Nat) : Int)) 154 ((c' : Nat) : Int)) 156 ((nb 0 + (Hs 0).length : Nat) : Int)).1 l = wN.1 l := fun l h1 h2 h3 h4 => by rw [wi_1 h4, wi_1 h1, wi_1 h3, wi_1 h2]
    have lF : ∀ l, l ≠ 154 → l ≠ 153 → l ≠ 155 → l ≠ 156 → F (wi (wi (wi (wi wN 153 0) 155 ((c' : Nat) : Int)) 154 ((c' : Nat) : Int)) 156 ((nb 0 + (Hs 0).length : Nat) : Int)) l = F wN l := fun l h1 h2 h3 h4 => congrArg Int32.toInt (lo l h1 h2 h3 h4)
    have f153 : F (wi (wi (wi (wi wN 153 0) 155 ((c' : Nat) : Int)) 154 ((c' : Nat) : Int)) 156 ((nb 0 + (Hs 0).length : Nat) : Int)) 153 = ((0 : Nat) : Int) := by rw [wi_ne (by omega), wi_ne (by omega), wi_ne (by omega), wi_sm (by omega) (by omega)]; rfl
    have f154 : F (wi (wi (wi (wi wN 153 0) 155 ((c' : Nat) : Int)) 154 ((c' : Nat) : Int)) 156 ((nb 0 + (Hs 0).length : Nat) : Int)) 154 = ((c' : Nat) : Int) := by rw [wi_ne (by omega), wi_sm (by omega) (by omega)]
    have f156 : F (wi (wi (wi (wi wN 153 0) 155 ((c' : Nat) : Int)) 154 ((c' : Nat) : Int)) 156 ((nb 0 + (Hs 0).length : Nat) : Int)) 156 = ((nb 0 + (Hs 0).length + (Os 0).length : Nat) : Int) := by
      rw [eO, List.append_nil] at eB
      rw [wi_sm (by omega) (by omega), eO]
      rfl
    have rub : RUb m1 (wi (wi (wi (wi wN 153 0) 155 ((c' : Nat) : Int)) 154 ((c' : Nat) : Int)) 156 ((nb 0 + (Hs 0).length : Nat) : Int)) p 0 nb Hs Os none := ⟨fcx, ⟨vs, g4⟩, Or.inl ⟨rfl, v12, (lF 152 (by omega) (by omega) (by omega) (by omega)).trans g152⟩, ⟨v8, v9, (lF 151 (by omega) (by omega) (by omega) (by omega)).trans g151⟩, (lF 133 (by omega) (by omega) (by omega) (by omega)).trans g133, by rw [lo 165 (by omega) (by omega) (by omega) (by omega)]; exact hb6', by rw [lo 164 (by omega) (by omega) (by omega) (by omega)]; exact hb7'⟩
    have pl4 : PLs (bGd bb U ow' kd') p m1 (wa (wi (wi (wi (wi wN 153 0) 155 ((c' : Nat) : Int)) 154 ((c' : Nat) : Int)) 156 ((nb 0 + (Hs 0).length : Nat) : Int)) 94 p ((B : Nat) : Int)) U B W4 Y := plx.2
    have sc4 : SCs p (gmR m a ((b : Nat) : Int)) (gwR w p b) → SCs p m1 (wi (wi (wi (wi wN 153 0) 155 ((c' : Nat) : Int)) 154 ((c' : Nat) : Int)) 156 ((nb 0 + (Hs 0).length : Nat) : Int)) := scx
    have hp4 : hp (wi (wi (wi (wi wN 153 0) 155 ((c' : Nat) : Int)) 154 ((c' : Nat) : Int)) 156 ((nb 0 + (Hs 0).length : Nat) : Int)) p = hp w p := hpw
    have ro4 : ROs (wi (wi (wi (wi wN 153 0) 155 ((c' : Nat) : Int)) 154 ((c' : Nat) : Int)) 156 ((nb 0 + (Hs 0).length : Nat) : Int)) = ROs w := ro
    have j34 : (wi (wi (wi (wi wN 153 0) 155 ((c' : Nat) : Int)) 154 ((c' : Nat) : Int)) 156 ((nb 0 + (Hs 0).length : Nat) : Int)).2.2.2 34 = w.2.2.2 34 := l34
    have w140 : F (wi (wi (wi (wi wN 153 0) 155 ((c' : Nat) : Int)) 154 ((c' : Nat) : Int)) 156 ((nb 0 + (Hs 0).length : Nat) : Int)) 140 = -1 := (lF 140 (by omega) (by omega) (by omega) (by omega)).trans h140
    show PP _ (q67 (SAf T Fv P p) (M2 + 1) (qgo (SAf T Fv P p) (M2 + 1) M2) m1 p (I ((0 : Nat) : Int))) _
    generalize wi (wi (wi (wi wN 153 0) 155 ((c' : Nat) : Int)) 154 ((c' : Nat) : Int)) 156 ((nb 0 + (Hs 0).length : Nat) : Int) = w4 at *
    have tt : TRs m1 w4 p 0 nb Hs Os 0 0 a ((c' : Nat) : Int) := ⟨rub, v5, ⟨f153, f154, f156⟩, fun e => absurd e (by decide), ⟨by rw [eO]; exact List.nodup_nil, nd⟩, f, g, by rw [eO, m23, ro4, j34]; exact zr⟩
    have ih := goA (T := T) (Fv := Fv) (Fv' := Fv') (P := P) (AN := AN) (TT := TT) (CC := CC) (pM := pM) (pE := pE) (ND := ND) (CN := CN) (PN := PN) (SN := SN) (UN := UN) (FN := FN) (p := p) (N := M2 + 1) (by omega) (M2 + 1)
    exact tr_pp (by omega) (by omega) pr h149 hAN ih ba M2 (M2 + 1) 19 0 600000000 bb U B W4 Y 0 0 0 a nb Hs Os _ ow' kd' m1 w4 (by omega) lp tt pl4 eB (by rw [hp4]; exact xc.2.1) w140 (by have := pl.2.2.1.2.1; omega) gmM (GGw.tr gwN' gw4) sc4
end
end
section
set_option maxRecDepth 100000
def RHg (Fv : Int64 → Int64 → Prop) (P : Int64 → Prop) (Fv' : Int64 → Int64 → Prop) (AN : Nat) (m w m2 : MS) (r : Int32 ⊕ Nat) (w2 : MS) (r2 : Int32) : Prop := (∃ x, r = Sum.inl x ∧ r2 = x ∧ F w2 3 = 0 ∧ ∃ PR, FQs WTr PR Fv P Fv' (PWs AN) m2 w2 ∧ TBz m2 w2) ∨ ∃ k : Nat, r = Sum.inr k ∧ k ≤ 2 ∧ m2 = m ∧ w2 = wi w 3 (3 - ((k : Nat) : Int))
section
variable {T : TYc} {Fv Fv' : Int64 → Int64 → Prop} {P : Int64 → Prop} {AN : Nat} {TT : TY} {CC : CY} {pM pE : Nat → Nat} {ND CN PN SN UN FN N PR p b : Nat} {m w : MS}
theorem go_f3 (hp : p < PR) (hb : b ≤ 500) (rest : REST Fv' AN TT ND UN FN PR w) (per : PER Fv' AN TT CC pM pE ND CN PN SN UN FN w) (h3 : A w 109 p ≠ 3) (hN : 700000000000000 < N) : PK (fun v _ => F v 3 = 0) (fb_M_go_61 N (gg_M_go N N) w (I ((p : Nat) : Int)) (I ((b : Nat) : Int)) 0) := by
  have pr := rest.1.1.2
  have f3 : F (gwR w p b) 3 = 0 := by
    unfold gwR
    rw [wi_ne (by omega), wi_ne (by omega), wi_ne (by omega), wi_ne (by omega), wi_ne (by omega), wi_sm (by omega) (by omega)]
  have a3 : F (gwA w p b) 3 = 0 := f3
  have n3 : F (gwN w p b) 3 = 0 := f3
  have lp : ∀ u mm, mm ≤ 600000000000000 → GOI Fv' AN TT CC ND CN UN FN p mm u → PER Fv' AN TT CC pM pE ND CN PN SN UN FN u → F u 3 = 0 → PK (fun v _ => F v 3 = 0) (gg_M_go N N u (I ((p : Nat) : Int))) := fun u mm hm g q h => pk_mo (pk_ok (go_loop (N := N) (by omega) N mm u g q (by omega))) (fun v _ hv => by
    rw [FR.F hv.2 (by decide)]
    exact h)
  have core : PP (fun (_ : MS) (_ : Unit) w2 (_ : Int32) => F w2 3 = 0) (some (w, ())) (fb_M_go_61 N (gg_M_go N N) w (I ((p : Nat) : Int)) (I ((b : Nat) : Int)) 0) := by
    have two : ∀ {Z : Option (MS × Unit)}, PER Fv' AN TT CC pM pE ND CN PN SN UN FN (gwN w p b) → PK (fun u (_ : Unit) => RSW Fv' AN TT CC ND CN UN FN p 600000000000000 (gwN w p b) u ∧ ((F u 149 = 0 ∧ F u 150 = 0) ∨ A u 109 p = 3)) Z → PP (fun (_ : MS) (_ : Unit) w2 (_ : Int32) => F w2 3 = 0) (some (w, ())) (bnd Z (fun u _ => gg_M_go N N u (I ((p : Nat) : Int)))) := fun {Z} q pk m z w2 r e1 e2 => by
      cases Z with
      | none => cases e2
      | some y =>
        obtain ⟨u, y⟩ := y
        obtain ⟨⟨PR', hp', al, wd, gf⟩, c⟩ := pk u y rfl
        have e3 : gg_M_go N N u (I ((p : Nat) : Int)) = some (w2, r) := e2
        refine lp u 600000000000000 (Nat.le_refl _) ⟨PR', hp', al, wd, fun h1 h2 => ?_⟩ (PER_fr q gf (by decide) (by decide)) ?_ w2 r e3
        · rcases c with ⟨c1, c2⟩ | c
          · rw [c1, c2]
          · omega
        · rw [FR.F gf (by decide)]
          exact n3
    refine go_wst hp hb rest per h3 hN (fun h0 hal0 wd q => ?_) (fun h1 q j e95 e98 hq q2 pk => two q2 pk) (fun h5 c hc q2 pk => two q2 pk)
    obtain ⟨mm, hm, al⟩ := hal0
    have e149 : F (gwA w p b) 149 = 0 := by
      rw [← rest.2.2.1]
      exact congrArg Int32.toInt ((gwA_v (w := w) (p := p) (b := b) (by omega) hb).2.2.2.2.1 149 (by simp))
    have e150 : F (gwA w p b) 150 = 0 := by
      rw [← rest.2.2.2]
      exact congrArg Int32.toInt ((gwA_v (w := w) (p := p) (b := b) (by omega) hb).2.2.2.2.1 150 (by simp))
    exact fun m z w2 r e1 e2 => lp _ mm hm ⟨PR, hp, al, wd, fun _ _ => by rw [e149, e150]⟩ q a3 w2 r e2
  exact fun v r e => core w () v r rfl e
theorem mg_e (hp : p < 24) (h8 : F m (pq p 8) = A w 110 p) (h7 : F m (pq p 7) = A w 108 p) (dl : DLs (m.2.1 (pq p 10)) (w.2.2.2 111 p)) (hcl : m.1 944 = w.1 120) : ∃ r : Int32, (r = 0 ∨ r = 1) ∧ hm_Wl_isReady N m p = some (m, r) ∧ fm_M_mayGo N w (I ((p : Nat) : Int)) = some (w, r) := by
  have r8 := F_r m (pq p 8)
  have r7 := F_r m (pq p 7)
  have r110 := A_r w 110 p
  have r108 := A_r w 108 p
  have tnp : (I ((p : Nat) : Int)).toNatClampNeg = p := tnI (n := p) rfl (by omega)
  have i1 : inb (I ((p : Nat) : Int)) (ln 110) = true := inb_at (k := 110) (n := 24) rfl (by omega) (by omega) (by decide)
  have i2 : inb (I ((p : Nat) : Int)) (ln 108) = true := inb_at (k := 108) (n := 24) rfl (by omega) (by omega) (by decide)
  have i3 : inb (I ((p : Nat) : Int)) (ln 111) = true := inb_at (k := 111) (n := 24) rfl (by omega) (by omega) (by decide)
  have eM : fm_M_mayGo N w (I ((p : Nat) : Int)) = br (decide (A w 110 p < A w 108 p)) (some (w, 1)) (br (decide ((w.2.2.2 111 p).toInt < 0)) (some (w, 0)) (br (decide (((w.1 120).toInt64).toInt < (w.2.2.2 111 p).toInt)) (some (w, 0)) (some (w, 1)))) := by
    unfold fm_M_mayGo fb_M_mayGo_0 fb_M_mayGo_45 fb_M_mayGo_41 fb_M_mayGo_46
    simp only [i1, i2, i3, ck_t, isb0, isb1, tnp]
    rw [I_A (k := 110), I_A (k := 108), decL r110.1 r110.2 r108.1 r108.2, show decide (lg_cmp (w.2.2.2 111 p) 0 < 0) = decide ((w.2.2.2 111 p).toInt < 0) from decide_eq_decide.mpr (lgc_ltz _ _), show decide (lg_cmp ((w.1 120).toInt64) (w.2.2.2 111 p) < 0) = decide (((w.1 120).toInt64).toInt < (w.2.2.2 111 p).toInt) from decide_eq_decide.mpr (lgc_ltz _ _)]
  rw [eM]
  by_cases c1 : A w 110 p < A w 108 p
  · refine ⟨1, Or.inr rfl, ?_, ?_⟩
    · unfold hm_Wl_isReady hb_Wl_isReady_0 hb_Wl_isReady_35 hb_Wl_isReady_40
      rw [I_F (k := pq p 8), I_F (k := pq p 7), decL r8.1 r8.2 r7.1 r7.2, decide_eq_true (by omega), br_tq]
      rfl
    · rw [decide_eq_true c1, br_tq]
  · rw [isR_e (by omega), decide_eq_false c1, br_fq, hcl, dl.1]
    by_cases c2 : w.2.2.2 111 p = -1
    · refine ⟨0, Or.inl rfl, ?_, ?_⟩
      · rw [if_pos (Or.inl c2)]
      · rw [c2, show decide ((-1 : Int64).toInt < 0) = true from rfl, br_tq]
    · have c3 : 0 ≤ (w.2.2.2 111 p).toInt := dl.2.resolve_left c2
      rw [decide_eq_false (show ¬ (w.2.2.2 111 p).toInt < 0 by omega), br_fq]
      by_cases c4 : ((w.1 120).toInt64).toInt < (w.2.2.2 111 p).toInt
      · exact ⟨0, Or.inl rfl, by rw [if_pos (Or.inr c4)], by rw [decide_eq_true c4, br_tq]⟩
      · exact ⟨1, Or.inr rfl, by rw [if_neg (fun z => z.elim c2 c4)], by rw [decide_eq_false c4, br_fq]⟩
theorem pp_2s {α β : Type} {Q : MS → α → MS → β → Prop} {z : α} {r : β} (h : Q m z w r) : PP Q (some (m, z)) (some (w, r)) := fun _ _ _ _ e1 e2 => by
  cases e1
  cases e2
  exact h
theorem bad61 {G : MS → Int32 → Option (MS × Int32)} {v1 v2 : Int32} {x : Int} (h : x = 1 ∨ x = 2 ∨ x = 3) : fb_M_go_61 N G w v1 v2 (I x) = some (wi w 3 x, 0) := by
  unfold fb_M_go_61
  rw [wi_e, lt_e, wi_s1, show decide (I x = 0) = false from decide_eq_false (fun z => by
    rw [lit0q, I_eq (by omega) (by omega) (by omega) (by omega)] at z
    omega), br_fq]
theorem find_0 {x : Int} (h942 : F m 942 = ((PR : Nat) : Int)) (p24 : PR ≤ 24) (hx : -2147483648 ≤ x ∧ x < 2147483648) (h : ¬ (0 ≤ x ∧ x < ((PR : Nat) : Int))) : hm_Wl_find N m (I x) = some (m, none) := by
  unfold hm_Wl_find hb_Wl_find_0 hb_Wl_find_12 hb_Wl_find_22
  rw [lit0q, decL hx.1 hx.2 (by omega) (by omega), I_F' h942, decL hx.1 hx.2 (by omega) (by omega)]
  by_cases c : x < 0
  · rw [decide_eq_true c, br_tq]
  · rw [decide_eq_false c, br_fq, decide_eq_false (by omega), br_fq]
theorem isP_e {x : Int} (h118 : F w 87 ≠ 0 → F w 118 = ((PR : Nat) : Int)) (p24 : PR ≤ 24) (hx : -2147483648 ≤ x ∧ x < 2147483648) : fm_M_isProcess N w (I x) = some (w, if F w 87 ≠ 0 ∧ 0 ≤ x ∧ x < ((PR : Nat) : Int) then 1 else 0) := by
  have r87 := F_r w 87
  unfold fm_M_isProcess fb_M_isProcess_0 fb_M_isProcess_23 fb_M_isProcess_24
  rw [isb0, isb1, ck_t, ck_t]
  have e0 : decide (w.1 87 = 0) = decide (F w 87 = 0) := by
    rw [I_F (k := 87), lit0q, decE r87.1 r87.2 (by omega) (by omega)]
  have e1 : decide (I x < 0) = decide (x < 0) := by
    rw [lit0q, decL hx.1 hx.2 (by omega) (by omega)]
  rw [e0, e1]
  by_cases c : F w 87 = 0
  · rw [decide_eq_true c, br_tq, if_neg (fun z => z.1 c)]
  · have h := h118 c
    rw [decide_eq_false c, br_fq, I_F' h, decI (by omega) (by omega) hx.1 hx.2]
    by_cases c2 : x < 0
    · rw [decide_eq_true c2, br_tq, if_neg (by omega)]
    · rw [decide_eq_false c2, br_fq]
      by_cases c3 : ((PR : Nat) : Int) ≤ x
      · rw [decide_eq_true c3, br_tq, if_neg (by omega)]
      · rw [decide_eq_false c3, br_fq, if_pos ⟨c, by omega, by omega⟩]
theorem go_pp {v1 v2 : Int32} (hN : 700000000000000 < N) (n87 : F w 87 ≠ 0) (W : WRD T Fv P PR m) (rest : REST Fv' AN TT ND UN FN PR w) (per : PER Fv' AN TT CC pM pE ND CN PN SN UN FN w) (fq : FQs WTr PR Fv P Fv' (PWs AN) m w) (tb : TBz m w) : PP (RHg Fv P Fv' AN m w) (hm_H_go N m v1 v2) (fm_M_go N w v1 v2) := by
  obtain ⟨x1, e1, hx1⟩ : ∃ x1 : Int, v1 = I x1 ∧ (-2147483648 ≤ x1 ∧ x1 < 2147483648) := ⟨v1.toInt, I_of v1, ti_rng v1⟩
  obtain ⟨x2, e2, hx2⟩ : ∃ x2 : Int, v2 = I x2 ∧ (-2147483648 ≤ x2 ∧ x2 < 2147483648) := ⟨v2.toInt, I_of v2, ti_rng v2⟩
  subst e1
  subst e2
  have pr := rest.1.1.2
  have d0 : decide (I x2 < 0) = decide (x2 < 0) := by
    rw [lit0q, decL hx2.1 hx2.2 (by omega) (by omega)]
  have d5 : decide (I x2 ≤ 500) = decide (x2 ≤ 500) := by
    rw [show (500 : Int32) = I 500 from rfl, decI hx2.1 hx2.2 (by omega) (by omega)]
  have b2 : RHg Fv P Fv' AN m w m (Sum.inr 2) (wi w 3 1) 0 := Or.inr ⟨2, rfl, by omega, rfl, rfl⟩
  have b1 : RHg Fv P Fv' AN m w m (Sum.inr 1) (wi w 3 2) 0 := Or.inr ⟨1, rfl, by omega, rfl, rfl⟩
  have b0 : RHg Fv P Fv' AN m w m (Sum.inr 0) (wi w 3 3) 0 := Or.inr ⟨0, rfl, by omega, rfl, rfl⟩
  unfold hm_H_go hb_H_go_0 hb_H_go_11 fm_M_go fb_M_go_0 fb_M_go_12
  rw [d0, d5, show (1 : Int32) = I 1 from rfl, bad61 (Or.inl rfl)]
  by_cases c0 : x2 < 0
  · rw [decide_eq_true c0, br_tq, br_tq]
    exact pp_2s b2
  rw [decide_eq_false c0, br_fq, br_fq]
  by_cases c5 : x2 ≤ 500
  rotate_left
  · rw [decide_eq_false c5, br_fq, br_fq]
    exact pp_2s b2
  rw [decide_eq_true c5, br_tq, br_tq]
  obtain ⟨b, rfl⟩ : ∃ b : Nat, x2 = ((b : Nat) : Int) := ⟨x2.toNat, by omega⟩
  have hb : b ≤ 500 := by omega
  rw [isP_e (PR := PR) (fun _ => rest.1.1.1) pr hx1, bnd_so]
  by_cases cq : 0 ≤ x1 ∧ x1 < ((PR : Nat) : Int)
  rotate_left
  · rw [find_0 W.1.1.1.1 pr hx1 cq, bnd_so, if_neg (fun z => cq z.2), show (2 : Int32) = I 2 from rfl, bad61 (Or.inr (Or.inl rfl))]
    exact pp_2s b1
  obtain ⟨p, rfl⟩ : ∃ p : Nat, x1 = ((p : Nat) : Int) := ⟨x1.toNat, by omega⟩
  have hp : p < PR := by omega
  rw [find_e W.1 hp, bnd_so, if_pos ⟨n87, cq⟩, show decide ((some p : Option Nat) = none) = false from rfl, br_fq, show decide ((1 : Int32) = 0) = false from rfl, br_fq, show ∀ f : Nat → Option (MS × (Int32 ⊕ Nat)), bo (some p) f = f p from fun _ => rfl]
  have in9 : inb (I ((p : Nat) : Int)) (ln 109) = true := inb_at (k := 109) (n := 24) rfl (by omega) (by omega) (by decide)
  have tnp : (I ((p : Nat) : Int)).toNatClampNeg = p := tnI (n := p) rfl (by omega)
  have r9 := A_r w 109 p
  have q9 := F_r m (pq p 9)
  unfold hb_H_go_71 fb_M_go_56 fb_M_go_60
  rw [in9, ck_t, ck_t, tnp, show (3 : Int32) = I 3 from rfl, bad61 (Or.inr (Or.inr rfl)), I_A (k := 109), decE r9.1 r9.2 (by omega) (by omega), decE r9.1 r9.2 (by omega) (by omega), I_F (k := pq p 9), decE q9.1 q9.2 (by omega) (by omega), decE q9.1 q9.2 (by omega) (by omega)]
  have fin : F m (pq p 9) ≠ 3 → A w 109 p ≠ 3 → PP (RHg Fv P Fv' AN m w) (hb_H_go_81 N () m (I ((b : Nat) : Int)) p) (fb_M_go_61 N (gg_M_go N N) w (I ((p : Nat) : Int)) (I ((b : Nat) : Int)) 0) := fun hal hal' m2 z w2 r e1 e2 => by
    unfold hb_H_go_81 at e1
    cases hX : hm_Ma_goOn N m p (I ((b : Nat) : Int)) with
    | none =>
      rw [hX] at e1
      cases e1
    | some y =>
      obtain ⟨m3, z3⟩ := y
      rw [hX] at e1
      cases e1
      obtain ⟨er, PR2, -, fq2, tb2⟩ := go_st hN hp hb W rest per fq tb hal m3 z3 w2 r hX e2
      exact Or.inl ⟨z3, rfl, er.symm, go_f3 hp hb rest per hal' hN w2 r e2, PR2, fq2, TBz_of tb2⟩
  obtain ⟨i, WL, -, -, -, -⟩ := id fq
  rcases WL.2.2.1 p hp with ⟨y1, y2, bb, U, B, W4, Y, pl, sc, j, nb, Hs, Os, fa, ct, a, ha, st⟩ | ⟨y1, y2, -⟩
  · rw [decide_eq_false y1, br_fq, decide_eq_false y2, br_fq]
    rcases st with ⟨s1, s2, -⟩ | ⟨s1, s2, -⟩ | ⟨s1, s2, -, s8, dl, -⟩
    · rw [decide_eq_false (by omega), br_fq, decide_eq_false (by omega), br_fq]
      exact fin y1 y2
    · rw [decide_eq_false (by omega), br_fq, decide_eq_false (by omega), br_fq]
      exact fin y1 y2
    · rw [decide_eq_true s1, br_tq, decide_eq_true s2, br_tq]
      obtain ⟨r, hr, g1, g2⟩ := mg_e (N := N) (by omega) s8 (pl.2.2.2.1.trans pl.2.2.2.2.1.symm) dl tb.2.2.1.1.1
      rw [g1, bnd_so, g2, bnd_so]
      rcases hr with rfl | rfl
      · rw [show decide ((0 : Int32) = 0) = true from rfl, br_tq, br_tq, bad61 (Or.inr (Or.inr rfl))]
        exact pp_2s b0
      · rw [show decide ((1 : Int32) = 0) = false from rfl, br_fq, br_fq]
        exact fin y1 y2
  · rw [decide_eq_true y1, br_tq, decide_eq_true y2, br_tq]
    exact pp_2s b0
theorem go_p0 {v1 v2 : Int32} (n87 : F w 87 = 0) (h942 : F m 942 = 0) : PP (RHg Fv P Fv' AN m w) (hm_H_go N m v1 v2) (fm_M_go N w v1 v2) := by
  obtain ⟨x1, e1, hx1⟩ : ∃ x1 : Int, v1 = I x1 ∧ (-2147483648 ≤ x1 ∧ x1 < 2147483648) := ⟨v1.toInt, I_of v1, ti_rng v1⟩
  obtain ⟨x2, e2, hx2⟩ : ∃ x2 : Int, v2 = I x2 ∧ (-2147483648 ≤ x2 ∧ x2 < 2147483648) := ⟨v2.toInt, I_of v2, ti_rng v2⟩
  subst e1
  subst e2
  have d0 : decide (I x2 < 0) = decide (x2 < 0) := by
    rw [lit0q, decL hx2.1 hx2.2 (by omega) (by omega)]
  have d5 : decide (I x2 ≤ 500) = decide (x2 ≤ 500) := by
    rw [show (500 : Int32) = I 500 from rfl, decI hx2.1 hx2.2 (by omega) (by omega)]
  have b2 : RHg Fv P Fv' AN m w m (Sum.inr 2) (wi w 3 1) 0 := Or.inr ⟨2, rfl, by omega, rfl, rfl⟩
  have b1 : RHg Fv P Fv' AN m w m (Sum.inr 1) (wi w 3 2) 0 := Or.inr ⟨1, rfl, by omega, rfl, rfl⟩
  unfold hm_H_go hb_H_go_0 hb_H_go_11 fm_M_go fb_M_go_0 fb_M_go_12
  rw [d0, d5, show (1 : Int32) = I 1 from rfl, bad61 (Or.inl rfl)]
  by_cases c0 : x2 < 0
  · rw [decide_eq_true c0, br_tq, br_tq]
    exact pp_2s b2
  rw [decide_eq_false c0, br_fq, br_fq]
  by_cases c5 : x2 ≤ 500
  rotate_left
  · rw [decide_eq_false c5, br_fq, br_fq]
    exact pp_2s b2
  rw [decide_eq_true c5, br_tq, br_tq, isP_e (PR := 0) (fun h => absurd n87 h) (by omega) hx1, bnd_so, find_0 (PR := 0) h942 (by omega) hx1 (by omega), bnd_so, if_neg (fun z => z.1 n87), show (2 : Int32) = I 2 from rfl, bad61 (Or.inr (Or.inl rfl))]
  exact pp_2s b1
end
end
section
set_option maxRecDepth 100000
def RHc (Fv : Int64 → Int64 → Prop) (P : Int64 → Prop) (Fv' : Int64 → Int64 → Prop) (AN PR : Nat) (m w m2 : MS) (r : Int32 ⊕ Nat) (w2 : MS) (r2 : Int32) : Prop := (∃ x : Int, r = Sum.inl (I x) ∧ r2 = I x ∧ F w2 3 = 0 ∧ (m2 = wi m 944 x ∧ w2 = wi (wi w 3 0) 120 x) ∧ FQs WTr PR Fv P Fv' (PWs AN) m2 w2 ∧ TBz m2 w2) ∨ ∃ k : Nat, r = Sum.inr k ∧ (k = 0 ∨ k = 2) ∧ m2 = m ∧ w2 = wi w 3 (if k = 0 then 2 else 1)
section
variable {Fv Fv' : Int64 → Int64 → Prop} {P P' : Int64 → Prop} {AN N PR i j0 : Nat} {m w : MS} {RR : Nat → MS → MS → Prop} {cur : Option Nat} {x x1 x2 : Int}
theorem WL_944 (W0 : WLs RR PR Fv P Fv' P' cur i j0 m w) : WLs RR PR Fv P Fv' P' cur i j0 (wi m 944 x1) (wi w 120 x2) := by
  obtain ⟨⟨d, cx⟩, ⟨dw, lk, wt⟩, pb⟩ := W0.1
  have f1 : FR [944] [] [] [] m (wi m 944 x1) := FR.wi FR.rf (by simp)
  have f2 : FR [120] [] [] [] w (wi w 120 x2) := FR.wi FR.rf (by simp)
  have fc : FC 0 [944] [] [] [] [] [] [] m (wi m 944 x1) := FC.of f1 (by simp) (by simp) (by simp) (by simp)
  have d2 : DWc Fv P PR (wi m 944 x1) := DWc_gl d fc (by simp) (by simp) (fun h0 => by
    have := (d.2 0 h0).1
    unfold SMQ at this ⊢
    rw [fc.Fq (by omega) (by simp), fc.Fq (by omega) (by simp), fc.Fq (by omega) (by simp), fc.Fq (by omega) (by simp)]
    exact this) (by simp) (by rw [fc.Fg (by omega) (by simp)]; exact d.1.2.2.1) (by rw [fc.Fg (by omega) (by simp)]; exact ⟨d.1.2.2.2.1.2.1, d.1.2.2.2.1.2.2⟩) (by simp)
  have lm : ∀ d, LOCm d m (wi m 944 x1) := fun d k hk => ⟨wi_1 (fun c => pq_n (by omega) c.symm), rfl, rfl, rfl⟩
  have lw : ∀ d, LOCw d w (wi w 120 x2) := fun d => ⟨fun _ _ _ => rfl, fun _ _ => rfl, fun _ _ _ => rfl, rfl, fun _ _ _ => rfl, fun _ _ _ => rfl, fun _ _ _ => rfl, fun _ _ _ => rfl⟩
  exact WL_same W0 ⟨⟨d2, CTX_fr cx (f1.1 22 (by simp)) rfl⟩, ⟨DW_fr dw f2 (by simp) (by simp) (by simp) (by simp) (by simp) (by simp) (by simp) (by simp) (by simp) (by simp) (by simp) (by simp) (by simp) (by simp) (by simp) (by simp) (by simp), LK_fr lk f2 (by simp) (by simp), WTQ_fr wt f2 (by simp) (by simp) (by simp)⟩, pb⟩ (PGs_fr f1 f2 (by simp) (by simp) (by simp) (by simp) (by simp) (by simp)) lm lw (f1.1 955 (by simp)) rfl (f2.1 150 (by simp)) (fun _ _ => rfl) rfl
theorem FQ_944 (h : FQs RR PR Fv P Fv' P' m w) : FQs RR PR Fv P Fv' P' (wi m 944 x1) (wi (wi w 3 0) 120 x2) := by
  obtain ⟨i, W, ⟨h1, h2⟩, ⟨h3, h4⟩, cn, wt⟩ := h
  have f : FR [944] [] [] [] m (wi m 944 x1) := FR.wi FR.rf (by simp)
  have g : FR [3, 120] [] [] [] w (wi (wi w 3 0) 120 x2) := FR.wi (FR.wi FR.rf (by simp)) (by simp)
  have at2 : ATM (wi (wi w 3 0) 120 x2) := by
    have := cn.2.1
    unfold ATM at this ⊢
    rw [FR.F g (by simp)]
    exact this
  exact ⟨i, WL_944 (WL_w3 W), ⟨by rw [FR.F f (by simp)]; exact h1, by rw [FR.F f (by simp)]; exact h2⟩, ⟨by rw [FR.F g (by simp)]; exact h3, by rw [FR.F g (by simp)]; exact h4⟩, CN_pg cn (PG0_fr f g (by simp) (by simp) (by simp) (by simp) (by simp)) at2, WTs_st wt (f.1 950 (by simp)) (fun k _ => rfl) (g.1 125 (by simp)) (fun k _ => rfl)⟩
theorem TB_944 (h : TBz m w) (hx : 0 ≤ x ∧ x < 2147483648) : TBz (wi m 944 x) (wi (wi w 3 0) 120 x) := by
  obtain ⟨t1, t2, ⟨t3, t4, t5⟩, fa, na, t7⟩ := h
  have f : FR [944] [] [] [] m (wi m 944 x) := FR.wi FR.rf (by simp)
  have g : FR [3, 120] [] [] [] w (wi (wi w 3 0) 120 x) := FR.wi (FR.wi FR.rf (by simp)) (by simp)
  refine ⟨TB_tab t1 ⟨f.1 442 (by simp), f.1 449 (by simp)⟩ (fun _ _ => rfl) (fun _ _ => rfl) rfl, PN_st t2 (f.1 953 (by simp)) (fun _ _ => rfl) (g.1 128 (by simp)) (fun _ _ => rfl), ⟨⟨?_, ?_⟩, by rw [f.1 945 (by simp), g.1 121 (by simp)]; exact t4, by rw [f.1 946 (by simp), g.1 119 (by simp)]; exact t5⟩, fa, na, ATf_k t7 (f.1 22 (by simp)) rfl rfl (g.1 14 (by simp)) rfl rfl⟩
  · rw [wi_s1, wi_s1]
  · rw [wi_sm (by omega) (by omega)]
    exact hx.1
theorem badc {v : Int32} (h : x = 1 ∨ x = 2) : fb_M_clock_50 N () w v (I x) = some (wi w 3 x, 0) := by
  unfold fb_M_clock_50
  rw [wi_e, lt_e, wi_s1, show decide (I x = 0) = false from decide_eq_false (fun z => by
    rw [lit0q, I_eq (by omega) (by omega) (by omega) (by omega)] at z
    omega), br_fq]
theorem i64_ti {y : Int} (h : -2147483648 ≤ y ∧ y < 2147483648) : ((I y).toInt64).toInt = y := by
  rw [Int32.toInt_toInt64, I_ti h.1 h.2]
theorem clk_pp {v : Int32} (hb : F m 943 = 0 ↔ F w 87 = 0) (hf : F w 87 ≠ 0 → FQs WTr PR Fv P Fv' (PWs AN) m w ∧ TBz m w) (h944 : 0 ≤ F m 944 ∧ F m 944 ≤ 1000000000) (h0 : F w 87 = 0 → F m 944 = 0) : PP (RHc Fv P Fv' AN PR m w) (hm_H_clock N m v) (fm_M_clock N w v) := by
  obtain ⟨x, rfl, hx⟩ : ∃ x : Int, v = I x ∧ (-2147483648 ≤ x ∧ x < 2147483648) := ⟨v.toInt, I_of v, ti_rng v⟩
  have r87 := F_r w 87
  have r943 := F_r m 943
  have d0 : decide (I x < 0) = decide (x < 0) := by
    rw [lit0q, decL hx.1 hx.2 (by omega) (by omega)]
  have d1 : decide ((1000000000 : Int32) < I x) = decide (1000000000 < x) := by
    rw [show (1000000000 : Int32) = I 1000000000 from rfl, decL (by omega) (by omega) hx.1 hx.2]
  have d2 : decide (I x ≤ 1000000000 - m.1 944) = decide (x ≤ 1000000000 - F m 944) := by
    rw [show (1000000000 : Int32) = I 1000000000 from rfl, I_F (k := 944), I_sub, decI hx.1 hx.2 (by omega) (by omega)]
  have d3 : decide (w.1 87 = 0) = decide (F w 87 = 0) := by
    rw [I_F (k := 87), lit0q, decE r87.1 r87.2 (by omega) (by omega)]
  have d4 : decide (m.1 943 = 0) = decide (F m 943 = 0) := by
    rw [I_F (k := 943), lit0q, decE r943.1 r943.2 (by omega) (by omega)]
  have b2 : RHc Fv P Fv' AN PR m w m (Sum.inr 2) (wi w 3 1) 0 := Or.inr ⟨2, rfl, Or.inr rfl, rfl, rfl⟩
  have b0 : RHc Fv P Fv' AN PR m w m (Sum.inr 0) (wi w 3 2) 0 := Or.inr ⟨0, rfl, Or.inl rfl, rfl, rfl⟩
  have c1 : fb_M_clock_34 N () w (I x) = some (wi w 3 1, 0) := badc (Or.inl rfl)
  unfold hm_H_clock hb_H_clock_0 hb_H_clock_24 fm_M_clock fb_M_clock_0
  rw [d0, d1, d2, d3, d4, c1]
  by_cases z0 : x < 0
  · rw [decide_eq_true z0, br_tq, br_tq]
    exact pp_2s b2
  rw [decide_eq_false z0, br_fq, br_fq]
  by_cases z1 : 1000000000 < x
  · rw [decide_eq_true z1, br_tq, br_tq]
    exact pp_2s b2
  rw [decide_eq_false z1, br_fq, br_fq]
  by_cases z3 : F w 87 = 0
  · have e := h0 z3
    unfold fb_M_clock_38
    rw [decide_eq_true z3, br_tq, d3, decide_eq_true z3, br_tq, decide_eq_true (by omega), br_tq, decide_eq_true (hb.mpr z3), br_tq, show (2 : Int32) = I 2 from rfl, badc (Or.inr rfl)]
    exact pp_2s b0
  obtain ⟨fq, tb⟩ := hf z3
  have e120 : w.1 120 = I (F m 944) := by
    rw [← tb.2.2.1.1.1]
    exact I_F
  have d5 : decide (lg_cmp ((w.1 120).toInt64 + (I x).toInt64) 1000000000 ≤ 0) = decide (x ≤ 1000000000 - F m 944) := by
    refine decide_eq_decide.mpr ?_
    have s : ((w.1 120).toInt64 + (I x).toInt64).toInt = F m 944 + x := by
      rw [Int64.toInt_add, e120, i64_ti ⟨by omega, by omega⟩, i64_ti hx]
      exact Int.bmod_eq_of_le (by omega) (by omega)
    have k := lgc_gtz ((w.1 120).toInt64 + (I x).toInt64) 1000000000
    rw [s] at k
    have e9 : (1000000000 : Int64).toInt = 1000000000 := rfl
    rw [e9] at k
    constructor
    · intro h
      by_cases c : x ≤ 1000000000 - F m 944
      · exact c
      · have := k.mpr (by omega)
        exact absurd h (by
          intro h2
          exact absurd (Int32.lt_iff_toInt_lt.mp this) (by
            have := Int32.le_iff_toInt_le.mp h2
            omega))
    · intro h
      by_cases c : 0 < lg_cmp ((w.1 120).toInt64 + (I x).toInt64) 1000000000
      · have := k.mp c
        omega
      · rw [Int32.le_iff_toInt_le]
        rw [Int32.lt_iff_toInt_lt] at c
        omega
  rw [decide_eq_false z3, br_fq, d5]
  by_cases z5 : x ≤ 1000000000 - F m 944
  · unfold fb_M_clock_38
    rw [decide_eq_true z5, br_tq, br_tq, decide_eq_false (fun z => z3 (hb.mp z)), br_fq, d3, decide_eq_false z3, br_fq]
    unfold fb_M_clock_50
    rw [lt_e, show upI w 3 0 = wi w 3 0 from rfl, lt_e, show decide ((wi w 3 0).1 3 = 0) = true from rfl, br_tq, lt_e]
    have e1 : (wi w 3 0).1 120 = I (F m 944) := by
      rw [wi_1 (by omega)]
      exact e120
    rw [e1, I_add, I_F (k := 944), I_add, wi_e, wi_e]
    refine pp_2s (Or.inl ⟨F m 944 + x, ?_, ?_, ?_, ⟨rfl, rfl⟩, FQ_944 fq, TB_944 tb ⟨by omega, by omega⟩⟩)
    · rw [wi_s1]
    · rw [wi_s1]
    · rw [wi_ne (by omega), wi_sm (by omega) (by omega)]
  · rw [decide_eq_false z5, br_fq, br_fq]
    exact pp_2s b2
end
end
section
set_option maxRecDepth 100000
def clS (m : MS) : MS := wi (wi (wi (wi (wi (wi (wi (wi (wi m 942 0) 943 0) 944 0) 945 0) 946 0) 950 0) 953 0) 955 0) 956 0
def bgW (w : MS) : MS := wi (wi (wi (wi (wi (wi (wi (wi (wi (wi w 3 0) 87 1) 118 0) 119 0) 120 0) 121 0) 125 0) 128 0) 149 0) 150 0
def bgX (w : MS) (f : Nat) : MS := wa (wa (npS (bgW w) 0) 96 0 ((f : Nat) : Int)) 170 0 (-1)
def BGm (m m2 : MS) (f : Nat) : Prop := (∃ e : Nat, A m 29 f = ((e : Nat) : Int) ∧ NWm 0 e 0 ((f : Nat) : Int) [] m2) ∧ F m2 (pq 0 4) = 0 ∧ (∀ k, k < 940 → m2.1 k = m.1 k) ∧ (∀ K, K < 100 → m2.2.2.1 K = m.2.2.1 K) ∧ (F m2 942 = 1 ∧ m2.1 943 = I 1 ∧ m2.1 944 = I 0 ∧ m2.1 945 = I 0 ∧ m2.1 946 = I 0) ∧ (m2.1 950 = I 0 ∧ m2.1 953 = I 0 ∧ F m2 955 = 0 ∧ F m2 956 = 0)
def TXz (P P' : Int64 → Prop) (m w : MS) : Prop := (FTs m w ∧ FAr m w ∧ FUs m w) ∧ CNq P P' m w ∧ (∃ fa na, ATf m w fa na) ∧ F m 442 = F w 52
def RHb (Fv : Int64 → Int64 → Prop) (P : Int64 → Prop) (Fv' : Int64 → Int64 → Prop) (AN : Nat) (m w m2 : MS) (z : Unit ⊕ Nat) (w2 : MS) (_ : Unit) : Prop := (∃ f : Nat, z = Sum.inl () ∧ w2 = bgX w f ∧ BGm m m2 f ∧ FQs WTr 1 Fv P Fv' (PWs AN) m2 w2 ∧ TBz m2 w2 ∧ F w2 3 = 0) ∨ ∃ k : Nat, z = Sum.inr k ∧ k ≤ 2 ∧ m2 = m ∧ w2 = wi w 3 (((k : Nat) : Int) + 1)
section
variable {T : TYc} {Fv Fv' : Int64 → Int64 → Prop} {P : Int64 → Prop} {AN : Nat} {TT : TY} {CC : CY} {pM pE : Nat → Nat} {ND CN PN SN UN FN N PR f : Nat} {m w m2 : MS} {x : Int}
theorem born_nn (h : F m 942 < 24) : PK (fun _ r => r ≠ none) (hm_Wl_born N m) := by
  have r := F_r m 942
  have k43 : ∀ u, PK (fun _ r => r ≠ none) (hb_Wl_born_43 N () u) := fun u => by
    unfold hb_Wl_born_43
    refine pk_ck (fun _ => ?_)
    cases h : rf (u.2.2.1 1948 (u.1 942).toNatClampNeg) with
    | none => exact fun _ _ e => by cases e
    | some j =>
      rw [bo_s]
      exact pk_bnd (fun v _ _ => pk_ltq (pk_some (fun c => by cases c)))
  unfold hm_Wl_born hb_Wl_born_0
  rw [show decide (m.1 942 < 24) = true from decide_eq_true (by
    rw [I_F (k := 942), show (24 : Int32) = I 24 from rfl, I_lt r.1 r.2 (by omega) (by omega)]
    exact h), br_tq]
  exact pk_ck (fun _ => pk_br (fun _ => k43 _) (fun _ => k43 _))
theorem isF_e (hx : -2147483648 ≤ x ∧ x < 2147483648) : hm_H_isFunction N m (I x) = some (m, if F m 10 ≠ 0 ∧ 0 ≤ x ∧ x < F m 442 then 1 else 0) := by
  have r10 := F_r m 10
  have r442 := F_r m 442
  unfold hm_H_isFunction hb_H_isFunction_0 hb_H_isFunction_26 hb_H_isFunction_27
  rw [isb0, isb1, ck_t, ck_t]
  have e0 : decide (m.1 10 = 0) = decide (F m 10 = 0) := by
    rw [I_F (k := 10), lit0q, decE r10.1 r10.2 (by omega) (by omega)]
  have e1 : decide (I x < 0) = decide (x < 0) := by
    rw [lit0q, decL hx.1 hx.2 (by omega) (by omega)]
  rw [e0, e1, I_F (k := 442), decI r442.1 r442.2 hx.1 hx.2]
  by_cases c : F m 10 = 0
  · rw [decide_eq_true c, br_tq, if_neg (fun z => z.1 c)]
  · rw [decide_eq_false c, br_fq]
    by_cases c2 : x < 0
    · rw [decide_eq_true c2, br_tq, if_neg (by omega)]
    · rw [decide_eq_false c2, br_fq]
      by_cases c3 : F m 442 ≤ x
      · rw [decide_eq_true c3, br_tq, if_neg (by omega)]
      · rw [decide_eq_false c3, br_fq, if_pos ⟨c, by omega, by omega⟩]
theorem clS_v : (clS m).1 943 = I 0 ∧ (clS m).1 944 = I 0 ∧ (clS m).1 945 = I 0 ∧ (clS m).1 946 = I 0 ∧ (clS m).1 950 = I 0 ∧ (clS m).1 953 = I 0 ∧ (clS m).1 955 = I 0 ∧ (clS m).1 956 = I 0 ∧ F (clS m) 942 = 0 := by
  unfold clS
  refine ⟨?_, ?_, ?_, ?_, ?_, ?_, ?_, ?_, ?_⟩
  · rw [wi_1 (by omega), wi_1 (by omega), wi_1 (by omega), wi_1 (by omega), wi_1 (by omega), wi_1 (by omega), wi_1 (by omega), wi_s1]
  · rw [wi_1 (by omega), wi_1 (by omega), wi_1 (by omega), wi_1 (by omega), wi_1 (by omega), wi_1 (by omega), wi_s1]
  · rw [wi_1 (by omega), wi_1 (by omega), wi_1 (by omega), wi_1 (by omega), wi_1 (by omega), wi_s1]
  · rw [wi_1 (by omega), wi_1 (by omega), wi_1 (by omega), wi_1 (by omega), wi_s1]
  · rw [wi_1 (by omega), wi_1 (by omega), wi_1 (by omega), wi_s1]
  · rw [wi_1 (by omega), wi_1 (by omega), wi_s1]
  · rw [wi_1 (by omega), wi_s1]
  · rw [wi_s1]
  · rw [wi_ne (by omega), wi_ne (by omega), wi_ne (by omega), wi_ne (by omega), wi_ne (by omega), wi_ne (by omega), wi_ne (by omega), wi_ne (by omega), wi_sm (by omega) (by omega)]
theorem bg_m (W : WRD T Fv P PR m) (h10 : F m 10 ≠ 0) (hf : ((f : Nat) : Int) < F m 442) (h25 : A m 25 f = 0) : PK (fun m2 z => z = Sum.inl () ∧ BGm m m2 f) (hm_H_begin N m (I ((f : Nat) : Int))) := by
  have c442 := W.2.2.2.1.1
  obtain ⟨a, e, ea, ee, et⟩ := W.2.2.2.1.2.1 f hf
  have he : e < 24000 := (W.2.2.1 _ _ _ _ _ _ et).1.2
  have r10 := F_r m 10
  have e10 : decide (m.1 10 = 0) = false := decide_eq_false (fun z => h10 (by
    have := congrArg Int32.toInt z
    exact this))
  unfold hm_H_begin hb_H_begin_0 hb_H_begin_102
  rw [e10, br_fq, isF_e ⟨by omega, by omega⟩, bnd_so, if_pos ⟨h10, by omega, hf⟩, show decide ((1 : Int32) = 0) = false from rfl, br_fq]
  refine pk_ck (fun _ => ?_)
  rw [tnI (n := f) rfl (by omega), I_A' h25, show decide (I 0 = 0) = true from rfl, br_tq]
  have ec : hm_Wl_clearAll N m = some (clS m, ()) := rfl
  obtain ⟨W1, f1⟩ := pk_ok (clearAll_ok (N := N) W) _ _ ec
  rw [ec, bnd_so, lt_e, show upI (clS m) 943 1 = wi (clS m) 943 1 from rfl]
  have f2 : FC 0 [943] [] [] [] [] [] [] (clS m) (wi (clS m) 943 1) := FC.wi_g FC.rf (by omega) (by simp)
  have W2 : WRD T Fv P 0 (wi (clS m) 943 1) := WRD_g W1 f2 (DWc_g0 W1.1 f2 (by simp) (by simp)) (by simp) (by simp)
  obtain ⟨-, v4, v5, v6, v0, v3, v55, v56, v42⟩ := clS_v (m := m)
  have g1 : ∀ k, k ≠ 943 → (wi (clS m) 943 1).1 k = (clS m).1 k := fun k h => wi_1 h
  have g43 : (wi (clS m) 943 1).1 943 = I 1 := wi_s1
  have q42 : F (wi (clS m) 943 1) 942 = 0 := by
    rw [wi_ne (by omega)]
    exact v42
  generalize wi (clS m) 943 1 = mC at *
  refine pk_bnd (pk_mo (pk_andq (pk_andq (pk_ok (bornc_ok (N := N) W2.1 W2.2.2.2.2.2)) born_v) (born_nn (by omega))) (fun m0 r h => ?_))
  obtain ⟨⟨h1, h2⟩, h3⟩ := h
  rcases h1 with ⟨rfl, -⟩ | ⟨rfl, hP, d0, f0, al0, z0, p0⟩
  · exact absurd rfl h3
  have bv := h2 0 rfl
  rw [show decide ((some 0 : Option Nat) = none) = false from rfl, br_fq, bo_s]
  refine pk_ck (fun _ => ?_)
  have e29 : m0.2.2.1 29 f = I ((e : Nat) : Int) := by
    rw [f0.2.2.1 29 (by omega) (by simp), f2.2.2.1 29 (by omega) (by simp), f1.2.2.1 29 (by omega) (by simp)]
    exact I_A' ee
  rw [e29, show (0 : Int32) = I ((0 : Nat) : Int) from rfl, open_e (j := 0) (B := 0) (P0 := 0) (ar := 0) (z0 21 (by simp)) (by omega) (z0 24 (by simp)) (z0 26 (by simp)), bnd_so]
  have z24 : F (opS m0 0 0 0 0 (I ((f : Nat) : Int)) (I ((e : Nat) : Int))) (pq 0 24) = ((0 : Nat) : Int) := (congrArg Int32.toInt (opS_1 (pq_inj (by omega)))).trans (z0 24 (by simp))
  have oI : ∀ k, k < 2000 → k ≠ 942 → (opS m0 0 0 0 0 (I ((f : Nat) : Int)) (I ((e : Nat) : Int))).1 k = mC.1 k := fun k h1 h2 => (opS_1 (pq_n h1)).trans (f0.1 k h1 (by simpa using h2))
  refine pk_some ⟨rfl, ⟨e, ee, nw_m (fn := I ((f : Nat) : Int)) z0 bv FR.rf FC.rf (I_ti (by omega) (by omega)) (by omega) z24 (fun i x h => by simp at h)⟩, ?_, fun k hk => ?_, fun K hK => ?_, ⟨?_, ?_, ?_, ?_, ?_⟩, ?_, ?_, ?_, ?_⟩
  · exact (congrArg Int32.toInt (opS_1 (pq_inj (by omega)))).trans (z0 4 (by simp))
  · rw [oI k (by omega) (by omega), g1 k (by omega)]
    exact f1.1 k (by omega) (by simp; omega)
  · rw [opS_A (pq_n (by omega)), f0.2.2.1 K (by omega) (by simp; omega), f2.2.2.1 K (by omega) (by simp)]
    exact f1.2.2.1 K (by omega) (by simp)
  · rw [show F (opS m0 0 0 0 0 (I ((f : Nat) : Int)) (I ((e : Nat) : Int))) 942 = F m0 942 from congrArg Int32.toInt (opS_1 (pq_n (by omega))), d0.1.1.1]
    rfl
  · rw [oI 943 (by omega) (by omega)]
    exact g43
  · rw [oI 944 (by omega) (by omega), g1 944 (by omega)]
    exact v4
  · rw [oI 945 (by omega) (by omega), g1 945 (by omega)]
    exact v5
  · rw [oI 946 (by omega) (by omega), g1 946 (by omega)]
    exact v6
  · rw [oI 950 (by omega) (by omega), g1 950 (by omega)]
    exact v0
  · rw [oI 953 (by omega) (by omega), g1 953 (by omega)]
    exact v3
  · show ((opS m0 0 0 0 0 (I ((f : Nat) : Int)) (I ((e : Nat) : Int))).1 955).toInt = 0
    rw [oI 955 (by omega) (by omega), g1 955 (by omega), v55]
    rfl
  · show ((opS m0 0 0 0 0 (I ((f : Nat) : Int)) (I ((e : Nat) : Int))).1 956).toInt = 0
    rw [oI 956 (by omega) (by omega), g1 956 (by omega), v56]
    rfl
theorem bg_w (n86 : F w 86 ≠ 0) (h52 : ((f : Nat) : Int) < F w 52) (hf : f < 1000) (h48 : A w 48 f = 0) : fm_M_begin N w (I ((f : Nat) : Int)) = some (bgX w f, ()) := by
  have r52 := F_r w 52
  have e86 : decide (w.1 86 = 0) = false := decide_eq_false (fun z => n86 (by
    have := congrArg Int32.toInt z
    exact this))
  unfold fm_M_begin fb_M_begin_0
  rw [e86, br_fq, d_lt0 (by omega), br_fq, I_F (k := 52), show decide (I ((f : Nat) : Int) < I (F w 52)) = true from decide_eq_true (by rw [I_lt (by omega) (by omega) r52.1 r52.2]; exact h52), br_tq, inb_at (k := 48) (n := 1000) rfl (by omega) (by omega) (by decide), ck_t, tnI (n := f) rfl (by omega), I_A' h48, show decide (I 0 ≤ 0) = true from rfl, br_tq]
  unfold fb_M_begin_42
  rw [lt_e, show upI w 3 0 = wi w 3 0 from rfl, show decide ((wi w 3 0).1 3 = 0) = true from rfl, br_tq, lt_e, lt_e, lt_e, lt_e, lt_e, lt_e, lt_e, lt_e, lt_e]
  have st : upI (upI (upI (upI (upI (upI (upI (upI (upI (wi w 3 0) 87 1) 118 0) 119 0) 120 0) 121 0) 125 0) 128 0) 149 0) 150 0 = bgW w := rfl
  have e118 : F (bgW w) 118 = ((0 : Nat) : Int) := by
    unfold bgW
    rw [wi_ne (by omega), wi_ne (by omega), wi_ne (by omega), wi_ne (by omega), wi_ne (by omega), wi_ne (by omega), wi_ne (by omega), wi_sm (by omega) (by omega)]
    rfl
  rw [st, newProcess_e e118 (by omega), bnd_so, show (0 : Int32).toNatClampNeg = 0 from rfl, show inb (0 : Int32) (ln 96) = true from by decide, ck_t, lt_e, wa_e, show inb (0 : Int32) (ln 170) = true from by decide, ck_t, lt_e, show (-1 : Int32) = I (-1) from rfl, wa_e]
  rfl
theorem badb {v : Int32} (h : x = 1 ∨ x = 2 ∨ x = 3) : fb_M_begin_42 N () w v (I x) = some (wi w 3 x, ()) := by
  unfold fb_M_begin_42
  rw [wi_e, lt_e, wi_s1, show decide (I x = 0) = false from decide_eq_false (fun z => by
    rw [lit0q, I_eq (by omega) (by omega) (by omega) (by omega)] at z
    omega), br_fq]
theorem bgW_fr : FR [3, 87, 118, 119, 120, 121, 125, 128, 149, 150] [] [] [] w (bgW w) := by
  unfold bgW
  exact FR.wi (FR.wi (FR.wi (FR.wi (FR.wi (FR.wi (FR.wi (FR.wi (FR.wi (FR.wi FR.rf (by decide)) (by decide)) (by decide)) (by decide)) (by decide)) (by decide)) (by decide)) (by decide)) (by decide)) (by decide)
theorem bgW_v : F (bgW w) 3 = 0 ∧ F (bgW w) 87 = 1 ∧ (bgW w).1 119 = I 0 ∧ (bgW w).1 120 = I 0 ∧ (bgW w).1 121 = I 0 ∧ (bgW w).1 125 = I 0 ∧ (bgW w).1 128 = I 0 ∧ (bgW w).1 149 = I 0 ∧ (bgW w).1 150 = I 0 := by
  unfold bgW
  refine ⟨?_, ?_, ?_, ?_, ?_, ?_, ?_, ?_, ?_⟩
  · rw [wi_ne (by omega), wi_ne (by omega), wi_ne (by omega), wi_ne (by omega), wi_ne (by omega), wi_ne (by omega), wi_ne (by omega), wi_ne (by omega), wi_ne (by omega), wi_sm (by omega) (by omega)]
  · rw [wi_ne (by omega), wi_ne (by omega), wi_ne (by omega), wi_ne (by omega), wi_ne (by omega), wi_ne (by omega), wi_ne (by omega), wi_ne (by omega), wi_sm (by omega) (by omega)]
  · rw [wi_1 (by omega), wi_1 (by omega), wi_1 (by omega), wi_1 (by omega), wi_1 (by omega), wi_1 (by omega), wi_s1]
  · rw [wi_1 (by omega), wi_1 (by omega), wi_1 (by omega), wi_1 (by omega), wi_1 (by omega), wi_s1]
  · rw [wi_1 (by omega), wi_1 (by omega), wi_1 (by omega), wi_1 (by omega), wi_s1]
  · rw [wi_1 (by omega), wi_1 (by omega), wi_1 (by omega), wi_s1]
  · rw [wi_1 (by omega), wi_1 (by omega), wi_s1]
  · rw [wi_1 (by omega), wi_s1]
  · rw [wi_s1]
theorem wi_87 {y : Int} : bgX (wi w 87 y) f = bgX w f := by
  have e : bgW (wi w 87 y) = bgW w := by
    unfold bgW
    have : wi (wi (wi w 87 y) 3 0) 87 1 = wi (wi w 3 0) 87 1 := by
      unfold wi upI
      refine Prod.ext (funext fun k => ?_) rfl
      by_cases c : k = 87
      · simp [c]
      · simp [c]
    rw [this]
  unfold bgX
  rw [e]
end
end
section
set_option maxRecDepth 100000
section
variable {T : TYc} {Fv Fv' : Int64 → Int64 → Prop} {P : Int64 → Prop} {AN : Nat} {TT : TY} {CC : CY} {pM pE : Nat → Nat} {ND CN PN SN UN FN N PR f : Nat} {m w m2 : MS} {x : Int}
theorem bgX_fr : FR [3, 87, 118, 119, 120, 121, 125, 128, 149, 150] [] [89, 90, 92, 94, 95, 96, 97, 98, 99, 100, 101, 106, 108, 109, 110, 112, 113, 114, 115, 117, 132, 170] [111] w (bgX w f) := by
  have f1 : FR [3, 87, 118, 119, 120, 121, 125, 128, 149, 150] [] [89, 90, 92, 94, 95, 96, 97, 98, 99, 100, 101, 106, 108, 109, 110, 112, 113, 114, 115, 117, 132, 170] [111] w (bgW w) := FR.mo bgW_fr (by decide) (by decide) (by decide) (by decide)
  have f2 : FR [3, 87, 118, 119, 120, 121, 125, 128, 149, 150] [] [89, 90, 92, 94, 95, 96, 97, 98, 99, 100, 101, 106, 108, 109, 110, 112, 113, 114, 115, 117, 132, 170] [111] (bgW w) (npS (bgW w) 0) := FR.mo np_fr (by decide) (by decide) (by decide) (by decide)
  exact FR.wa (FR.wa (FR.tr f1 f2) (by decide)) (by decide)
theorem bgX_1 {k : Nat} (h : k ≠ 118) : (bgX w f).1 k = (bgW w).1 k := (np_fr (u := bgW w) (z := 0)).1 k (by simpa using h)
theorem bgX_n (hf : f < 1000) : NWw 0 0 ((f : Nat) : Int) (bgX w f) ∧ A (bgX w f) 89 0 = 0 := by
  constructor
  · refine nw_w (u := bgW w) (L := 0) (by omega) ?_ (fun K h1 h2 h3 h4 h5 h6 => ?_) ?_ ?_
    · unfold bgX
      rw [wa_rne (by omega), wa_sm (by omega) (by omega)]
    · unfold bgX
      rw [wa_21 h4, wa_21 h3]
    · unfold bgX
      rw [wa_rne (by omega), wa_rne (by omega), np_row (by decide), if_pos rfl]
      rfl
    · unfold bgX
      rw [wa_rne (by omega), wa_rne (by omega), np_fr0 (by decide), if_pos rfl]
      rfl
  · unfold bgX
    rw [wa_rne (by omega), wa_rne (by omega), np_row (by decide), if_pos rfl]
theorem bg_fq {PR2 : Nat} (per : PER Fv' AN TT CC pM pE ND CN PN SN UN FN w) (hf : f < 1000) (W2 : WRD T Fv P PR2 m2) (bm : BGm m m2 f) (rest : REST Fv' AN TT ND UN FN 1 (bgX w f)) (pro : TXz P (PWs AN) m w) (h442 : ((f : Nat) : Int) < F m 442) : FQs WTr 1 Fv P Fv' (PWs AN) m2 (bgX w f) ∧ TBz m2 (bgX w f) := by
  obtain ⟨⟨e, ee, nm⟩, h4, i1, r1, ⟨v42, v43, v44, v45, v46⟩, v50, v53, v55, v56⟩ := bm
  have ePR : PR2 = 1 := by
    have := W2.1.1.1.1
    omega
  subst ePR
  have g := bgX_fr (w := w) (f := f)
  obtain ⟨nw, a89⟩ := bgX_n (w := w) hf
  obtain ⟨-, -, w119, w120, w121, w125, w128, -, -⟩ := bgW_v (w := w)
  have u119 := (bgX_1 (w := w) (f := f) (k := 119) (by omega)).trans w119
  have u120 := (bgX_1 (w := w) (f := f) (k := 120) (by omega)).trans w120
  have u121 := (bgX_1 (w := w) (f := f) (k := 121) (by omega)).trans w121
  have u125 := (bgX_1 (w := w) (f := f) (k := 125) (by omega)).trans w125
  have u128 := (bgX_1 (w := w) (f := f) (k := 128) (by omega)).trans w128
  have per2 : PER Fv' AN TT CC pM pE ND CN PN SN UN FN (bgX w f) := PER_fr per g (by decide) (by decide)
  generalize bgX w f = w2 at *
  obtain ⟨⟨t1, t2, t3⟩, cn, ⟨fa, na, at1⟩, e442⟩ := pro
  have tt : FTs m2 w2 ∧ FAr m2 w2 ∧ FUs m2 w2 := TB_tab ⟨t1, t2, t3⟩ ⟨i1 442 (by omega), i1 449 (by omega)⟩ (fun K h => r1 K (by omega)) (fun K h => g.2.2.1 K (by unfold PRr at h; simp; omega)) (g.2.2.2 34 (by simp))
  have f442 : F m2 442 = F m 442 := congrArg Int32.toInt (i1 442 (by omega))
  obtain ⟨-, e2, c2, q1, q2, q3⟩ := tt.1 f (by rw [f442]; exact h442)
  have ee2 : e2 = e := by
    have : A m2 29 f = A m 29 f := by
      show (m2.2.2.1 29 f).toInt = _
      rw [r1 29 (by omega)]
      rfl
    omega
  subst ee2
  obtain ⟨pl, sc, wtr⟩ := new_al (b := fun _ _ _ => False) (s := 0) (c := c2) (H := []) nm nw rfl ⟨h4, a89⟩ (by omega) ISb_no (fun i h => absurd h (Nat.not_lt_zero i)) (Or.inl ⟨by omega, by rw [Int.toNat_natCast]; exact q2⟩) List.nodup_nil q3
  obtain ⟨d, wd, h149, h150⟩ := rest
  have sf : SFs Fv P Fv' (PWs AN) 1 m2 w2 := ⟨⟨W2.1, W2.2.1⟩, ⟨DW_mo PW_q d, wd.1, wd.2.1⟩, PB_mo PW_q (PQ_b per2.2.2.2.2.1 (by omega))⟩
  have pg : PG0 m w m2 w2 := ⟨⟨r1 23 (by omega), i1 22 (by omega), ATc_eq (r1 2 (by omega)) (r1 3 (by omega))⟩, fun K h => g.2.2.1 K (by unfold PRr at h; simp; omega), g.2.2.2 34 (by simp), g.2.2.1 12 (by simp), g.2.2.1 13 (by simp), g.1 14 (by simp)⟩
  have f0 : ∀ {u : MS} {k : Nat}, u.1 k = I 0 → F u k = 0 := fun h => by
    show (_ : Int32).toInt = 0
    rw [h]
    rfl
  have n9 : F m2 (pq 0 9) = 0 := nm.1.2.2.2.2.2.2
  have n109 : A w2 109 0 = 5 := nw.1.2.2.2.2.2.2
  refine ⟨⟨0, ⟨sf, ⟨0, v55, h150, fun k h => absurd h (Nat.not_lt_zero k), fun k l h => absurd h (Nat.not_lt_zero k)⟩, fun r hr => ?_, fun q a b a2 b2 h h1 h2 _ => WTr_st h h1 h2⟩, ⟨v56, v55⟩, ⟨h149, h150⟩, CN_pg cn pg per2.2.2.1, ⟨[], ⟨f0 v50, by simp, fun i x h => by simp at h⟩, ⟨f0 u125, by simp, fun i x h => by simp at h⟩, fun y h => by simp at h⟩⟩, tt, ⟨by rw [v53, u128], fun l hl => ?_⟩, ⟨⟨by rw [v44, u120], ?_⟩, by rw [v45, u121], by rw [v46, u119]⟩, fa, na, ATf_k at1 (i1 22 (by omega)) (r1 2 (by omega)) (r1 3 (by omega)) (g.1 14 (by simp)) (g.2.2.1 12 (by simp)) (g.2.2.1 13 (by simp))⟩
  · have r0 : r = 0 := by omega
    subst r0
    exact Or.inl ⟨by omega, by omega, _, _, _, _, _, pl, sc, wtr⟩
  · rw [f0 v53] at hl
    omega
  · rw [f0 u120]
    exact Int.le_refl _
theorem bg_pp {v : Int32} (W : WRD T Fv P PR m) (kep : KEP w) (per : F w 86 ≠ 0 → PER Fv' AN TT CC pM pE ND CN PN SN UN FN w) (e10 : F m 10 = 0 ↔ F w 86 = 0) (pro : F w 86 ≠ 0 → TXz P (PWs AN) m w) (hN : 60000 ≤ N) (okc : PK (fun m2 _ => ∃ PR2, WRD T Fv P PR2 m2) (hm_H_begin N m v)) : PP (RHb Fv P Fv' AN m w) (hm_H_begin N m v) (fm_M_begin N w v) := by
  obtain ⟨x, rfl, hx⟩ : ∃ x : Int, v = I x ∧ (-2147483648 ≤ x ∧ x < 2147483648) := ⟨v.toInt, I_of v, ti_rng v⟩
  have r86 := F_r w 86
  have r10 := F_r m 10
  have r52 := F_r w 52
  have d10 : decide (m.1 10 = 0) = decide (F m 10 = 0) := by
    rw [I_F (k := 10), lit0q, decE r10.1 r10.2 (by omega) (by omega)]
  have d86 : decide (w.1 86 = 0) = decide (F w 86 = 0) := by
    rw [I_F (k := 86), lit0q, decE r86.1 r86.2 (by omega) (by omega)]
  have d0 : decide (I x < 0) = decide (x < 0) := by
    rw [lit0q, decL hx.1 hx.2 (by omega) (by omega)]
  have d52 : decide (I x < w.1 52) = decide (x < F w 52) := by
    rw [I_F (k := 52), decL hx.1 hx.2 r52.1 r52.2]
  have b0 : RHb Fv P Fv' AN m w m (Sum.inr 0) (wi w 3 1) () := Or.inr ⟨0, rfl, by omega, rfl, rfl⟩
  have b1 : RHb Fv P Fv' AN m w m (Sum.inr 1) (wi w 3 2) () := Or.inr ⟨1, rfl, by omega, rfl, rfl⟩
  have b2 : RHb Fv P Fv' AN m w m (Sum.inr 2) (wi w 3 3) () := Or.inr ⟨2, rfl, by omega, rfl, rfl⟩
  have f1 : fb_M_begin_42 N () w (I x) 1 = some (wi w 3 1, ()) := badb (x := 1) (Or.inl rfl)
  have f2 : fb_M_begin_42 N () w (I x) 2 = some (wi w 3 2, ()) := badb (x := 2) (Or.inr (Or.inl rfl))
  have f3 : fb_M_begin_42 N () w (I x) 3 = some (wi w 3 3, ()) := badb (x := 3) (Or.inr (Or.inr rfl))
  by_cases c : F w 86 = 0
  · unfold hm_H_begin hb_H_begin_0 fm_M_begin fb_M_begin_0
    rw [d10, d86, decide_eq_true c, br_tq, decide_eq_true (e10.mpr c), br_tq, f1]
    exact pp_2s b0
  have c10 : F m 10 ≠ 0 := fun z => c (e10.mp z)
  have p := per c
  have pr := pro c
  have e442 := pr.2.2.2
  by_cases cf : 0 ≤ x ∧ x < F w 52
  rotate_left
  · unfold hm_H_begin hb_H_begin_0 fm_M_begin fb_M_begin_0 fb_M_begin_24
    rw [d10, d86, decide_eq_false c, br_fq, decide_eq_false c10, br_fq, isF_e hx, bnd_so, if_neg (fun z => cf (by rw [← e442]; exact z.2)), show decide ((0 : Int32) = 0) = true from rfl, br_tq, d0, d52, f2]
    by_cases z : x < 0
    · rw [decide_eq_true z, br_tq]
      exact pp_2s b1
    · rw [decide_eq_false z, br_fq, decide_eq_false (by omega), br_fq]
      exact pp_2s b1
  obtain ⟨f, rfl⟩ : ∃ f : Nat, x = ((f : Nat) : Int) := ⟨x.toNat, by omega⟩
  have h442 : ((f : Nat) : Int) < F m 442 := by omega
  have fFN : f < FN := by
    have := p.1.1.2.2.2.2.2.1
    omega
  have fn := p.1.1.2.2.2.2.1
  obtain ⟨aa, rr, y1, y2, -⟩ := p.1.2.2.2.2.1 f fFN
  have y3 : A m 25 f = A w 48 f := pr.1.2.1 f h442
  by_cases ca : aa = 0
  rotate_left
  · unfold hm_H_begin hb_H_begin_0 fm_M_begin fb_M_begin_0 fb_M_begin_24
    have r25 := A_r m 25 f
    rw [d10, d86, decide_eq_false c, br_fq, decide_eq_false c10, br_fq, isF_e hx, bnd_so, if_pos ⟨c10, by omega, h442⟩, show decide ((1 : Int32) = 0) = false from rfl, br_fq, d0, decide_eq_false (show ¬ ((f : Nat) : Int) < 0 by omega), br_fq, d52, decide_eq_true (show ((f : Nat) : Int) < F w 52 from cf.2), br_tq, f3]
    refine l_ck (fun _ => r_ck (fun _ => ?_))
    rw [tnI (n := f) rfl (by omega), I_A (k := 25), lit0q, decE r25.1 r25.2 (by omega) (by omega), decide_eq_false (show ¬ A m 25 f = 0 by omega), br_fq, I_A' y1, decI (by omega) (by omega) (by omega) (by omega), decide_eq_false (show ¬ ((aa : Nat) : Int) ≤ 0 by omega), br_fq]
    exact pp_2s b2
  subst ca
  have h48 : A w 48 f = 0 := y1
  have eW := bg_w (N := N) c cf.2 (by omega) h48
  rw [eW]
  have rest : REST Fv' AN TT ND UN FN 1 (bgX w f) := by
    have g7 : FR [87] [] [] [] w (wi w 87 0) := FR.wi FR.rf (by simp)
    have e7 := bg_w (N := N) (w := wi w 87 0) (f := f) (by rw [wi_ne (by omega)]; exact c) (by rw [wi_ne (by omega)]; exact cf.2) (by omega) h48
    have := pk_ok (begin_ok (N := N) (w := wi w 87 0) (KEP_fr kep g7 (by simp) (by simp)) (fun _ => PER_fr p g7 (by decide) (by decide)) hN) _ _ e7
    rw [wi_87] at this
    rcases this with h | ⟨-, -, h, -⟩
    · exfalso
      have k1 : F (bgX w f) 87 = F (wi w 87 0) 87 := FR.F h (by simp)
      rw [wi_sm (by omega) (by omega)] at k1
      have k2 : F (bgX w f) 87 = 1 := (congrArg Int32.toInt (bgX_1 (by omega))).trans (bgW_v (w := w)).2.1
      omega
    · exact h
  intro m3 z w3 r e1 e2
  cases e2
  obtain ⟨hz, bm⟩ := bg_m W c10 h442 (by rw [y3]; exact h48) m3 z e1
  obtain ⟨PR2, W2⟩ := okc m3 z e1
  obtain ⟨fq, tb⟩ := bg_fq p (by omega) W2 bm rest pr h442
  exact Or.inl ⟨f, hz, rfl, bm, fq, tb, (congrArg Int32.toInt (bgX_1 (by omega))).trans (bgW_v (w := w)).1⟩
end
end
section
set_option maxRecDepth 100000
def RHs (Fv : Int64 → Int64 → Prop) (P : Int64 → Prop) (Fv' : Int64 → Int64 → Prop) (AN PR : Nat) (m w m2 : MS) (z : Unit ⊕ Nat) (w2 : MS) (_ : Unit) : Prop := (z = Sum.inl () ∧ F w2 3 = 0 ∧ FQs WTr PR Fv P Fv' (PWs AN) m2 w2 ∧ TBz m2 w2) ∨ ∃ k : Nat, z = Sum.inr k ∧ (k = 1 ∨ k = 2) ∧ m2 = m ∧ w2 = wi w 3 ((k : Nat) : Int)
section
variable {T : TYc} {Fv Fv' : Int64 → Int64 → Prop} {P : Int64 → Prop} {AN : Nat} {TT : TY} {CC : CY} {pM pE : Nat → Nat} {ND CN PN SN UN FN N PR p q : Nat} {m w m1 w1 m2 w2 : MS} {x : Int} {RR : Nat → MS → MS → Prop}
theorem TBz_k (h : TBz m w) (a : Kwac m m2) (b : Kwbc w w2) (h34 : w2.2.2.2 34 = w.2.2.2 34) : TBz m2 w2 := by
  obtain ⟨t1, t2, ⟨t3, t4, t5⟩, fa, na, t7⟩ := h
  exact ⟨TB_tab t1 ⟨a.1 442 (by omega), a.1 449 (by omega)⟩ (fun K h => a.2 K (by omega)) (fun K h => b.2 K (by unfold PRr at h; omega)) h34, PN_st t2 (a.1 953 (by omega)) (fun K h => a.2 K (by omega)) (b.1 128 (by omega)) (fun K h => b.2 K (by omega)), ⟨CLk_st t3 (a.1 944 (by omega)) (b.1 120 (by omega)), by rw [a.1 945 (by omega), b.1 121 (by omega)]; exact t4, by rw [a.1 946 (by omega), b.1 119 (by omega)]; exact t5⟩, fa, na, ATf_k t7 (a.1 22 (by omega)) (a.2 2 (by omega)) (a.2 3 (by omega)) (b.1 14 (by omega)) (b.2 12 (by omega)) (b.2 13 (by omega))⟩
theorem sd_fin (hN : 11000000 ≤ N) (W : WLs WTr PR Fv P Fv' (PWs AN) none q 0 m1 w1) (h956 : F m1 956 = ((q : Nat) : Int)) (h149 : F w1 149 = 0) (cn : CNq P (PWs AN) m1 w1) (wt : WTs PR m1 w1) (tb : TBz m w) (a : Kwac m m1) (b : Kwbc w w1) (h34 : w1.2.2.2 34 = w.2.2.2 34) (h3 : F w1 3 = 0) (es : ESI Fv' (PQ AN PR) PR w1) (per : PER Fv' AN TT CC pM pE ND CN PN SN UN FN w1) {m0 w0 : MS} : PP (RHs Fv P Fv' AN PR m0 w0) (hb_H_send_112 N () m1) (fb_M_send_238 N () w1) := by
  unfold hb_H_send_112 fb_M_send_238
  have st : STq WTr PR Fv P Fv' (PWs AN) m1 w1 := ⟨q, 0, W, ⟨h956, h149⟩, cn, wt⟩
  have pb := PQ_b per.2.2.2.2.1 es.1.1.2
  have ae := pk_ok (allEnds_ok (N := N) pb PQ_s hN es per.2.2.1 (PER_pa per))
  refine pp_bb (pp_mo (pp_pr (pp_pr (pp_pl (settle_pp st (by omega)) (show PK (fun u _ => Kwac m u) (hm_Wl_settle N m1) from ywa_hm_Wl_settle a)) (show PK (fun u _ => Kwbc w u ∧ F u 3 = F w1 3) (fm_M_allEnds N w1) from fun u r e => ⟨ywb_fm_M_allEnds b u r e, congrArg Int32.toInt ((ywb_fm_M_allEnds (u0 := w1) ⟨fun _ _ => rfl, fun _ _ => rfl⟩ u r e).1 3 (by omega))⟩)) ae) (fun m2 _ w2 _ h => ?_))
  obtain ⟨⟨⟨fq, ka⟩, kb, k3⟩, fr⟩ := h
  refine pp_2s (Or.inl ⟨rfl, by rw [k3]; exact h3, fq, TBz_k tb ka kb ?_⟩)
  rw [← h34]
  exact fr.2.1.2.2.2 34 (by simp)
theorem sd_lit {s v : Int} (hN : 11000000 ≤ N) (hpr : p < PR) (rest : REST Fv' AN TT ND UN FN PR w) (per : PER Fv' AN TT CC pM pE ND CN PN SN UN FN w) (fq : FQs WTr PR Fv P Fv' (PWs AN) m w) (tb : TBz m w) (hs : s = 0 ∨ (s = 1 ∧ 0 ≤ v ∧ v < ((AN : Nat) : Int))) (hv : -2147483648 ≤ v ∧ v < 2147483648) (hP : P (mk s v)) {m0 w0 : MS} : PP (RHs Fv P Fv' AN PR m0 w0) (hb_H_send_91 N () m (I v) (some p) (I s)) (fb_M_send_76 N () (wi w 3 0) (I v) (I ((p : Nat) : Int)) 2 0 0 0 (I ((p : Nat) : Int)) (I s)) := by
  obtain ⟨i, W, ⟨h956, h955⟩, ⟨h149, h150⟩, cn, wt⟩ := fq
  have p24 : PR ≤ 24 := rest.1.1.2
  have g : FR [3] [] [] [] w (wi w 3 0) := FR.wi FR.rf (by simp)
  have W3 : WLs WTr PR Fv P Fv' (PWs AN) none i 0 m (wi w 3 0) := WL_w3 W
  have per3 : PER Fv' AN TT CC pM pE ND CN PN SN UN FN (wi w 3 0) := PER_fr per g (by decide) (by decide)
  have dw3 : DW Fv' (PQ AN PR) PR (wi w 3 0) := DW_fr rest.1 g (by simp) (by simp) (by simp) (by simp) (by simp) (by simp) (by simp) (by simp) (by simp) (by simp) (by simp) (by simp) (by simp) (by simp) (by simp) (by simp) (by simp)
  have lk3 : LK (wi w 3 0) PR := LK_fr rest.2.1.1 g (by simp) (by simp)
  have wq3 : WTQ (wi w 3 0) PR := WTQ_fr rest.2.1.2.1 g (by simp) (by simp) (by simp)
  have tb3 : TBz m (wi w 3 0) := by
    obtain ⟨t1, t2, ⟨t3, t4, t5⟩, fa, na, t7⟩ := tb
    exact ⟨TB_tab t1 ⟨rfl, rfl⟩ (fun _ _ => rfl) (fun _ _ => rfl) rfl, PN_st t2 rfl (fun _ _ => rfl) (g.1 128 (by simp)) (fun _ _ => rfl), ⟨CLk_st t3 rfl (g.1 120 (by simp)), by rw [g.1 121 (by simp)]; exact t4, by rw [g.1 119 (by simp)]; exact t5⟩, fa, na, ATf_k t7 rfl rfl rfl (g.1 14 (by simp)) rfl rfl⟩
  have cn3 : CNq P (PWs AN) m (wi w 3 0) := CN_pg cn (PG0_fr (m := m) (m2 := m) (is := []) (ls := []) (as := []) (js := []) FR.rf g (by simp) (by simp) (by simp) (by simp) (by simp)) per3.2.2.1
  have wt3 : WTs PR m (wi w 3 0) := WTs_st wt rfl (fun _ _ => rfl) (g.1 125 (by simp)) (fun _ _ => rfl)
  have e149 : F (wi w 3 0) 149 = 0 := by rw [FR.F g (by simp)]; exact h149
  have e3 : F (wi w 3 0) 3 = 0 := wi_sm (by omega) (by omega)
  clear rest per tb cn wt W h149 h150
  generalize wi w 3 0 = w3 at *
  unfold hb_H_send_91 fb_M_send_76
  rw [e_make, bnd_so, term_e, bnd_so, bo_s]
  have nh : ¬ isH (mk s v) := nh_mk (by omega)
  have so1 : so (mk s v) = s := so_mk (by omega) (by omega)
  have va1 : va (mk s v) = v := va_mk (by omega) (by omega)
  have hPq : PQ AN PR (mk s v) := by
    rcases hs with h | ⟨h, h1, h2⟩
    · exact Or.inl (by rw [so1]; exact h)
    · exact Or.inr (Or.inr (Or.inr (Or.inl ⟨by rw [so1]; exact h, by rw [va1]; exact h1, by rw [va1]; exact h2⟩)))
  by_cases hal : F m (pq p 9) = 3
  · have h9 : A w3 109 p = 3 := by
      rcases W3.2.2.1 p hpr with h | h
      · exact absurd hal h.1
      · exact h.2.1
    rw [post_dead hal, bnd_so, message_dead (by omega) h9, bnd_so]
    exact sd_fin hN W3 h956 e149 cn3 wt3 tb3 ⟨fun _ _ => rfl, fun _ _ => rfl⟩ ⟨fun _ _ => rfl, fun _ _ => rfl⟩ rfl e3 ⟨dw3, lk3, wq3⟩ per3
  · obtain ⟨h9, al⟩ : A w3 109 p ≠ 3 ∧ ALr WTr m w3 p := by
      rcases W3.2.2.1 p hpr with h | h
      · exact h.2
      · exact absurd h.1 hal
    obtain ⟨b, U, B, Wt, Y, pl, rs⟩ := al
    obtain ⟨⟨ow, kd, pt⟩, ⟨ow', kd', cw⟩, bd, b4⟩ := SF_al W3.1 hpr hal pl
    have pb := PQ_b per3.2.2.2.2.1 p24
    have key := wl_msg (N := N) (a := 0) (sort := 2) (p := 0) (o := p) (src := none) (wr := 0) (v4 := 0) (t := mk s v) (x := mk s v) (s := 0) (Or.inl ⟨rfl, rfl⟩) W3 hpr hal h9 (fun c => by cases c) pl rs pt cw (Or.inl ⟨⟨by omega, Or.inl ⟨rfl, rfl, nh, rfl, fun c => by omega, PW_q _ hPq, rfl⟩⟩, (fun c => by cases c), Or.inl rfl⟩) (Or.inl ⟨rfl, nh, hP⟩) (Or.inl ⟨by omega, nh, PW_q _ hPq⟩) ⟨by omega, by omega⟩ (by omega) (fun c => absurd c (by omega)) ⟨by omega, by omega⟩ (by omega)
    have mo := pk_ok (message_ok (N := N) (sort := 2) (p := 0) (o := p) (wr := 0) (r := 0) (t := mk s v) dw3 hpr pb (by omega) (fun c => absurd c (by omega)) ⟨by omega, by omega⟩ (by omega) ⟨by omega, by omega⟩ (fun _ => Or.inl ⟨by omega, nh, hPq⟩) (by omega))
    refine pp_bb (pp_mo (pp_pr (pp_pr (pp_pl key (show PK (fun u _ => Kwac m u) (hm_Wl_post N m p (I ((0 : Nat) : Int)) (I ((0 : Nat) : Int)) (I 0) (mk s v) none) from ywa_hm_Wl_post ⟨fun _ _ => rfl, fun _ _ => rfl⟩)) (show PK (fun u _ => Kwbc w3 u) (fm_M_message N w3 (I ((p : Nat) : Int)) (I ((2 : Nat) : Int)) (I 0) (I ((0 : Nat) : Int)) (I 0) (I ((p : Nat) : Int)) (mk s v)) from ywb_fm_M_message ⟨fun _ _ => rfl, fun _ _ => rfl⟩)) mo) (fun m4 _ w4 _ h => ?_))
    obtain ⟨⟨⟨⟨W4, mv, -⟩, ka⟩, kb⟩, d4, f4, -⟩ := h
    have per4 : PER Fv' AN TT CC pM pE ND CN PN SN UN FN w4 := PER_fr per3 f4 (by decide) (by decide)
    exact sd_fin hN W4 (by rw [← h956]; exact congrArg Int32.toInt mv.2.2.2.1.2.2) (by rw [← e149]; exact congrArg Int32.toInt mv.2.2.2.2.2.2) (CN_pg cn3 mv.1.1 per4.2.2.1) (WTs_st wt3 mv.2.2.2.1.2.1 mv.2.2.2.1.1 mv.2.2.2.2.2.1 mv.2.2.2.2.1) tb3 ka kb mv.1.1.2.2.1 (by rw [← e3]; exact congrArg Int32.toInt (kb.1 3 (by omega))) ⟨d4, LK_fr lk3 f4 (by simp) (by simp), WTQ_fr wq3 f4 (by simp) (by simp) (by simp)⟩ per4
end
end
section
set_option maxRecDepth 100000
def sdT (N : Nat) (w4 : MS) (v1 v3 : Int32) : Option (MS × Unit) := ck (inb v1 (ln 109)) (br (decide ((w4.2.2.1 109 v1.toNatClampNeg) = 3)) (fb_M_send_238 N () w4) (ck (inb v1 (ln 108)) (br (decide (30 ≤ (w4.2.2.1 108 v1.toNatClampNeg))) (fb_M_send_238 N () w4) (bnd (fm_M_wants N w4 v1 3) (fun u5 r5 => br (decide (r5 = 0)) (bnd (fm_M_term N u5 1 20) (fun u6 r6 => bnd (fm_M_willEnd N u6 v1 0 v1 r6) (fun u7 _ => fb_M_send_238 N () u7))) (ck (inb v1 (ln 89)) (ck (inb v1 (ln 89)) (ck (inb v1 (ln 89)) (lt (upA u5 89 (upd (u5.2.2.1 89) v1.toNatClampNeg ((u5.2.2.1 89 v1.toNatClampNeg) + 3))) (fun w8 => ck (inb ((v1 * 500) + (u5.2.2.1 89 v1.toNatClampNeg)) (ln 88)) (lt (upJ w8 88 (vp_updL (w8.2.2.2 88) ((v1 * 500) + (u5.2.2.1 89 v1.toNatClampNeg)).toNatClampNeg 2)) (fun w9 => bnd (fm_M_term N w9 0 v3) (fun u10 r10 => ck (inb (((v1 * 500) + (u5.2.2.1 89 v1.toNatClampNeg)) + 1) (ln 88)) (lt (upJ u10 88 (vp_updL (u10.2.2.2 88) (((v1 * 500) + (u5.2.2.1 89 v1.toNatClampNeg)) + 1).toNatClampNeg r10)) (fun w11 => bnd (fm_M_term N w11 4 v1) (fun u12 r12 => ck (inb (((v1 * 500) + (u5.2.2.1 89 v1.toNatClampNeg)) + 2) (ln 88)) (lt (upJ u12 88 (vp_updL (u12.2.2.2 88) (((v1 * 500) + (u5.2.2.1 89 v1.toNatClampNeg)) + 2).toNatClampNeg r12)) (fun w13 => ck (inb v1 (ln 108)) (bnd (fm_M_term N w13 5 (u5.2.2.1 89 v1.toNatClampNeg)) (fun u14 r14 => ck (inb ((v1 * 30) + (w13.2.2.1 108 v1.toNatClampNeg)) (ln 107)) (lt (upJ u14 107 (vp_updL (u14.2.2.2 107) ((v1 * 30) + (w13.2.2.1 108 v1.toNatClampNeg)).toNatClampNeg r14)) (fun w15 => ck (inb v1 (ln 108)) (ck (inb v1 (ln 108)) (lt (upA w15 108 (upd (w15.2.2.1 108) v1.toNatClampNeg ((w15.2.2.1 108 v1.toNatClampNeg) + 1))) (fun w16 => fb_M_send_238 N () w16)))))))))))))))))))))))))
section
variable {b : Int → Nat → Nat → Prop} {Fv Fv' : Int64 → Int64 → Prop} {P P' : Int64 → Prop} {N PR q i j U B Wt Y e e' n2 opM bnM bxM : Nat} {ow2 kd2 : Nat → Nat} {m w m2 w2 v0 v1 : MS} {x : Int} {t : Int64} {cur : Option Nat} {RR : Nat → MS → MS → Prop}
theorem ck_i {α : Type} {c : Bool} {o : Option α} {y : α} (h : ck c o = some y) : o = some y := by
  cases c
  · cases h
  · exact h
theorem XMr_co (hY : Y < 30) : XMr q w (coR w q Y t) := by
  unfold coR
  refine ⟨FR.wa (FR.wj FR.rf (by simp)) (by simp), fun r hr => ⟨?_, ?_, ?_⟩, fun i _ => ?_, fun i _ => ?_, fun i _ => ?_, fun i hi => ?_⟩
  · rw [wa_rne (by omega)]
    rfl
  · rw [wa_21 (by omega)]
    rfl
  · rw [wa_ro (by omega) (by omega), if_neg hr]
    rfl
  · show (wj w 107 (30 * q + Y) t).2.2.2 88 i = _
    rw [wj_22 (by omega)]
  · show (wj w 107 (30 * q + Y) t).2.2.2 91 i = _
    rw [wj_22 (by omega)]
  · show (wj w 107 (30 * q + Y) t).2.2.2 93 i = _
    rw [wj_22 (by omega)]
  · show (wj w 107 (30 * q + Y) t).2.2.2 107 i = _
    rw [wj_row, if_neg (by omega)]
theorem wl_mps (W : WLs RR PR Fv P Fv' P' cur i j m w) (hq : q < PR) (hal : F m (pq q 9) ≠ 3) (h9 : A w 109 q ≠ 3) (qc : some q ≠ cur) (pl : PLs b q m w U B Wt Y) (rs : SCs q m w ∧ RR q m w) (he : F m 955 = ((e : Nat) : Int) ∧ e < 24) (he' : F w 150 = ((e' : Nat) : Int) ∧ e' < 4000) (mp : MPs q B Wt Y e e' m w m2 w2) (sf2 : SFs Fv P Fv' P' PR m2 w2) : WLs RR PR Fv P Fv' P' cur i j m2 w2 ∧ MVs m w m2 w2 := by
  have W0 := W
  obtain ⟨sf, -, pr, hR⟩ := W
  have sf0 := sf
  obtain ⟨⟨d, cx⟩, ⟨dw, lk, wt⟩, pb⟩ := sf
  have p24 := dw.1.2
  obtain ⟨-, -, -, b4⟩ := SF_al sf0 hq hal pl
  rcases mp with ⟨-, rfl, rfl⟩ | ⟨m1, w1, x1, x2, x5, rfl, rfl⟩ | ⟨hY, U2, ⟨b2, pl2⟩, x1, x2⟩
  · exact ⟨W0, MVs.rf⟩
  · have v := enS_v (m := m1) (q := q) (t := mk 1 20) (hm := q) (e := e)
    have a9 := enR_9 (w := w1) (q := q) (wr := 0) (o := q) (x := mk 1 20) (e := e')
    have p20 : P (mk 1 20) := cx.2.2.2.2.2.1 20 (by omega) (by have := cx.2.2.2.1; omega)
    have p20' : P' (mk 1 20) := pb.1 20 (by omega) (by omega)
    have so1 : so (mk 1 20) = 1 := so_mk (by omega) (by omega)
    have k := wl_end W0 hq ⟨hal, h9⟩ qc x1 x2 he he' x5 ⟨by omega, by omega⟩ (by omega) sf2 ⟨q, 0, by rw [v.2.1]; exact rf_some (by omega), hq, v.1, Or.inr ⟨hq, by rw [a9, if_pos rfl]⟩, by
      rw [v.2.2]
      exact SRs_lit (nh_mk (by omega)) (fun c => by omega) p20 p20' (by omega) (by omega), Or.inl ⟨nh_mk (by omega), p20'⟩⟩
    exact ⟨k.1, k.2.1⟩
  · have pg := PGs_xm x1 x2
    have D : ∀ d, d ≠ q → LOCm d m m2 ∧ LOCw d w w2 := fun d hd => ⟨LOCm_xm x1 hd, LOCw_xm x2 hd⟩
    refine ⟨WL_move W0 sf2 pg hq ⟨hal, h9⟩ D ⟨e, e', he.1, he'.1, fun k _ => FR.A x1 (by simp), fun k _ => ⟨fun K hK => FR.A x2.1 (by simp; omega), by rw [x2.1.2.2.2 148 (by simp)]⟩, Or.inl ⟨?_, ?_, ?_, ?_, b2, U2, B, Wt, Y + 1, pl2, SC_eq rs.1 b4.2 (EQm.xm x1 q) (EQw.xm x2 q), hR _ _ _ _ _ rs.2 (EQm.xm x1 q).n (EQw.xm x2 q).v pg⟩⟩, pg, fun d hd => (D d (fun c => hal (by rw [← c]; exact hd))).1, fun d hd => (D d (fun c => ?_)).2, ⟨fun k hk => x1.2.2.1 k (by simp), x1.1 950 (by simp [pq_n]), x1.1 956 (by simp [pq_n])⟩, fun k hk => x2.1.2.2.1 k (by simp; omega), x2.1.1 125 (by simp), x2.1.1 149 (by simp)⟩
    · rw [FR.F x1 (by simp [pq_n])]; exact he.1
    · rw [FR.F x2.1 (by simp)]; exact he'.1
    · rw [FR.F x1 (by simp; exact ⟨pq_inj (by omega), pq_inj (by omega), pq_inj (by omega)⟩)]; exact hal
    · rw [FR.A x2.1 (by simp)]; exact h9
    · rcases hd with hd | hd
      · omega
      · exact h9 (by rw [← c]; exact hd)
def prW (w : MS) (q U : Nat) (x : Int) : MS := wj (wj (wj (wa w 89 q ((U : Int) + 3)) 88 (500 * q + U) 2) 88 (500 * q + (U + 1)) (mk 0 x)) 88 (500 * q + (U + 2)) (mk 4 q)
def prM (m : MS) (q U : Nat) (x : Int) : MS := wi (wj (wj (wj m (pq q 2) U (mk 8 2)) (pq q 2) (U + 1) (mk 0 x)) (pq q 2) (U + 2) (mk 4 ((q : Nat) : Int))) (pq q 4) ((U + 3 : Nat) : Int)
theorem pr_dw (d0 : DW Fv P PR v0) (hPB : PB P PR) (hq : q < PR) (e9 : ¬ A v0 109 q = 3) (hb : bxM < 30) (hv : -2147483648 ≤ x ∧ x < 2147483648) (mq : MQq Fv P v0 v1 q n2 ow2 kd2 opM bnM bxM) (hroom : n2 + 3 ≤ 500) : DW Fv P PR (coR (prW v1 q n2 x) q bxM (mk 5 (n2 : Int))) := by
  have pr := d0.1.2
  have un : ∀ j, n2 + j < owH n2 ow2 (n2 + j) := fun j => by unfold owH; rw [if_pos (by omega)]; omega
  have mh := MQ_hole mq 3 (by omega)
  have mc := MQ_cell (t := mk 4 q) (MQ_cell (t := mk 0 x) (MQ_cell (t := 2) mh (i := n2) (by omega) (un 0)) (i := n2 + 1) (by omega) (un 1)) (i := n2 + 2) (by omega) (un 2)
  rw [show (n2 : Int) + ((3 : Nat) : Int) = (n2 : Int) + 3 from by omega] at mc
  have k0 : hp (prW v1 q n2 x) q n2 = 2 := by unfold prW; rw [hp_wj, if_neg (by omega), hp_wj, if_neg (by omega), hp_wj, if_pos rfl]
  have k1 : hp (prW v1 q n2 x) q (n2 + 1) = mk 0 x := by unfold prW; rw [hp_wj, if_neg (by omega), hp_wj, if_pos rfl]
  have k2 : hp (prW v1 q n2 x) q (n2 + 2) = mk 4 q := by unfold prW; rw [hp_wj, if_pos rfl]
  have mc2 : MQq Fv P v0 (prW v1 q n2 x) q (n2 + 3) (owH n2 ow2) kd2 opM bnM bxM := mc
  clear mc
  generalize prW v1 q n2 x = y at *
  have e5 : so (mk 5 (n2 : Int)) = 5 := so_mk (by omega) (by omega)
  have v5 : va (mk 5 (n2 : Int)) = n2 := va_mk (by omega) (by omega)
  have n5 : vn (mk 5 (n2 : Int)) = n2 := by unfold vn; rw [v5]; omega
  have va2 : va (2 : Int64) = 2 := by decide
  have bb : blk (hp y q) (mk 5 (n2 : Int)) = 3 := by unfold blk; rw [e5, n5, k0]; simp; unfold vn; rw [va2]; decide
  have pp : prt (mk 5 (n2 : Int)) = 1 := by unfold prt; rw [e5]; rfl
  have na : ¬ isH (mk 0 x) := nh_mk (by omega)
  obtain ⟨ow3, kd3, p1, p2, p3, p4, p5, p6, -⟩ := HP_put mc2.2.1.2.1 (h2 := hp y q) (m := 3) (k := n2) (x := mk 5 (n2 : Int)) (fun _ _ => rfl) (by omega) (fun j _ => un j) (Or.inr (Or.inl e5)) (by omega) n5 bb (fun _ => by rw [k0]; exact HDC2) (fun e => by omega) (fun j h1 h2 => by
    rw [pp] at h1
    by_cases e : j = 1
    · rw [e, k1]; exact Or.inl ⟨na, hPB.2.2.2.1 x hv.1 hv.2⟩
    · have : j = 2 := by omega
      rw [this, k2]; exact Or.inl ⟨nh_mk (by omega), hPB.2.1 q hq⟩) (Or.inl ⟨e5, rfl, by rw [k1]; exact na⟩)
  have m4 : MQq Fv P v0 y q (n2 + 3) ow3 kd3 opM bnM bxM := MQ_heap mc2 FR.rf mc2.1 (by omega) (fun _ _ => rfl) (fun _ _ => rfl) p4 (fun t g => GT_own g (Nat.le_refl _) p1 p2)
  have bx := box_ok (N := 0) m4 d0 hq e9 hb p5
  rw [box_e (by omega) m4.2.1.2.2.2.2.2.2.1.1 hb] at bx
  exact (ok_some.mp bx).1
theorem pr_pl (hq : q < 24) (pl : PLs b q m w U B Wt Y) (hU : U + 3 ≤ 500) (hY : Y < 30) (hv : -2147483648 ≤ x ∧ x < 2147483648) : ∃ b2, PLs b2 q (coS (prM m q U x) q Y (mk 5 ((U : Nat) : Int))) (coR (prW w q U x) q Y (mk 5 ((U : Nat) : Int))) (U + 3) B Wt (Y + 1) := by
  have r1 : ∀ k, (prM m q U x).2.2.2 (pq q 2) k = if k = U + 2 then mk 4 ((q : Nat) : Int) else if k = U + 1 then mk 0 x else if k = U then mk 8 2 else m.2.2.2 (pq q 2) k := fun k => by
    show (wj (wj (wj m (pq q 2) U (mk 8 2)) (pq q 2) (U + 1) (mk 0 x)) (pq q 2) (U + 2) (mk 4 ((q : Nat) : Int))).2.2.2 (pq q 2) k = _
    rw [wj_row, wj_row, wj_row]
  have r2 : ∀ k, hp (prW w q U x) q k = if k = U + 2 then mk 4 ((q : Nat) : Int) else if k = U + 1 then mk 0 x else if k = U then 2 else hp w q k := fun k => by
    unfold prW
    rw [hp_wj, hp_wj, hp_wj]
    rfl
  have ti := tup_iso (k := 2) (L := [mk 0 x, mk 4 ((q : Nat) : Int)]) (L' := [mk 0 x, mk 4 ((q : Nat) : Int)]) (h2 := (prM m q U x).2.2.2 (pq q 2)) (h2' := hp (prW w q U x) q) pl.1.2.1 rfl rfl (fun i t y h1 h2 => by
    have e : y = t := by
      rw [h1] at h2
      injection h2 with h2
      exact h2.symm
    subst e
    rcases (show i = 0 ∨ i = 1 ∨ 2 ≤ i by omega) with rfl | rfl | h
    · have : y = mk 0 x := by simpa using h1.symm
      subst this
      exact RTb_lit (nh_mk (by omega)) (fun c => by rw [so_mk (by omega) (by omega)] at c; omega)
    · have : y = mk 4 ((q : Nat) : Int) := by simpa using h1.symm
      subst this
      exact RTb_lit (nh_mk (by omega)) (fun c => by rw [so_mk (by omega) (by omega)] at c; omega)
    · rw [List.getElem?_eq_none (by simpa using h)] at h1
      cases h1) (by omega) (by rw [r1, if_neg (by omega), if_neg (by omega), if_pos rfl]; unfold vn; rw [va_mk (by omega) (by omega)]; rfl) (by rw [r2, if_neg (by omega), if_neg (by omega), if_pos rfl]; unfold vn; rw [show va (2 : Int64) = 2 by decide]; rfl) (fun i t h => by
    rcases (show i = 0 ∨ i = 1 ∨ 2 ≤ i by omega) with rfl | rfl | h'
    · have : t = mk 0 x := by simpa using h.symm
      rw [r1, if_neg (by omega), if_pos (by omega), this]
    · have : t = mk 4 ((q : Nat) : Int) := by simpa using h.symm
      rw [r1, if_pos (by omega), this]
    · rw [List.getElem?_eq_none (by simpa using h')] at h
      cases h) (fun i t h => by
    rcases (show i = 0 ∨ i = 1 ∨ 2 ≤ i by omega) with rfl | rfl | h'
    · have : t = mk 0 x := by simpa using h.symm
      rw [r2, if_neg (by omega), if_pos (by omega), this]
    · have : t = mk 4 ((q : Nat) : Int) := by simpa using h.symm
      rw [r2, if_pos (by omega), this]
    · rw [List.getElem?_eq_none (by simpa using h')] at h
      cases h) (fun i hi => by rw [r1, if_neg (by omega), if_neg (by omega), if_neg (by omega)]) (fun i hi => by rw [r2, if_neg (by omega), if_neg (by omega), if_neg (by omega)])
  have pn := PLs_new (m2 := prM m q U x) (w2 := prW w q U x) (n := U + 3) pl (fun k a c h => Or.inl h) (fun k hk => by
    unfold prM
    rw [wi_1 (pq_inj (by simp at hk; omega))]
    rfl) (fun k hk => by
    show (wj (wj (wj m (pq q 2) U (mk 8 2)) (pq q 2) (U + 1) (mk 0 x)) (pq q 2) (U + 2) (mk 4 ((q : Nat) : Int))).2.2.2 (pq q k) = _
    rw [wj_22 (pq_inj (by simp at hk; omega)), wj_22 (pq_inj (by simp at hk; omega)), wj_22 (pq_inj (by simp at hk; omega))]) (fun k hk => by
    show (wa w 89 q ((U : Int) + 3)).2.2.1 k q = _
    rw [wa_21 (by simp at hk; omega)]) (fun k hk => by
    unfold prW
    rw [wj_22 (by simp at hk; omega), wj_22 (by simp at hk; omega), wj_22 (by simp at hk; omega)]
    rfl) (by unfold prM; rw [wi_sm (by omega) (by omega)]) (by
    show A (wa w 89 q ((U : Int) + 3)) 89 q = _
    rw [wa_sm (by omega) (by omega)]
    omega) (by omega) ti.1
  exact ⟨_, PLs_comes pn ti.2 hY⟩
end
end
section
set_option maxRecDepth 100000
def prT (N : Nat) (u5 : MS) (q : Nat) (v3 : Int32) : Option (MS × Unit) := bnd (hm_Te_make N u5 8 2) (fun u11 r11 => ck (inb (u5.1 (pq q 4)) 512) (lt (upJ u11 (pq q 2) (vp_updL (u11.2.2.2 (pq q 2)) (u5.1 (pq q 4)).toNatClampNeg r11)) (fun w13 => bnd (hm_Te_make N w13 0 v3) (fun u16 r16 => ck (inb ((u5.1 (pq q 4)) + 1) 512) (lt (upJ u16 (pq q 2) (vp_updL (u16.2.2.2 (pq q 2)) ((u5.1 (pq q 4)) + 1).toNatClampNeg r16)) (fun w18 => bnd (hm_Te_make N w18 4 (Int32.ofNat q)) (fun u23 r23 => ck (inb ((u5.1 (pq q 4)) + 2) 512) (lt (upJ u23 (pq q 2) (vp_updL (u23.2.2.2 (pq q 2)) ((u5.1 (pq q 4)) + 2).toNatClampNeg r23)) (fun w25 => lt (upI w25 (pq q 4) ((w25.1 (pq q 4)) + 3)) (fun w28 => bnd (hm_Te_make N w28 5 (u5.1 (pq q 4))) (fun u29 r29 => bnd (hm_Pr_comes N u29 q r29) (fun u30 r30 => some (u30, ())))))))))))))
section
variable {T : TYc} {Fv Fv' : Int64 → Int64 → Prop} {P : Int64 → Prop} {AN : Nat} {TT : TY} {CC : CY} {pM pE : Nat → Nat} {ND CN PN SN UN FN N PR q U Y : Nat} {m w m1 m2 w1 : MS} {x : Int}
theorem pr_m {z : Unit} (h4 : F m1 (pq q 4) = ((U : Nat) : Int)) (hU : U + 3 ≤ 500) (h7 : F m1 (pq q 7) = ((Y : Nat) : Int)) (hY : Y < 30) (hq : q < 24) (e : prT N m1 q (I x) = some (m2, z)) : m2 = coS (prM m1 q U x) q Y (mk 5 ((U : Nat) : Int)) := by
  have e4 : m1.1 (pq q 4) = I ((U : Nat) : Int) := I_F' h4
  unfold prT at e
  rw [e4, show hm_Te_make N m1 8 2 = some (m1, mk 8 2) from rfl, bnd_so] at e
  replace e := ck_i e
  rw [lt_e, tnI (n := U) rfl (by omega), wj_e, show ∀ u : MS, hm_Te_make N u 0 (I x) = some (u, mk 0 x) from fun _ => rfl, bnd_so] at e
  replace e := ck_i e
  rw [lt_e, show I ((U : Nat) : Int) + 1 = I ((U + 1 : Nat) : Int) from addN, tnI (n := U + 1) rfl (by omega), wj_e, show ∀ u : MS, hm_Te_make N u 4 (Int32.ofNat q) = some (u, mk 4 ((q : Nat) : Int)) from fun _ => rfl, bnd_so] at e
  replace e := ck_i e
  rw [lt_e, show I ((U : Nat) : Int) + 2 = I ((U + 2 : Nat) : Int) from addN, tnI (n := U + 2) rfl (by omega), wj_e, lt_e] at e
  have e5 : (wj (wj (wj m1 (pq q 2) U (mk 8 2)) (pq q 2) (U + 1) (mk 0 x)) (pq q 2) (U + 2) (mk 4 ((q : Nat) : Int))).1 (pq q 4) = I ((U : Nat) : Int) := e4
  rw [e5, show I ((U : Nat) : Int) + 3 = I ((U + 3 : Nat) : Int) from addN, wi_e, show ∀ u : MS, hm_Te_make N u 5 (I ((U : Nat) : Int)) = some (u, mk 5 ((U : Nat) : Int)) from fun _ => rfl, bnd_so] at e
  have e7 : F (prM m1 q U x) (pq q 7) = ((Y : Nat) : Int) := by
    unfold prM
    rw [wi_ne (pq_inj (by omega))]
    exact h7
  have ec := comes_e (N := N) (t := mk 5 ((U : Nat) : Int)) e7 hY
  have e9 : bnd (hm_Pr_comes N (prM m1 q U x) q (mk 5 ((U : Nat) : Int))) (fun u30 _ => some (u30, ())) = some (m2, z) := e
  rw [ec, bnd_so] at e9
  injection e9 with e9
  injection e9 with e9 _
  exact e9.symm
theorem sd_pair (hN : 11000000 ≤ N) (hpr : q < PR) (rest : REST Fv' AN TT ND UN FN PR w) (per : PER Fv' AN TT CC pM pE ND CN PN SN UN FN w) (fq : FQs WTr PR Fv P Fv' (PWs AN) m w) (tb : TBz m w) (hx : -2147483648 ≤ x ∧ x < 2147483648) (ok : PK (fun u _ => WQ Fv P PR m u) (hm_Wl_postPair N m q (I x))) {m0 w0 : MS} : PP (RHs Fv P Fv' AN PR m0 w0) (bnd (hm_Wl_postPair N m q (I x)) (fun u9 _ => hb_H_send_112 N () u9)) (sdT N (wi w 3 0) (I ((q : Nat) : Int)) (I x)) := by
  obtain ⟨i, W, ⟨h956, h955⟩, ⟨h149, h150⟩, cn, wt⟩ := fq
  have p24 : PR ≤ 24 := rest.1.1.2
  have g : FR [3] [] [] [] w (wi w 3 0) := FR.wi FR.rf (by simp)
  have W3 : WLs WTr PR Fv P Fv' (PWs AN) none i 0 m (wi w 3 0) := WL_w3 W
  have per3 : PER Fv' AN TT CC pM pE ND CN PN SN UN FN (wi w 3 0) := PER_fr per g (by decide) (by decide)
  have dw3 : DW Fv' (PQ AN PR) PR (wi w 3 0) := DW_fr rest.1 g (by simp) (by simp) (by simp) (by simp) (by simp) (by simp) (by simp) (by simp) (by simp) (by simp) (by simp) (by simp) (by simp) (by simp) (by simp) (by simp) (by simp)
  have lk3 : LK (wi w 3 0) PR := LK_fr rest.2.1.1 g (by simp) (by simp)
  have wq3 : WTQ (wi w 3 0) PR := WTQ_fr rest.2.1.2.1 g (by simp) (by simp) (by simp)
  have tb3 : TBz m (wi w 3 0) := by
    obtain ⟨t1, t2, ⟨t3, t4, t5⟩, fa, na, t7⟩ := tb
    exact ⟨TB_tab t1 ⟨rfl, rfl⟩ (fun _ _ => rfl) (fun _ _ => rfl) rfl, PN_st t2 rfl (fun _ _ => rfl) (g.1 128 (by simp)) (fun _ _ => rfl), ⟨CLk_st t3 rfl (g.1 120 (by simp)), by rw [g.1 121 (by simp)]; exact t4, by rw [g.1 119 (by simp)]; exact t5⟩, fa, na, ATf_k t7 rfl rfl rfl (g.1 14 (by simp)) rfl rfl⟩
  have cn3 : CNq P (PWs AN) m (wi w 3 0) := CN_pg cn (PG0_fr (m := m) (m2 := m) (is := []) (ls := []) (as := []) (js := []) FR.rf g (by simp) (by simp) (by simp) (by simp) (by simp)) per3.2.2.1
  have wt3 : WTs PR m (wi w 3 0) := WTs_st wt rfl (fun _ _ => rfl) (g.1 125 (by simp)) (fun _ _ => rfl)
  have e149 : F (wi w 3 0) 149 = 0 := by rw [FR.F g (by simp)]; exact h149
  have e3 : F (wi w 3 0) 3 = 0 := wi_sm (by omega) (by omega)
  clear rest per tb cn wt W h149 h150 g
  generalize wi w 3 0 = w3 at *
  have krf : ∀ u : MS, Kwac u u := fun u => ⟨fun _ _ => rfl, fun _ _ => rfl⟩
  have stay : PP (RHs Fv P Fv' AN PR m0 w0) (hb_H_send_112 N () m) (fb_M_send_238 N () w3) := sd_fin hN W3 h956 e149 cn3 wt3 tb3 (krf m) ⟨fun _ _ => rfl, fun _ _ => rfl⟩ rfl e3 ⟨dw3, lk3, wq3⟩ per3
  refine l_bnd (fun m2 z e => ?_)
  have wq := ok m2 z e
  have ka : Kwac m m2 := ywa_hm_Wl_postPair (krf m) m2 z e
  have in9 : inb (I ((q : Nat) : Int)) (ln 109) = true := inb_at (k := 109) (n := 24) rfl (by omega) (by omega) (by decide)
  have in8 : inb (I ((q : Nat) : Int)) (ln 108) = true := inb_at (k := 108) (n := 24) rfl (by omega) (by omega) (by decide)
  have tnq : (I ((q : Nat) : Int)).toNatClampNeg = q := tnI (n := q) rfl (by omega)
  have r9 := A_r w3 109 q
  have f9 := F_r m (pq q 9)
  unfold hm_Wl_postPair hb_Wl_postPair_0 hb_Wl_postPair_17 at e
  unfold sdT
  have r7 := F_r m (pq q 7)
  have r8 := A_r w3 108 q
  have d9w : decide (w3.2.2.1 109 q = 3) = decide (A w3 109 q = 3) := by
    rw [I_A (w := w3) (k := 109), show (3 : Int32) = I 3 from rfl, decE r9.1 r9.2 (by omega) (by omega)]
  have d9m : decide (m.1 (pq q 9) = 3) = decide (F m (pq q 9) = 3) := by
    rw [I_F (w := m) (k := pq q 9), show (3 : Int32) = I 3 from rfl, decE f9.1 f9.2 (by omega) (by omega)]
  have d7m : decide (m.1 (pq q 7) < 30) = decide (F m (pq q 7) < 30) := by
    rw [I_F (w := m) (k := pq q 7), show (30 : Int32) = I 30 from rfl, decL r7.1 r7.2 (by omega) (by omega)]
  have d8w : decide ((30 : Int32) ≤ w3.2.2.1 108 q) = decide (30 ≤ A w3 108 q) := by
    rw [I_A (w := w3) (k := 108), show (30 : Int32) = I 30 from rfl, decI (by omega) (by omega) r8.1 r8.2]
  rw [in9, ck_t, in8, ck_t, tnq, d9w]
  rw [d9m] at e
  rcases W3.2.2.1 q hpr with ⟨hal, h9, b, U, B, Wt, Y, pl, rs⟩ | ⟨hd, hd', -⟩
  rotate_left
  · rw [decide_eq_true hd, br_tq] at e
    cases e
    rw [decide_eq_true hd', br_tq]
    exact stay
  rw [decide_eq_false hal, br_fq] at e
  rw [decide_eq_false h9, br_fq]
  have h7 : F m (pq q 7) = ((Y : Nat) : Int) := pl.2.2.2.1
  have h108 : A w3 108 q = ((Y : Nat) : Int) := pl.2.2.2.2.1
  obtain ⟨⟨ow, kd, pt⟩, ⟨ow', kd', cw⟩, ⟨bW, bB, bY⟩, -⟩ := SF_al W3.1 hpr hal pl
  rw [d7m] at e
  rw [d8w]
  by_cases cY : Y < 30
  rotate_left
  · rw [decide_eq_false (show ¬ F m (pq q 7) < 30 by omega), br_fq] at e
    cases e
    rw [decide_eq_true (show 30 ≤ A w3 108 q by omega), br_tq]
    exact stay
  rw [decide_eq_true (show F m (pq q 7) < 30 by omega), br_tq] at e
  rw [decide_eq_false (show ¬ 30 ≤ A w3 108 q by omega), br_fq]
  obtain ⟨⟨ee, he⟩, ee', he'⟩ := SF_e W3.1 hpr hal
  have cx := W3.1.1.2
  have pb := PQ_b per3.2.2.2.2.1 p24
  have fin : ∀ w4, MPs q B Wt Y ee ee' m w3 m2 w4 → DW Fv' (PQ AN PR) PR w4 → FR [136, 138, 140, 150] [139] [89, 90, 108, 109, 135, 142, 145, 146, 147] [88, 91, 93, 107, 134, 137, 141, 148] w3 w4 → PP (RHs Fv P Fv' AN PR m0 w0) (hb_H_send_112 N () m2) (fb_M_send_238 N () w4) := fun w4 mp d4 f4 => by
    have lk4 : LK w4 PR := LK_fr lk3 f4 (by simp) (by simp)
    have wq4 : WTQ w4 PR := WTQ_fr wq3 f4 (by simp) (by simp) (by simp)
    have per4 : PER Fv' AN TT CC pM pE ND CN PN SN UN FN w4 := PER_fr per3 f4 (by decide) (by decide)
    have sf4 : SFs Fv P Fv' (PWs AN) PR m2 w4 := ⟨⟨wq.1, CTX_fr cx (wq.2.1.2.1 22 (by omega) (by simp)) (wq.2.1.2.2.2.1 3 (by omega) (by simp))⟩, ⟨DW_mo PW_q d4, lk4, wq4⟩, PB_mo PW_q pb⟩
    obtain ⟨W4, mv⟩ := wl_mps W3 hpr hal h9 (fun c => by cases c) pl rs he he' mp sf4
    exact sd_fin hN W4 (by rw [← h956]; exact congrArg Int32.toInt mv.2.2.2.1.2.2) (by rw [← e149]; exact congrArg Int32.toInt mv.2.2.2.2.2.2) (CN_pg cn3 mv.1.1 per4.2.2.1) (WTs_st wt3 mv.2.2.2.1.2.1 mv.2.2.2.1.1 mv.2.2.2.2.2.1 mv.2.2.2.2.1) tb3 ka ⟨fun k h => f4.1 k (by simp; omega), fun K h => f4.2.2.1 K (by simp; omega)⟩ mv.1.1.2.2.1 (by rw [FR.F f4 (by simp)]; exact e3) ⟨d4, lk4, wq4⟩ per4
  obtain ⟨n0, ow0, kd0, opM, bnM, bxM, hn0, cx0⟩ : PRC Fv' (PQ AN PR) w3 q := dw3.2.1 q hpr
  have wo := pk_ok (wants_ok (N := N) cx0 hn0 (k := 3) (by omega) (by omega))
  have ebx : bxM = Y := by
    have := cx0.2.2.2.2.2.2.1.1
    omega
  cases hW : hm_Pr_want N m q 3 with
  | none =>
    rw [hW] at e
    cases e
  | some y =>
  obtain ⟨m1, r1⟩ := y
  rw [hW, bnd_so] at e
  refine r_bnd (fun w1 r2 hR => ?_)
  obtain ⟨b2, U2, pl2, hr, xr, xr', -, -, -, -⟩ := want_pl (N := N) (k := 3) pt cx cw pl (PLs_z pl (by rw [dw3.2.2.2.1]; omega)) (by omega) (by omega) m1 r1 w1 r2 (show hm_Pr_want N m q (I ((3 : Nat) : Int)) = some (m1, r1) from hW) (show fm_M_wants N w3 (I ((q : Nat) : Int)) (I ((3 : Nat) : Int)) = some (w1, r2) from hR)
  obtain ⟨n2, ow2, kd2, fd, R, h1, h2⟩ := wo w1 r2 (show fm_M_wants N w3 (I ((q : Nat) : Int)) (I ((3 : Nat) : Int)) = some (w1, r2) from hR)
  have mq := MQ_wnt dw3 cx0 h1
  rw [ebx] at mq
  have en : n2 = U2 := by
    have k1 := mq.1
    have k2 := pl2.1.1.2.1
    omega
  rcases hr with ⟨rfl, rfl⟩ | ⟨rfl, rfl, hU⟩
  · 
    rw [show decide ((0 : Int32) = 0) = true from rfl, br_tq] at e ⊢
    have q9 : F m1 (pq q 9) ≠ 3 := by
      rw [show F m1 (pq q 9) = F m (pq q 9) from congrArg Int32.toInt (XRm_F xr (by omega) (by omega))]
      exact hal
    have q55 : F m1 955 = ((ee : Nat) : Int) := (congrArg Int32.toInt (XRm_G xr (by omega))).trans he.1
    have a9 : A w1 109 q ≠ 3 := by
      rw [FR.A xr'.1 (by simp)]
      exact h9
    have a150 : F w1 150 = ((ee' : Nat) : Int) := (FR.F xr'.1 (by simp)).trans he'.1
    rw [show (20 : Int32) = I 20 from rfl, endsBy_e q9 ⟨q55, he.2⟩, bnd_so] at e
    injection e with e
    injection e with e _
    have dw1 := MQ_dw mq dw3 hpr h9
    rw [show (1 : Int32) = I 1 from rfl, show (20 : Int32) = I 20 from rfl, term_e, bnd_so]
    have ew := willE_e (N := N) (w := w1) (q := q) (wr := 0) (o := ((q : Nat) : Int)) (t := mk 1 20) (by omega) a9 a150 he'.2 (by omega)
    have we := pk_ok (willEnd_ev (N := N) (wr := 0) (o := q) (t := mk 1 20) dw1 hpr (by omega) (by omega) (Or.inl ⟨nh_mk (by omega), pb.1 20 (by omega) (by omega)⟩)) _ _ ew
    rw [show (0 : Int32) = I 0 from rfl, ew, bnd_so]
    refine fin _ (Or.inr (Or.inl ⟨m1, w1, XMm.want xr, XMr.want xr', pl2.1.2.2, e.symm, rfl⟩)) we.1 (FR.tr (FR.mo xr'.1 (by simp) (by simp) (by simp) (by simp)) we.2.1.1)
  · 
    rw [show decide ((1 : Int32) = 0) = false from rfl, br_fq] at e ⊢
    subst en
    have q7 : F m1 (pq q 7) = ((Y : Nat) : Int) := pl2.2.2.2.1
    have em := pr_m (x := x) pl2.1.1.1 hU q7 cY (by omega) e
    have a89 : A w1 89 q = ((n2 : Nat) : Int) := pl2.1.1.2.1
    have a108 : A w1 108 q = ((Y : Nat) : Int) := pl2.2.2.2.2.1
    have dwX := pr_dw (x := x) dw3 pb hpr h9 cY hx mq hU
    refine r_ck (fun _ => r_ck (fun _ => r_ck (fun _ => r_lt (r_ck (fun _ => r_lt ?_)))))
    rw [I_A' a89, show (3 : Int32) = I 3 from rfl, I_add, wa_e, show (500 : Int32) = I 500 from rfl, I_mul, I_add, tnI (n := 500 * q + n2) (by omega) (by omega), wj_e, show ∀ u : MS, fm_M_term N u 0 (I x) = some (u, mk 0 x) from fun _ => rfl, bnd_so]
    refine r_ck (fun _ => r_lt ?_)
    rw [show (1 : Int32) = I 1 from rfl, I_add, tnI (n := 500 * q + (n2 + 1)) (by omega) (by omega), wj_e, show ∀ u : MS, fm_M_term N u 4 (I ((q : Nat) : Int)) = some (u, mk 4 ((q : Nat) : Int)) from fun _ => rfl, bnd_so]
    refine r_ck (fun _ => r_lt ?_)
    rw [show (2 : Int32) = I 2 from rfl, I_add, tnI (n := 500 * q + (n2 + 2)) (by omega) (by omega), wj_e]
    have b108 : (prW w1 q n2 x).2.2.1 108 q = I ((Y : Nat) : Int) := by
      show (wa w1 89 q ((n2 : Int) + 3)).2.2.1 108 q = _
      rw [wa_21 (by omega)]
      exact I_A' a108
    rw [show wj (wj (wj (wa w1 89 q (((n2 : Nat) : Int) + 3)) 88 (500 * q + n2) 2) 88 (500 * q + (n2 + 1)) (mk 0 x)) 88 (500 * q + (n2 + 2)) (mk 4 ((q : Nat) : Int)) = prW w1 q n2 x from rfl]
    refine r_ck (fun _ => ?_)
    rw [show ∀ u : MS, fm_M_term N u 5 (I ((n2 : Nat) : Int)) = some (u, mk 5 ((n2 : Nat) : Int)) from fun _ => rfl, bnd_so]
    refine r_ck (fun _ => r_lt (r_ck (fun _ => r_ck (fun _ => r_lt ?_))))
    rw [b108, show (30 : Int32) = I 30 from rfl, I_mul, I_add, tnI (n := 30 * q + Y) (by omega) (by omega), wj_e, show (wj (prW w1 q n2 x) 107 (30 * q + Y) (mk 5 ((n2 : Nat) : Int))).2.2.1 108 q = I ((Y : Nat) : Int) from b108, I_add, wa_e, show wa (wj (prW w1 q n2 x) 107 (30 * q + Y) (mk 5 ((n2 : Nat) : Int))) 108 q (((Y : Nat) : Int) + 1) = coR (prW w1 q n2 x) q Y (mk 5 ((n2 : Nat) : Int)) from rfl]
    have xm : XMm q m1 m2 := by
      rw [em]
      unfold coS prM
      exact FR.wi (FR.wj (FR.wi (FR.wj (FR.wj (FR.wj FR.rf (by simp)) (by simp)) (by simp)) (by simp)) (by simp)) (by simp)
    have x2 : XMr q w1 (prW w1 q n2 x) := by
      unfold prW
      refine XMr_two (FR.wj (FR.wj (FR.wj (FR.wa FR.rf (by simp)) (by simp)) (by simp)) (by simp)) (fun r hr => ?_) (fun k hk => ?_)
      · show A (wa w1 89 q ((n2 : Int) + 3)) 89 r = _
        rw [wa_ro (by omega) (by omega), if_neg hr]
      · rw [wj_row, if_neg (by omega), wj_row, if_neg (by omega), wj_row, if_neg (by omega)]
        rfl
    have xw : XMr q w3 (coR (prW w1 q n2 x) q Y (mk 5 ((n2 : Nat) : Int))) := XMr.tr (XMr.want xr') (XMr.tr x2 (XMr_co cY))
    refine fin _ (Or.inr (Or.inr ⟨cY, n2 + 3, ?_, XMm.tr (XMm.want xr) xm, xw⟩)) dwX (FR.mo xw.1 (by simp) (by simp) (by simp) (by simp))
    rw [em]
    exact pr_pl (by omega) pl2 hU cY hx
end
end
