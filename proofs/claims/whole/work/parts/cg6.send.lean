/-! steps that change more than p -/
set_option maxRecDepth 100000
section
variable {p : Nat} {m w m3 w3 : MS}
/-- tables, counts: a message goes -/
theorem TB_wo (h : TBs m w) (k : WOs m w m3 w3) (h34 : w3.2.2.2 34 = w.2.2.2 34) : TBs m3 w3 := by
  obtain ⟨t1, t2, ⟨t3, t4, t5⟩, t6, fa, na, t7⟩ := h
  obtain ⟨⟨k1, k2⟩, ⟨k3, k4⟩, -, -, -, k5, k6⟩ := k
  exact ⟨TB_tab t1 ⟨k1 442 (by omega), k1 449 (by omega)⟩ (fun K h => k2 K (by omega)) (fun K h => k4 K (by unfold PRr at h; omega)) h34, PN_st t2 (k1 953 (by omega)) (fun K h => k2 K (by omega)) (k3 128 (by omega)) (fun K h => k4 K (by omega)), ⟨CLk_st t3 (k1 944 (by omega)) (k3 120 (by omega)), by rw [k1 945 (by omega), k3 121 (by omega)]; exact t4, by rw [k1 946 (by omega), k3 119 (by omega)]; exact t5⟩, by rw [k5, k6]; exact t6, fa, na, ATf_k t7 (k1 22 (by omega)) (k2 2 (by omega)) (k2 3 (by omega)) (k3 14 (by omega)) (k4 12 (by omega)) (k4 13 (by omega))⟩
theorem PG_wo (k : WOs m w m3 w3) (h34 : w3.2.2.2 34 = w.2.2.2 34) : PG0 m w m3 w3 := by
  obtain ⟨⟨k1, k2⟩, ⟨k3, k4⟩, -⟩ := k
  exact ⟨⟨k2 23 (by omega), k1 22 (by omega), ATc_eq (k2 2 (by omega)) (k2 3 (by omega))⟩, fun K h => k4 K (by unfold PRr at h; omega), h34, k4 12 (by omega), k4 13 (by omega), k3 14 (by omega)⟩
end
section
variable {T : TYc} {Fv Fv' : Int64 → Int64 → Prop} {P : Int64 → Prop} {AN : Nat} {TT : TY} {CC : CY} {pM pE : Nat → Nat} {ND CN PN SN UN FN N PR p i v mu M1 M2 f U B W Y l j a n : Nat} {m w : MS} {Q : MS → Int32 → MS → Int32 → Prop} {b : Int → Nat → Nat → Prop} {ow kw ow' kd' : Nat → Nat} {nb : Nat → Nat} {Hs Os : Nat → List Nat} {y : Option (Nat × Nat × Nat)}
theorem y_none (s : STx T Fv P Fv' AN TT CC pM pE ND CN PN SN UN FN N PR p i v f b U B W Y l ow kw ow' kd' j nb Hs Os y a n m w) (hg : tG TT n = 0) : y = none := by
  obtain ⟨-, -, -, -, -, ru, -, -, -, -, -, rb, rm, -, -, rgd, -⟩ := s
  rcases ru.2.2.2.2.1 with ⟨c, -⟩ | ⟨kd', k', sc', e, fl, W0, O0, X, z1, z2, z3, -⟩
  · exact c
  · exact absurd hg (rgd z3.1).2.2
/-- behind a step: tables as the reference has left them -/
theorem aft_o2 {m3 w3 : MS} (ih : ∀ M1 v m w, SIA T Fv P Fv' AN TT CC pM pE ND CN PN SN UN FN p v m w → PP Q (qgo (SAf T Fv P p) N M1 m p (I ((v : Nat) : Int))) (gg_M_go N M2 w (I ((p : Nat) : Int)))) (s : STx T Fv P Fv' AN TT CC pM pE ND CN PN SN UN FN N PR p i v f b U B W Y l ow kw ow' kd' j nb Hs Os y a n m w) {i3 : Nat} (n942 : F m3 942 = ((PR : Nat) : Int)) (n118 : F w3 118 = ((PR : Nat) : Int)) (h9 : F m3 1109 = 0 ∨ F m3 (pq p 9) = 3) (W3 : SFs Fv P Fv' (PWs AN) PR m3 w3 → WLs (RRx p (SPs p)) PR Fv P Fv' (PWs AN) none i3 0 m3 w3) (h956 : F m3 956 = ((i3 : Nat) : Int)) (cn : w3.2.2.2 34 = w.2.2.2 34 → ATM w3 → CNq P (PWs AN) m3 w3) (wt : WTs PR m3 w3) (tb : w3.2.2.2 34 = w.2.2.2 34 → TBs m3 w3) : PP Q (q195 (SAf T Fv P p) N (qgo (SAf T Fv P p) N M1) m3 p (I ((v : Nat) : Int))) (KRs Fv' AN TT CC ND CN UN FN N p mu M2 w w3) := by
  obtain ⟨⟨hN, hpr, pr24, hi, hf⟩, ⟨per, hAN⟩, ba, -⟩ := id s
  refine pp_clr (fun rs => ?_)
  have gf : w3.2.2.2 34 = w.2.2.2 34 := by
    obtain ⟨_, _, _, _, g⟩ := rs
    exact g.2.2.2 34 (by decide)
  have h := (aft_on (M1 := M1) (mu := mu) (v := v) hN per ih hpr (by omega) n942 n118 h9 W3 h956 ba.2.2.2.1.1 (cn gf) wt (tb gf)).1
  rw [rsc_t rs] at h
  exact h
/-- a message goes -/
theorem sk_11 (ih : ∀ M1 v m w, SIA T Fv P Fv' AN TT CC pM pE ND CN PN SN UN FN p v m w → PP Q (qgo (SAf T Fv P p) N M1 m p (I ((v : Nat) : Int))) (gg_M_go N M2 w (I ((p : Nat) : Int)))) (s : STx T Fv P Fv' AN TT CC pM pE ND CN PN SN UN FN N PR p i v f b U B W Y l ow kw ow' kd' j nb Hs Os y a n m w) (hP4 : ∀ k, k < W → so (m.2.2.2 (pq p 35) k) = 4 → 0 ≤ va (m.2.2.2 (pq p 35) k) ∧ va (m.2.2.2 (pq p 35) k) < ((PR : Nat) : Int)) (h23 : A w 23 n = 11) (c0 : A m 23 a = 17) (cr : ∃ f, CRs (A m 23) (ROs w) (w.2.2.2 34) f y (a + 1) (n + 1) (Hs j) (Os j)) : PP Q (q67 (SAf T Fv P p) N (qgo (SAf T Fv P p) N M1) m p (I ((v : Nat) : Int))) (bnd (fm_M_one N w (I ((n : Nat) : Int)) (I 11)) (fun u _ => KRs Fv' AN TT CC ND CN UN FN N p mu M2 w u)) := by
  obtain ⟨⟨r5, r8, r2⟩, ⟨ha, hn, hv, hpp, hj⟩, nd, ⟨pl, ru, bd⟩, ⟨n1, n2, n3⟩, bH, bW, bB, bY, nND, hN⟩ := st_b s
  obtain ⟨bd1, bd2, bd3, bd4⟩ := bd
  obtain ⟨k1, k2, -⟩ := n2.1 h23
  obtain ⟨W1, rfl⟩ : ∃ W1, W = W1 + 2 := ⟨W - 2, by omega⟩
  obtain ⟨⟨-, hpr, pr24, hi, hf⟩, ⟨per, hAN⟩, ba, lp, -, -, -, -, -, -, wl, -⟩ := id s
  obtain ⟨-, -, ⟨h955, h956⟩, -, cn, wt, tb, -, q942, q118⟩ := id ba
  rw [go_vl r5 r8 (by omega) r2 (by omega) c0 ⟨by omega, by omega⟩]
  have wts : ∀ m3 w3, WOs m w m3 w3 → WTs PR m3 w3 := fun m3 w3 k => WTs_st wt k.2.2.1.2.1 k.2.2.1.1 k.2.2.2.2.1 k.2.2.2.1
  refine op_send (K1 := fun u => q195 (SAf T Fv P p) N (qgo (SAf T Fv P p) N M1) u p (I ((v : Nat) : Int))) (K2 := fun u => KRs Fv' AN TT CC ND CN UN FN N p mu M2 w u) hpr wl pl ru (hP4 W1 (by omega)) cr (by omega) ?_ (fun b3 U3 Y3 m3 w3 a1 a2 a3 a4 => ?_) (fun m3 w3 a1 a2 a3 a4 a5 => ?_)
  · exact st_wr (c := 11) ih s (by omega) (by rw [wi_id pl.2.2.1.1]; exact PLs_98 pl) (by omega) (by omega) FGw.goto ⟨rfl, rfl⟩
  · exact aft_o2 ih s (i3 := i) ((congrArg Int32.toInt (a4.1.1 942 (by omega))).trans q942) ((congrArg Int32.toInt (a4.2.1.1 118 (by omega))).trans q118) (Or.inl a3.2.2.2.2.2.1.2.1) (fun s3 => WL_q (WL_t (a1 s3)) (fun _ => Or.inl ⟨j, nb, Hs, Os, y, _, _, a3⟩)) ((congrArg Int32.toInt a4.2.2.1.2.2).trans h956) (fun e a => CN_pg cn (PG_wo a4 e) a) (wts m3 w3 a4) (fun e => TB_wo tb a4 e)
  · exact aft_o2 ih s (i3 := i) ((congrArg Int32.toInt (a4.1.1 942 (by omega))).trans q942) ((congrArg Int32.toInt (a4.2.1.1 118 (by omega))).trans q118) (Or.inl a5.1) (fun s3 => WL_q (a1 s3) (fun h => absurd a2 h)) ((congrArg Int32.toInt a4.2.2.1.2.2).trans h956) (fun e a => CN_pg cn (PG_wo a4 e) a) (wts m3 w3 a4) (fun e => TB_wo tb a4 e)
end
