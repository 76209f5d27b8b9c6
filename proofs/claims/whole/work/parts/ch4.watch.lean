/-! steps, one by one: watch -/
set_option maxRecDepth 100000
section
variable {T : TYc} {Fv Fv' : Int64 → Int64 → Prop} {P : Int64 → Prop} {AN : Nat} {TT : TY} {CC : CY} {pM pE : Nat → Nat} {ND CN PN SN UN FN N PR p i v mu M1 M2 f U B W Y l j a n : Nat} {m w : MS} {Q : MS → Int32 → MS → Int32 → Prop} {b : Int → Nat → Nat → Prop} {ow kw ow' kd' : Nat → Nat} {nb : Nat → Nat} {Hs Os : Nat → List Nat} {y : Option (Nat × Nat × Nat)}
/-- a watch of one that has ENDED: it is told -/
theorem st_wr2 {m3 w3 : MS} (ih : ∀ M1 v m w, SIA T Fv P Fv' AN TT CC pM pE ND CN PN SN UN FN p v m w → PP Q (qgo (SAf T Fv P p) N M1 m p (I ((v : Nat) : Int))) (gg_M_go N M2 w (I ((p : Nat) : Int)))) (s : STx T Fv P Fv' AN TT CC pM pE ND CN PN SN UN FN N PR p i v f b U B W Y l ow kw ow' kd' j nb Hs Os y a n m w) (k : WOs (wi m 945 (F m 945 + 1)) (wi w 121 (F m 945 + 1)) m3 w3) (h9 : F m3 1109 = 0) (W3 : SFs Fv P Fv' (PWs AN) PR m3 w3 → WLs (RRx p (SPs p)) PR Fv P Fv' (PWs AN) none i 0 m3 w3) : PP Q (q195 (SAf T Fv P p) N (qgo (SAf T Fv P p) N M1) m3 p (I ((v : Nat) : Int))) (KRs Fv' AN TT CC ND CN UN FN N p mu M2 w w3) := by
  obtain ⟨-, -, ⟨h955, h956⟩, -, cn, wt, tb, -⟩ := id s.2.2.1
  have m1 : ∀ l, l ≠ 945 → (wi m 945 (F m 945 + 1)).1 l = m.1 l := fun l h => wi_1 h
  have w1 : ∀ l, l ≠ 121 → (wi w 121 (F m 945 + 1)).1 l = w.1 l := fun l h => wi_1 h
  exact st_k2 ih s (i3 := i) (fun l hl => by
    by_cases e : l = 1106
    · subst e
      exact k.2.2.2.2.2.1.trans (m1 _ (by omega))
    · exact (k.1.1 l (by omega)).trans (m1 l (by omega))) (fun K hK => k.1.2 K (by omega)) (fun l hl => by
    by_cases e : l = 165
    · subst e
      exact k.2.2.2.2.2.2.trans (w1 _ (by omega))
    · exact (k.2.1.1 l (by omega)).trans (w1 l (by omega))) (fun K hK => k.2.1.2 K (by omega)) (((k.1.1 945 (by omega)).trans wi_s1).trans ((k.2.1.1 121 (by omega)).trans wi_s1).symm) (PN_st tb.2.1 ((k.1.1 953 (by omega)).trans (m1 953 (by omega))) (fun K hK => k.1.2 K (by omega)) ((k.2.1.1 128 (by omega)).trans (w1 128 (by omega))) (fun K hK => k.2.1.2 K (by omega))) (WTs_st wt (k.2.2.1.2.1.trans (m1 950 (by omega))) k.2.2.1.1 (k.2.2.2.2.1.trans (w1 125 (by omega))) k.2.2.2.1) ((congrArg Int32.toInt (k.2.2.1.2.2.trans (m1 956 (by omega)))).trans h956) h9 W3
/-- it watches -/
theorem pk_watch (ih : ∀ M1 v m w, SIA T Fv P Fv' AN TT CC pM pE ND CN PN SN UN FN p v m w → PP Q (qgo (SAf T Fv P p) N M1 m p (I ((v : Nat) : Int))) (gg_M_go N M2 w (I ((p : Nat) : Int)))) (s : STx T Fv P Fv' AN TT CC pM pE ND CN PN SN UN FN N PR p i v f b U B W Y l ow kw ow' kd' j nb Hs Os y a n m w) (hP4 : ∀ k, k < W → so (m.2.2.2 (pq p 35) k) = 4 → 0 ≤ va (m.2.2.2 (pq p 35) k) ∧ va (m.2.2.2 (pq p 35) k) < ((PR : Nat) : Int)) (hb : tB TT n + 1 ≤ tH TT n) (cr : ∃ f, CRs (A m 23) (ROs w) (w.2.2.2 34) f y (a + 2) (n + 1) (Hs j) (Os j)) : PP Q (bnd (hm_Ma_toward N m p (I 4)) (fun u _ => q195 (SAf T Fv P p) N (qgo (SAf T Fv P p) N M1) u p (I ((v : Nat) : Int)))) (bnd (fm_M_predefinedRun N (wa w 98 (60 * p + j) ((n + 1 : Nat) : Int)) (I 4)) (fun u _ => KRs Fv' AN TT CC ND CN UN FN N p mu M2 w u)) := by
  obtain ⟨⟨r5, r8, r2⟩, ⟨ha, hn, hv, hpp, hj⟩, nd, ⟨pl, ru, bd⟩, ⟨n1, n2, n3⟩, bH, bW, bB, bY, nND, hN⟩ := st_b s
  obtain ⟨bd1, bd2, bd3, bd4⟩ := bd
  obtain ⟨⟨-, hpr, pr24, hi, hf⟩, ⟨per, hAN⟩, ba, lp, -, -, ⟨pt, xc, h140⟩, -, -, sc, wl, -⟩ := id s
  obtain ⟨-, -, ⟨h955, h956⟩, -, cn, wt, tb, -, q942, q118⟩ := id ba
  obtain ⟨W1, rfl⟩ : ∃ W1, W = W1 + 1 := ⟨W - 1, by omega⟩
  have h98 : A (wa w 98 (60 * p + j) ((n + 1 : Nat) : Int)) 98 (60 * p + j) = ((n + 1 : Nat) : Int) := by rw [wa_sm (by omega) (by omega)]
  have t945 := tb.2.2.1.2.1
  have h950 : F m 950 = F w 125 ∧ 0 ≤ F m 950 ∧ F m 950 ≤ 200 := by
    obtain ⟨L, ws1, ws2, -⟩ := wt
    have y1 := ws1.1
    have y2 := ws2.1
    have y3 := ws1.2.1
    omega
  refine tow_hd4 (K1 := fun u => q195 (SAf T Fv P p) N (qgo (SAf T Fv P p) N M1) u p (I ((v : Nat) : Int))) (K2 := fun u => KRs Fv' AN TT CC ND CN UN FN N p mu M2 w u) hpp wl.1.1.1 (hP4 W1 (by omega)) (w1 := (wa w 98 (60 * p + j) ((n + 1 : Nat) : Int))) ru.2.2.2.2.2.2.1 h950 (by omega) bd2 ⟨bd3, bd4⟩ (PLs_98 pl) (fun q hq e4 h200 => ?_) ?_
  · by_cases dead : F m (pq q 9) = 3
    · exact op_watchE (K1 := fun u => q195 (SAf T Fv P p) N (qgo (SAf T Fv P p) N M1) u p (I ((v : Nat) : Int))) (K2 := fun u => KRs Fv' AN TT CC ND CN UN FN N p mu M2 w u) hpr hq dead wl t945 ru sc (by omega) bd2 ⟨bd3, bd4⟩ (PLs_98 pl) e4 FGw.goto h98 (SF_98 wl.1) cr (by omega) (fun b3 U3 Y3 m3 w3 a1 a2 a3 a4 => st_wr2 ih s a4 a3.2.2.2.2.2.1.2.1 (fun s3 => WL_q (WL_t (a1 s3)) (fun _ => Or.inl ⟨j, nb, Hs, Os, y, _, _, a3⟩))) (fun m3 w3 a1 a2 a3 a4 a5 => st_wr2 ih s a4 a5.1 (fun s3 => WL_q (a1 s3) (fun h => absurd a2 h)))
    · refine op_watch (K1 := fun u => q195 (SAf T Fv P p) N (qgo (SAf T Fv P p) N M1) u p (I ((v : Nat) : Int))) (K2 := fun u => KRs Fv' AN TT CC ND CN UN FN N p mu M2 w u) hpr hq dead wl wt h200 t945 ru sc (by omega) bd2 ⟨bd3, bd4⟩ (PLs_98 pl) FGw.goto h98 cr (fun mB wB m3 w3 a1 a2 a3 a4 a5 a6 a7 a8 => ?_)
      have m1 : ∀ l, l < 2000 → l ≠ 945 → l ≠ 950 → l ≠ 1105 → m3.1 l = m.1 l := fun l h1 h2 h3 h4 => (FGm_i a7 h1 h4).trans ((a5.1 l (by simp; omega)).trans (wi_1 h2))
      have w1 : ∀ l, l ≠ 121 → l ≠ 125 → (l < 136 ∨ 140 < l) → w3.1 l = w.1 l := fun l h1 h2 h3 => (FGw_i a8 h3).trans ((a6.1 l (by simp; omega)).trans (wi_1 h1))
      have mA : ∀ K, K < 49 ∨ 51 < K → m3.2.2.1 K = m.2.2.1 K := fun K hK => (FGm_a a7).trans (a5.2.2.1 K (by simp; omega))
      have wA : ∀ K, K < 88 ∨ (124 < K ∧ K < 135) → w3.2.2.1 K = w.2.2.1 K := fun K hK => (FGw_a a8 (by omega)).trans (a6.2.2.1 K (by simp; omega))
      exact st_k2 ih s (i3 := i) (fun l hl => m1 l (by omega) (by omega) (by omega) (by omega)) (fun K hK => mA K (by omega)) (fun l hl => w1 l (by omega) (by omega) (by omega)) (fun K hK => wA K (by omega)) (((FGm_i a7 (by omega) (by omega)).trans ((a5.1 945 (by simp)).trans wi_s1)).trans ((FGw_i a8 (by omega)).trans ((a6.1 121 (by simp)).trans wi_s1)).symm) (PN_st tb.2.1 (m1 953 (by omega) (by omega) (by omega) (by omega)) (fun K hK => mA K (by omega)) (w1 128 (by omega) (by omega) (by omega)) (fun K hK => wA K (by omega))) a2 ((congrArg Int32.toInt (m1 956 (by omega) (by omega) (by omega) (by omega))).trans h956) a4.2.2.2.2.2.1.2.1 (fun s3 => WL_q (WL_t (a1 s3)) (fun _ => Or.inl ⟨j, nb, Hs, Os, y, _, _, a4⟩))
  · exact st_wr (c := 11) ih s (by omega) (by rw [wi_id pl.2.2.1.1]; exact PLs_98 pl) (by omega) (by omega) FGw.goto ⟨rfl, rfl⟩
end
