/-! steps, one by one: names -/
set_option maxRecDepth 100000
section
variable {T : TYc} {Fv Fv' : Int64 → Int64 → Prop} {P : Int64 → Prop} {AN : Nat} {TT : TY} {CC : CY} {pM pE : Nat → Nat} {ND CN PN SN UN FN N PR p i v mu M1 M2 f U B W Y l j a n : Nat} {m w : MS} {Q : MS → Int32 → MS → Int32 → Prop} {b : Int → Nat → Nat → Prop} {ow kw ow' kd' : Nat → Nat} {nb : Nat → Nat} {Hs Os : Nat → List Nat} {y : Option (Nat × Nat × Nat)}
/-- a name comes or goes -/
theorem st_nm {q : Nat} {z : Int} {m3 w3 : MS} {b3 : Int → Nat → Nat → Prop} {U3 B3 W3 Y3 j3 a3 n3 : Nat} {nb3 : Nat → Nat} {Hs3 Os3 : Nat → List Nat} {y3 : Option (Nat × Nat × Nat)} (ih : ∀ M1 v m w, SIA T Fv P Fv' AN TT CC pM pE ND CN PN SN UN FN p v m w → PP Q (qgo (SAf T Fv P p) N M1 m p (I ((v : Nat) : Int))) (gg_M_go N M2 w (I ((p : Nat) : Int)))) (s : STx T Fv P Fv' AN TT CC pM pE ND CN PN SN UN FN N PR p i v f b U B W Y l ow kw ow' kd' j nb Hs Os y a n m w) (hq : q < PR) (alq : F m (pq q 9) ≠ 3) (pl3 : PLs b3 p m3 w3 U3 B3 W3 Y3) (ru3 : RUs m3 w3 p j3 nb3 Hs3 Os3 y3 a3 n3) (fm : FGm p (wi m (pq q 12) z) m3) (fw : FGw p j (wa w 113 q z) w3) : PP Q (q195 (SAf T Fv P p) N (qgo (SAf T Fv P p) N M1) m3 p (I ((v : Nat) : Int))) (KRs Fv' AN TT CC ND CN UN FN N p mu M2 w w3) := by
  obtain ⟨⟨r5, r8, r2⟩, ⟨ha, hn, hv, hpp, hj⟩, nd, ⟨pl, ru, bd⟩, ⟨n1, n2, n3⟩, bH, bW, bB, bY, nND, hN⟩ := st_b s
  obtain ⟨bd1, bd2, bd3, bd4⟩ := bd
  obtain ⟨⟨-, hpr, pr24, hi, hf⟩, ⟨per, hAN⟩, ba, lp, -, -, ⟨pt, xc, h140⟩, -, -, sc, wl, -⟩ := id s
  obtain ⟨-, -, ⟨h955, h956⟩, -, cn, wt, tb, -, q942, q118⟩ := id ba
  have alw : A w 109 q ≠ 3 := by
    rcases wl.2.2.1 q hq with ⟨-, x, -⟩ | ⟨x, -⟩
    · exact x
    · exact absurd x alq
  have r6 := ru.2.2.2.1.2
  have m1 : ∀ l, l < 2000 → l ≠ 1105 → m3.1 l = m.1 l := fun l h1 h2 => (FGm_i fm h1 h2).trans (wi_1 (pq_n h1))
  have w1 : ∀ l, (l < 136 ∨ 140 < l) → w3.1 l = w.1 l := fun l h => (FGw_i (w := wa w 113 q z) fw h).trans rfl
  have mA : ∀ K, m3.2.2.1 K = m.2.2.1 K := fun K => (FGm_a (m := wi m (pq q 12) z) fm).trans rfl
  have wA : ∀ K, K < 89 ∨ (113 < K ∧ K < 135) → w3.2.2.1 K = w.2.2.1 K := fun K hK => (FGw_a fw (by omega)).trans (wa_21 (by omega))
  have h9 : F (wi m (pq q 12) z) (pq p 9) ≠ 3 := by
    rw [wi_ne (fun c => by have := (pq_e (by omega) (by omega) c).2; omega)]
    omega
  have h109 : A (wa w 113 q z) 109 p ≠ 3 := by
    rw [wa_rne (by omega)]
    omega
  have r9 := ru3.2.2.2.1
  have t945 := tb.2.2.1.2.1
  exact st_k2 ih s (i3 := i) (fun l hl => m1 l (by omega) (by omega)) (fun K hK => mA K) (fun l hl => w1 l (by omega)) (fun K hK => wA K (by omega)) (by rw [m1 945 (by omega) (by omega), w1 121 (by omega)]; exact t945) (PN_st tb.2.1 (m1 953 (by omega) (by omega)) (fun K hK => mA K) (w1 128 (by omega)) (fun K hK => wA K (by omega))) (WTs_st wt (m1 950 (by omega) (by omega)) (fun l hl => mA l) (w1 125 (by omega)) (fun l hl => wA l (by omega))) ((congrArg Int32.toInt (m1 956 (by omega) (by omega))).trans h956) ru3.2.2.2.2.2.1.2.1 (fun s3 => WL_q (WL_ownt (WL_t (WL_nm wl alq alw)) hpr h9 h109 s3 (GGm_fg fm) (GGw_fg fw hj) pl3 (SC_fg (SCs_nm sc) fm fw) (by omega)) (fun _ => Or.inl ⟨j3, nb3, Hs3, Os3, y3, _, _, ru3⟩))
/-- whose name it is; a name goes -/
theorem pk_named {d : Int} (ih : ∀ M1 v m w, SIA T Fv P Fv' AN TT CC pM pE ND CN PN SN UN FN p v m w → PP Q (qgo (SAf T Fv P p) N M1 m p (I ((v : Nat) : Int))) (gg_M_go N M2 w (I ((p : Nat) : Int)))) (s : STx T Fv P Fv' AN TT CC pM pE ND CN PN SN UN FN N PR p i v f b U B W Y l ow kw ow' kd' j nb Hs Os y a n m w) (hd : d = 13 ∨ d = 14) (hb : tB TT n + 1 ≤ tH TT n) (cr : ∃ f, CRs (A m 23) (ROs w) (w.2.2.2 34) f y (a + 2) (n + 1) (Hs j) (Os j)) : PP Q (bnd (hm_Ma_predefined N m p (I d)) (fun u _ => q195 (SAf T Fv P p) N (qgo (SAf T Fv P p) N M1) u p (I ((v : Nat) : Int)))) (bnd (fm_M_predefinedRun N (wa w 98 (60 * p + j) ((n + 1 : Nat) : Int)) (I (d + 1))) (fun u _ => KRs Fv' AN TT CC ND CN UN FN N p mu M2 w u)) := by
  obtain ⟨⟨r5, r8, r2⟩, ⟨ha, hn, hv, hpp, hj⟩, nd, ⟨pl, ru, bd⟩, ⟨n1, n2, n3⟩, bH, bW, bB, bY, nND, hN⟩ := st_b s
  obtain ⟨bd1, bd2, bd3, bd4⟩ := bd
  obtain ⟨⟨-, hpr, pr24, hi, hf⟩, ⟨per, hAN⟩, ba, lp, -, -, ⟨pt, xc, h140⟩, -, -, sc, wl, -⟩ := id s
  obtain ⟨-, -, ⟨h955, h956⟩, -, cn, wt, tb, -, q942, q118⟩ := id ba
  obtain ⟨W1, rfl⟩ : ∃ W1, W = W1 + 1 := ⟨W - 1, by omega⟩
  have h98 : A (wa w 98 (60 * p + j) ((n + 1 : Nat) : Int)) 98 (60 * p + j) = ((n + 1 : Nat) : Int) := by rw [wa_sm (by omega) (by omega)]
  exact op_named (K1 := fun u => q195 (SAf T Fv P p) N (qgo (SAf T Fv P p) N M1) u p (I ((v : Nat) : Int))) (K2 := fun u => KRs Fv' AN TT CC ND CN UN FN N p mu M2 w u) hd hpp (NDs_of wl) ru (by omega) bd2 ⟨bd3, bd4⟩ (PLs_98 pl) FGw.goto h98 cr (fun m3 w3 a1 a2 a3 a4 => st_fg ih s hj a1 a2 a3 a4) (fun q m3 w3 hq alq a1 a2 a3 a4 => st_nm ih s hq alq a1 a2 a3 a4) (fun w3 a1 a2 a3 => st_wr (c := 11) ih s (by omega) a1 (by omega) (by omega) a2 a3)
/-- it has a name from now on -/
theorem pk_name2 (ih : ∀ M1 v m w, SIA T Fv P Fv' AN TT CC pM pE ND CN PN SN UN FN p v m w → PP Q (qgo (SAf T Fv P p) N M1 m p (I ((v : Nat) : Int))) (gg_M_go N M2 w (I ((p : Nat) : Int)))) (s : STx T Fv P Fv' AN TT CC pM pE ND CN PN SN UN FN N PR p i v f b U B W Y l ow kw ow' kd' j nb Hs Os y a n m w) (hP4 : ∀ k, k < W → so (m.2.2.2 (pq p 35) k) = 4 → 0 ≤ va (m.2.2.2 (pq p 35) k) ∧ va (m.2.2.2 (pq p 35) k) < ((PR : Nat) : Int)) (hb : tB TT n + 2 ≤ tH TT n) (cr : ∃ f, CRs (A m 23) (ROs w) (w.2.2.2 34) f y (a + 2) (n + 1) (Hs j) (Os j)) : PP Q (bnd (hm_Ma_predefined N m p (I 12)) (fun u _ => q195 (SAf T Fv P p) N (qgo (SAf T Fv P p) N M1) u p (I ((v : Nat) : Int)))) (bnd (fm_M_predefinedRun N (wa w 98 (60 * p + j) ((n + 1 : Nat) : Int)) (I 13)) (fun u _ => KRs Fv' AN TT CC ND CN UN FN N p mu M2 w u)) := by
  obtain ⟨⟨r5, r8, r2⟩, ⟨ha, hn, hv, hpp, hj⟩, nd, ⟨pl, ru, bd⟩, ⟨n1, n2, n3⟩, bH, bW, bB, bY, nND, hN⟩ := st_b s
  obtain ⟨bd1, bd2, bd3, bd4⟩ := bd
  obtain ⟨⟨-, hpr, pr24, hi, hf⟩, ⟨per, hAN⟩, ba, lp, -, -, ⟨pt, xc, h140⟩, -, -, sc, wl, -⟩ := id s
  obtain ⟨-, -, ⟨h955, h956⟩, -, cn, wt, tb, -, q942, q118⟩ := id ba
  obtain ⟨W1, rfl⟩ : ∃ W1, W = W1 + 2 := ⟨W - 2, by omega⟩
  have h98 : A (wa w 98 (60 * p + j) ((n + 1 : Nat) : Int)) 98 (60 * p + j) = ((n + 1 : Nat) : Int) := by rw [wa_sm (by omega) (by omega)]
  exact op_name2 (K1 := fun u => q195 (SAf T Fv P p) N (qgo (SAf T Fv P p) N M1) u p (I ((v : Nat) : Int))) (K2 := fun u => KRs Fv' AN TT CC ND CN UN FN N p mu M2 w u) hpp (NDs_of wl) wl.1.1.1 (hP4 (W1 + 1) (by omega)) ru (by omega) bd2 ⟨bd3, bd4⟩ (PLs_98 pl) FGw.goto h98 cr (fun q z m3 w3 hq alq _ a1 a2 a3 a4 => st_nm ih s hq alq a1 a2 a3 a4) (fun w3 a1 a2 a3 => st_wr (c := 11) ih s (by omega) a1 (by omega) (by omega) a2 a3)
end
