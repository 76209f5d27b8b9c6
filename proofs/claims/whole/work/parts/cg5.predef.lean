/-! steps, one by one: what is PREDEFINED, p alone -/
set_option maxRecDepth 100000
section
variable {T : TYc} {Fv Fv' : Int64 → Int64 → Prop} {P : Int64 → Prop} {AN : Nat} {TT : TY} {CC : CY} {pM pE : Nat → Nat} {ND CN PN SN UN FN N PR p i v mu M1 M2 f U B W Y l j a n : Nat} {m w : MS} {Q : MS → Int32 → MS → Int32 → Prop} {b : Int → Nat → Nat → Prop} {ow kw ow' kd' : Nat → Nat} {nb : Nat → Nat} {Hs Os : Nat → List Nat} {y : Option (Nat × Nat × Nat)}
/-- how many wait -/
theorem sp_b (s : STx T Fv P Fv' AN TT CC pM pE ND CN PN SN UN FN N PR p i v f b U B W Y l ow kw ow' kd' j nb Hs Os y a n m w) {d : Nat} (hd : d < 30) (h23 : A w 23 n = 12) (h27 : A w 27 n = ((2000 + d : Nat) : Int)) : tB TT n + npre d ≤ tH TT n ∧ (tG TT n ≠ 0 → 18 ≤ d) := by
  obtain ⟨-, -, -, -, ⟨n1, n2, n3⟩, -⟩ := st_b s
  have fn := s.2.1.1.1.1.2.2.2.2.1
  obtain ⟨⟨b9, y1, y2, y3, -, y4⟩, -⟩ := n3.2.2.2.2.2.2.2.2.1 h23
  rcases y4 with ⟨k, k1, k2, k3, k4⟩ | ⟨-, k1, k2, -⟩
  · have ek : k = d := by omega
    subst ek
    exact ⟨by omega, k4⟩
  · omega
/-- of which sort -/
theorem pk_tests {d k : Int} (ih : ∀ M1 v m w, SIA T Fv P Fv' AN TT CC pM pE ND CN PN SN UN FN p v m w → PP Q (qgo (SAf T Fv P p) N M1 m p (I ((v : Nat) : Int))) (gg_M_go N M2 w (I ((p : Nat) : Int)))) (s : STx T Fv P Fv' AN TT CC pM pE ND CN PN SN UN FN N PR p i v f b U B W Y l ow kw ow' kd' j nb Hs Os y a n m w) (hd : (d = 17 ∧ k = 18) ∨ (d = 18 ∧ k = 19) ∨ (d = 19 ∧ k = 20) ∨ (d = 20 ∧ k = 21) ∨ (d = 21 ∧ k = 22) ∨ (d = 22 ∧ k = 23) ∨ (d = 23 ∧ k = 24)) (hb : tB TT n + 1 ≤ tH TT n) (cr : ∃ f, CRs (A m 23) (ROs w) (w.2.2.2 34) f y (a + 2) (n + 1) (Hs j) (Os j)) : PP Q (bnd (hm_Ma_predefined N m p (I d)) (fun u _ => q195 (SAf T Fv P p) N (qgo (SAf T Fv P p) N M1) u p (I ((v : Nat) : Int)))) (bnd (fm_M_predefinedRun N (wa w 98 (60 * p + j) ((n + 1 : Nat) : Int)) (I k)) (fun u _ => KRs Fv' AN TT CC ND CN UN FN N p mu M2 w u)) := by
  obtain ⟨⟨r5, r8, r2⟩, ⟨ha, hn, hv, hpp, hj⟩, nd, ⟨pl, ru, bd⟩, ⟨n1, n2, n3⟩, bH, bW, bB, bY, nND, hN⟩ := st_b s
  obtain ⟨bd1, bd2, bd3, bd4⟩ := bd
  obtain ⟨W1, rfl⟩ : ∃ W1, W = W1 + 1 := ⟨W - 1, by omega⟩
  exact op_tests (K1 := fun u => q195 (SAf T Fv P p) N (qgo (SAf T Fv P p) N M1) u p (I ((v : Nat) : Int))) (K2 := fun u => KRs Fv' AN TT CC ND CN UN FN N p mu M2 w u) hd hpp ru (by omega) bd2 ⟨bd3, bd4⟩ (PLs_98 pl) FGw.goto (by rw [wa_sm (by omega) (by omega)]) cr (fun m3 w3 a1 a2 a3 a4 => st_fg ih s hj a1 a2 a3 a4)
/-- parts of a term -/
theorem pk_parts {d k : Int} (ih : ∀ M1 v m w, SIA T Fv P Fv' AN TT CC pM pE ND CN PN SN UN FN p v m w → PP Q (qgo (SAf T Fv P p) N M1 m p (I ((v : Nat) : Int))) (gg_M_go N M2 w (I ((p : Nat) : Int)))) (s : STx T Fv P Fv' AN TT CC pM pE ND CN PN SN UN FN N PR p i v f b U B W Y l ow kw ow' kd' j nb Hs Os y a n m w) (hd : (d = 24 ∧ k = 25) ∨ (d = 25 ∧ k = 26) ∨ (d = 26 ∧ k = 27) ∨ (d = 28 ∧ k = 29)) (hb : tB TT n + 1 ≤ tH TT n) (cr : ∃ f, CRs (A m 23) (ROs w) (w.2.2.2 34) f y (a + 2) (n + 1) (Hs j) (Os j)) : PP Q (bnd (hm_Ma_predefined N m p (I d)) (fun u _ => q195 (SAf T Fv P p) N (qgo (SAf T Fv P p) N M1) u p (I ((v : Nat) : Int)))) (bnd (fm_M_predefinedRun N (wa w 98 (60 * p + j) ((n + 1 : Nat) : Int)) (I k)) (fun u _ => KRs Fv' AN TT CC ND CN UN FN N p mu M2 w u)) := by
  obtain ⟨⟨r5, r8, r2⟩, ⟨ha, hn, hv, hpp, hj⟩, nd, ⟨pl, ru, bd⟩, ⟨n1, n2, n3⟩, bH, bW, bB, bY, nND, hN⟩ := st_b s
  obtain ⟨bd1, bd2, bd3, bd4⟩ := bd
  obtain ⟨W1, rfl⟩ : ∃ W1, W = W1 + 1 := ⟨W - 1, by omega⟩
  obtain ⟨pt, xc, h140⟩ := s.2.2.2.2.2.2.1
  exact op_parts (K1 := fun u => q195 (SAf T Fv P p) N (qgo (SAf T Fv P p) N M1) u p (I ((v : Nat) : Int))) (K2 := fun u => KRs Fv' AN TT CC ND CN UN FN N p mu M2 w u) hd hpp ru (by omega) bd2 ⟨bd3, bd4⟩ (PLs_98 pl) FGw.goto (by rw [wa_sm (by omega) (by omega)]) pt.1.2.2 xc.2.1 (pt.2.2.1.2 W1 (by omega)) (xc.2.2.2.2.2.2.2.1 W1 (by omega)) cr (fun m3 w3 a1 a2 a3 a4 => st_fg ih s hj a1 a2 a3 a4) (fun w3 a1 a2 a3 => st_wr (c := 11) ih s (by omega) a1 (by omega) (by omega) a2 a3)
/-- one part -/
theorem pk_elem (ih : ∀ M1 v m w, SIA T Fv P Fv' AN TT CC pM pE ND CN PN SN UN FN p v m w → PP Q (qgo (SAf T Fv P p) N M1 m p (I ((v : Nat) : Int))) (gg_M_go N M2 w (I ((p : Nat) : Int)))) (s : STx T Fv P Fv' AN TT CC pM pE ND CN PN SN UN FN N PR p i v f b U B W Y l ow kw ow' kd' j nb Hs Os y a n m w) (hb : tB TT n + 2 ≤ tH TT n) (cr : ∃ f, CRs (A m 23) (ROs w) (w.2.2.2 34) f y (a + 2) (n + 1) (Hs j) (Os j)) : PP Q (bnd (hm_Ma_predefined N m p (I 27)) (fun u _ => q195 (SAf T Fv P p) N (qgo (SAf T Fv P p) N M1) u p (I ((v : Nat) : Int)))) (bnd (fm_M_predefinedRun N (wa w 98 (60 * p + j) ((n + 1 : Nat) : Int)) (I 28)) (fun u _ => KRs Fv' AN TT CC ND CN UN FN N p mu M2 w u)) := by
  obtain ⟨⟨r5, r8, r2⟩, ⟨ha, hn, hv, hpp, hj⟩, nd, ⟨pl, ru, bd⟩, ⟨n1, n2, n3⟩, bH, bW, bB, bY, nND, hN⟩ := st_b s
  obtain ⟨bd1, bd2, bd3, bd4⟩ := bd
  obtain ⟨W1, rfl⟩ : ∃ W1, W = W1 + 2 := ⟨W - 2, by omega⟩
  obtain ⟨pt, xc, h140⟩ := s.2.2.2.2.2.2.1
  exact op_elem (K1 := fun u => q195 (SAf T Fv P p) N (qgo (SAf T Fv P p) N M1) u p (I ((v : Nat) : Int))) (K2 := fun u => KRs Fv' AN TT CC ND CN UN FN N p mu M2 w u) hpp ru (by omega) bd2 ⟨bd3, bd4⟩ (PLs_98 pl) FGw.goto (by rw [wa_sm (by omega) (by omega)]) pt.1.2.2 xc.2.1 (pt.2.2.1.2 (W1 + 1) (by omega)) (xc.2.2.2.2.2.2.2.1 (W1 + 1) (by omega)) cr (fun m3 w3 a1 a2 a3 a4 => st_fg ih s hj a1 a2 a3 a4) (fun w3 a1 a2 a3 => st_wr (c := 11) ih s (by omega) a1 (by omega) (by omega) a2 a3)
/-- itself, the CLOCK -/
theorem pk_here {d k : Int} (ih : ∀ M1 v m w, SIA T Fv P Fv' AN TT CC pM pE ND CN PN SN UN FN p v m w → PP Q (qgo (SAf T Fv P p) N M1 m p (I ((v : Nat) : Int))) (gg_M_go N M2 w (I ((p : Nat) : Int)))) (s : STx T Fv P Fv' AN TT CC pM pE ND CN PN SN UN FN N PR p i v f b U B W Y l ow kw ow' kd' j nb Hs Os y a n m w) (hd : (d = 0 ∧ k = 0) ∨ (d = 16 ∧ k = 17)) (cr : ∃ f, CRs (A m 23) (ROs w) (w.2.2.2 34) f y (a + 2) (n + 1) (Hs j) (Os j)) : PP Q (bnd (hm_Ma_predefined N m p (I d)) (fun u _ => q195 (SAf T Fv P p) N (qgo (SAf T Fv P p) N M1) u p (I ((v : Nat) : Int)))) (bnd (fm_M_predefinedRun N (wa w 98 (60 * p + j) ((n + 1 : Nat) : Int)) (I k)) (fun u _ => KRs Fv' AN TT CC ND CN UN FN N p mu M2 w u)) := by
  obtain ⟨⟨r5, r8, r2⟩, ⟨ha, hn, hv, hpp, hj⟩, nd, ⟨pl, ru, bd⟩, ⟨n1, n2, n3⟩, bH, bW, bB, bY, nND, hN⟩ := st_b s
  obtain ⟨bd1, bd2, bd3, bd4⟩ := bd
  obtain ⟨-, -, ⟨t944, -, -⟩, -⟩ := s.2.2.1.2.2.2.2.2.2.1
  exact op_here (K1 := fun u => q195 (SAf T Fv P p) N (qgo (SAf T Fv P p) N M1) u p (I ((v : Nat) : Int))) (K2 := fun u => KRs Fv' AN TT CC ND CN UN FN N p mu M2 w u) hd hpp ru t944.1 (by omega) bd2 ⟨bd3, bd4⟩ (PLs_98 pl) FGw.goto (by rw [wa_sm (by omega) (by omega)]) cr (fun m3 w3 a1 a2 a3 a4 => st_fg ih s hj a1 a2 a3 a4)
/-- it is told upward -/
theorem pk_tells {d k how kn : Int} (ih : ∀ M1 v m w, SIA T Fv P Fv' AN TT CC pM pE ND CN PN SN UN FN p v m w → PP Q (qgo (SAf T Fv P p) N M1 m p (I ((v : Nat) : Int))) (gg_M_go N M2 w (I ((p : Nat) : Int)))) (s : STx T Fv P Fv' AN TT CC pM pE ND CN PN SN UN FN N PR p i v f b U B W Y l ow kw ow' kd' j nb Hs Os y a n m w) (hd : (d = 7 ∧ k = 7 ∧ how = 2 ∧ kn = 1) ∨ (d = 8 ∧ k = 9 ∧ how = 3 ∧ kn = 2) ∨ (d = 9 ∧ k = 10 ∧ how = 1 ∧ kn = 0)) (hb : tB TT n + 1 ≤ tH TT n) (cr : ∃ f, CRs (A m 23) (ROs w) (w.2.2.2 34) f y (a + 2) (n + 1) (Hs j) (Os j)) : PP Q (bnd (hm_Ma_predefined N m p (I d)) (fun u _ => q195 (SAf T Fv P p) N (qgo (SAf T Fv P p) N M1) u p (I ((v : Nat) : Int)))) (bnd (fm_M_predefinedRun N (wa w 98 (60 * p + j) ((n + 1 : Nat) : Int)) (I k)) (fun u _ => KRs Fv' AN TT CC ND CN UN FN N p mu M2 w u)) := by
  obtain ⟨⟨r5, r8, r2⟩, ⟨ha, hn, hv, hpp, hj⟩, nd, ⟨pl, ru, bd⟩, ⟨n1, n2, n3⟩, bH, bW, bB, bY, nND, hN⟩ := st_b s
  obtain ⟨bd1, bd2, bd3, bd4⟩ := bd
  obtain ⟨W1, rfl⟩ : ∃ W1, W = W1 + 1 := ⟨W - 1, by omega⟩
  obtain ⟨pt, xc, h140⟩ := s.2.2.2.2.2.2.1
  exact op_tells (K1 := fun u => q195 (SAf T Fv P p) N (qgo (SAf T Fv P p) N M1) u p (I ((v : Nat) : Int))) (K2 := fun u => KRs Fv' AN TT CC ND CN UN FN N p mu M2 w u) hd hpp ru (by omega) bd2 ⟨bd3, bd4⟩ (PLs_98 pl) FGw.goto (fun w3 a1 a2 a3 => st_er (d := 19) ih s (by omega) a1 (by omega) (by omega) a2 a3 (pt.2.2.1.2 W1 (by omega)) (xc.2.2.2.2.2.2.2.1 W1 (by omega)) (pl.2.2.1.2.2 W1 (by omega)))
/-- it traps, or not -/
theorem pk_trap (ih : ∀ M1 v m w, SIA T Fv P Fv' AN TT CC pM pE ND CN PN SN UN FN p v m w → PP Q (qgo (SAf T Fv P p) N M1 m p (I ((v : Nat) : Int))) (gg_M_go N M2 w (I ((p : Nat) : Int)))) (s : STx T Fv P Fv' AN TT CC pM pE ND CN PN SN UN FN N PR p i v f b U B W Y l ow kw ow' kd' j nb Hs Os y a n m w) (hb : tB TT n + 1 ≤ tH TT n) (cr : ∃ f, CRs (A m 23) (ROs w) (w.2.2.2 34) f y (a + 2) (n + 1) (Hs j) (Os j)) : PP Q (bnd (hm_Ma_predefined N m p (I 6)) (fun u _ => q195 (SAf T Fv P p) N (qgo (SAf T Fv P p) N M1) u p (I ((v : Nat) : Int)))) (bnd (fm_M_predefinedRun N (wa w 98 (60 * p + j) ((n + 1 : Nat) : Int)) (I 6)) (fun u _ => KRs Fv' AN TT CC ND CN UN FN N p mu M2 w u)) := by
  obtain ⟨⟨r5, r8, r2⟩, ⟨ha, hn, hv, hpp, hj⟩, nd, ⟨pl, ru, bd⟩, ⟨n1, n2, n3⟩, bH, bW, bB, bY, nND, hN⟩ := st_b s
  obtain ⟨bd1, bd2, bd3, bd4⟩ := bd
  obtain ⟨W1, rfl⟩ : ∃ W1, W = W1 + 1 := ⟨W - 1, by omega⟩
  exact op_trap (K1 := fun u => q195 (SAf T Fv P p) N (qgo (SAf T Fv P p) N M1) u p (I ((v : Nat) : Int))) (K2 := fun u => KRs Fv' AN TT CC ND CN UN FN N p mu M2 w u) hpp ru s.2.2.2.2.2.2.2.2.2.1 (by omega) bd2 ⟨bd3, bd4⟩ (PLs_98 pl) FGw.goto (by rw [wa_sm (by omega) (by omega)]) cr (fun m3 w3 a1 a2 a3 a4 a5 => (st_ru ih s a1 a2 a3 a4 (fun _ => a5)).1) (fun w3 a1 a2 a3 => st_wr (c := 11) ih s (by omega) a1 (by omega) (by omega) a2 a3)
end
