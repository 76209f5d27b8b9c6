/-! steps, one by one: terms are made, two become one -/
set_option maxRecDepth 100000
section
variable {T : TYc} {Fv Fv' : Int64 → Int64 → Prop} {P : Int64 → Prop} {AN : Nat} {TT : TY} {CC : CY} {pM pE : Nat → Nat} {ND CN PN SN UN FN N PR p i v mu M1 M2 f U B W Y l j a n : Nat} {m w : MS} {Q : MS → Int32 → MS → Int32 → Prop} {b : Int → Nat → Nat → Prop} {ow kw ow' kd' : Nat → Nat} {nb : Nat → Nat} {Hs Os : Nat → List Nat} {y : Option (Nat × Nat × Nat)}
theorem in_2 {u : MS} {i h m g x : Nat} {L : List Nat} (q : IN1 T u i h m L g x ∨ IN2 T u i h m L g x ∨ IN3 T u i h m L g x) (e : A u 23 i = 2) : ∃ n : Nat, A u 23 (i + 1) = ((n : Nat) : Int) ∧ n ≤ 40 := by
  rcases q with q | q | q
  · rcases q with q | q | q | q | q | q | q | q | q | q | q | q | q
    · exfalso; have := q.1; omega
    · obtain ⟨-, n, h1, h2, -⟩ := q
      exact ⟨n, h1, h2⟩
    all_goals (exfalso; have := q.1; omega)
  · exfalso
    rcases q with q | q | q | q | q | q | q | q | q | q | q <;> (have := q.1; omega)
  · exfalso
    rcases q with q | q | q | q | q | q | q | q | q
    iterate 5 (have := q.1; omega)
    · omega
    all_goals (have := q.1; omega)
/-- not -/
theorem sk_7 (ih : ∀ M1 v m w, SIA T Fv P Fv' AN TT CC pM pE ND CN PN SN UN FN p v m w → PP Q (qgo (SAf T Fv P p) N M1 m p (I ((v : Nat) : Int))) (gg_M_go N M2 w (I ((p : Nat) : Int)))) (s : STx T Fv P Fv' AN TT CC pM pE ND CN PN SN UN FN N PR p i v f b U B W Y l ow kw ow' kd' j nb Hs Os y a n m w) (h23 : A w 23 n = 7) (c0 : A m 23 a = 12) (cr : ∃ f, CRs (A m 23) (ROs w) (w.2.2.2 34) f y (a + 1) (n + 1) (Hs j) (Os j)) : PP Q (q67 (SAf T Fv P p) N (qgo (SAf T Fv P p) N M1) m p (I ((v : Nat) : Int))) (bnd (fm_M_one N w (I ((n : Nat) : Int)) (I 7)) (fun u _ => KRs Fv' AN TT CC ND CN UN FN N p mu M2 w u)) := by
  obtain ⟨⟨r5, r8, r2⟩, ⟨ha, hn, hv, hpp, hj⟩, nd, ⟨pl, ru, bd⟩, ⟨n1, n2, n3⟩, bH, bW, bB, bY, nND, hN⟩ := st_b s
  have h1 := (n3.2.2.2.2.2.2.1 (Or.inl h23)).1
  obtain ⟨W1, rfl⟩ : ∃ W1, W = W1 + 1 := ⟨W - 1, by omega⟩
  obtain ⟨bd1, bd2, bd3, bd4⟩ := bd
  rw [go_vl r5 r8 (by omega) r2 (by omega) c0 ⟨by omega, by omega⟩]
  refine op_not (K1 := fun u => q195 (SAf T Fv P p) N (qgo (SAf T Fv P p) N M1) u p (I ((v : Nat) : Int))) (K2 := fun u => KRs Fv' AN TT CC ND CN UN FN N p mu M2 w u) hpp pl ru (by omega) bd2 ⟨bd3, bd4⟩ (by omega) cr (fun m3 w3 a1 a2 a3 a4 => st_fg ih s hj a1 a2 a3 a4) ?_
  show PP Q (bnd (hm_Ma_wrong N m p (I 11)) (fun u _ => q195 (SAf T Fv P p) N (qgo (SAf T Fv P p) N M1) u p (I ((v : Nat) : Int)))) (bnd (fr_M_error N _ (I 11)) (fun u _ => KRs Fv' AN TT CC ND CN UN FN N p mu M2 w u))
  rw [wrong_e, bnd_so]
  exact st_wr (c := 11) ih s (by omega) (PLs_drop (k := 1) (PLs_98 pl) (by omega)) (by omega) (by omega) (FGw.tr FGw.goto FGw.w92) ⟨rfl, rfl⟩
/-- one of two -/
theorem sk_9 (ih : ∀ M1 v m w, SIA T Fv P Fv' AN TT CC pM pE ND CN PN SN UN FN p v m w → PP Q (qgo (SAf T Fv P p) N M1 m p (I ((v : Nat) : Int))) (gg_M_go N M2 w (I ((p : Nat) : Int)))) (s : STx T Fv P Fv' AN TT CC pM pE ND CN PN SN UN FN N PR p i v f b U B W Y l ow kw ow' kd' j nb Hs Os y a n m w) {t2 n2 : Nat} (h23 : A w 23 n = 9) (c0 : A m 23 a = 13) (ht : A m 23 (a + 1) = ((t2 : Nat) : Int)) (hd : A w 25 n = ((n2 : Nat) : Int)) (cr2 : ∃ f, CRs (A m 23) (ROs w) (w.2.2.2 34) f y t2 n2 (Hs j) (Os j)) (cr : ∃ f, CRs (A m 23) (ROs w) (w.2.2.2 34) f y (a + 2) (n + 1) (Hs j) (Os j)) : PP Q (q67 (SAf T Fv P p) N (qgo (SAf T Fv P p) N M1) m p (I ((v : Nat) : Int))) (bnd (fm_M_one N w (I ((n : Nat) : Int)) (I 9)) (fun u _ => KRs Fv' AN TT CC ND CN UN FN N p mu M2 w u)) := by
  obtain ⟨⟨r5, r8, r2⟩, ⟨ha, hn, hv, hpp, hj⟩, nd, ⟨pl, ru, bd⟩, ⟨n1, n2, n3⟩, bH, bW, bB, bY, nND, hN⟩ := st_b s
  have h1 := (n3.2.2.2.2.2.2.2.1 (Or.inl h23)).1
  obtain ⟨W1, rfl⟩ : ∃ W1, W = W1 + 1 := ⟨W - 1, by omega⟩
  obtain ⟨bd1, bd2, bd3, bd4⟩ := bd
  rw [go_vl r5 r8 (by omega) r2 (by omega) c0 ⟨by omega, by omega⟩]
  refine op_hinge (dr := 0) (K1 := fun u => q195 (SAf T Fv P p) N (qgo (SAf T Fv P p) N M1) u p (I ((v : Nat) : Int))) (K2 := fun u => KRs Fv' AN TT CC ND CN UN FN N p mu M2 w u) (Or.inl ⟨rfl, rfl, rfl⟩) hpp pl ru (by omega) bd2 ⟨bd3, bd4⟩ (by omega) (by omega) ht hd cr cr2 (fun W3 a3 n3 m3 w3 _ a1 a2 a5 a4 => st_fg ih s hj a1 a2 a5 a4) ?_
  show PP Q (bnd (hm_Ma_wrong N m p (I 11)) (fun u _ => q195 (SAf T Fv P p) N (qgo (SAf T Fv P p) N M1) u p (I ((v : Nat) : Int)))) (bnd (fr_M_error N _ (I 11)) (fun u _ => KRs Fv' AN TT CC ND CN UN FN N p mu M2 w u))
  rw [wrong_e, bnd_so]
  exact st_wr (c := 11) ih s (by omega) (by rw [wi_id pl.2.2.1.1]; exact PLs_98 pl) (by omega) (by omega) FGw.goto ⟨rfl, rfl⟩
/-- one of two -/
theorem sk_10 (ih : ∀ M1 v m w, SIA T Fv P Fv' AN TT CC pM pE ND CN PN SN UN FN p v m w → PP Q (qgo (SAf T Fv P p) N M1 m p (I ((v : Nat) : Int))) (gg_M_go N M2 w (I ((p : Nat) : Int)))) (s : STx T Fv P Fv' AN TT CC pM pE ND CN PN SN UN FN N PR p i v f b U B W Y l ow kw ow' kd' j nb Hs Os y a n m w) {t2 n2 : Nat} (h23 : A w 23 n = 10) (c0 : A m 23 a = 14) (ht : A m 23 (a + 1) = ((t2 : Nat) : Int)) (hd : A w 25 n = ((n2 : Nat) : Int)) (cr2 : ∃ f, CRs (A m 23) (ROs w) (w.2.2.2 34) f y t2 n2 (Hs j) (Os j)) (cr : ∃ f, CRs (A m 23) (ROs w) (w.2.2.2 34) f y (a + 2) (n + 1) (Hs j) (Os j)) : PP Q (q67 (SAf T Fv P p) N (qgo (SAf T Fv P p) N M1) m p (I ((v : Nat) : Int))) (bnd (fm_M_one N w (I ((n : Nat) : Int)) (I 10)) (fun u _ => KRs Fv' AN TT CC ND CN UN FN N p mu M2 w u)) := by
  obtain ⟨⟨r5, r8, r2⟩, ⟨ha, hn, hv, hpp, hj⟩, nd, ⟨pl, ru, bd⟩, ⟨n1, n2, n3⟩, bH, bW, bB, bY, nND, hN⟩ := st_b s
  have h1 := (n3.2.2.2.2.2.2.2.1 (Or.inr h23)).1
  obtain ⟨W1, rfl⟩ : ∃ W1, W = W1 + 1 := ⟨W - 1, by omega⟩
  obtain ⟨bd1, bd2, bd3, bd4⟩ := bd
  rw [go_vl r5 r8 (by omega) r2 (by omega) c0 ⟨by omega, by omega⟩]
  refine op_hinge (dr := 1) (K1 := fun u => q195 (SAf T Fv P p) N (qgo (SAf T Fv P p) N M1) u p (I ((v : Nat) : Int))) (K2 := fun u => KRs Fv' AN TT CC ND CN UN FN N p mu M2 w u) (Or.inr ⟨rfl, rfl, rfl⟩) hpp pl ru (by omega) bd2 ⟨bd3, bd4⟩ (by omega) (by omega) ht hd cr cr2 (fun W3 a3 n3 m3 w3 _ a1 a2 a5 a4 => st_fg ih s hj a1 a2 a5 a4) ?_
  show PP Q (bnd (hm_Ma_wrong N m p (I 11)) (fun u _ => q195 (SAf T Fv P p) N (qgo (SAf T Fv P p) N M1) u p (I ((v : Nat) : Int)))) (bnd (fr_M_error N _ (I 11)) (fun u _ => KRs Fv' AN TT CC ND CN UN FN N p mu M2 w u))
  rw [wrong_e, bnd_so]
  exact st_wr (c := 11) ih s (by omega) (by rw [wi_id pl.2.2.1.1]; exact PLs_98 pl) (by omega) (by omega) FGw.goto ⟨rfl, rfl⟩
/-- sums -/
theorem sk_6a (ih : ∀ M1 v m w, SIA T Fv P Fv' AN TT CC pM pE ND CN PN SN UN FN p v m w → PP Q (qgo (SAf T Fv P p) N M1 m p (I ((v : Nat) : Int))) (gg_M_go N M2 w (I ((p : Nat) : Int)))) (s : STx T Fv P Fv' AN TT CC pM pE ND CN PN SN UN FN N PR p i v f b U B W Y l ow kw ow' kd' j nb Hs Os y a n m w) {s2 kk : Int} (h23 : A w 23 n = 6) (hs : (s2 = 18 ∧ kk = 33) ∨ (s2 = 19 ∧ kk = 34) ∨ (s2 = 20 ∧ kk = 35) ∨ (s2 = 105 ∧ kk = 10) ∨ (s2 = 113 ∧ kk = 18)) (c0 : A m 23 a = 9) (ht : A m 23 (a + 1) = kk) (hd : A w 25 n = s2) (cr : ∃ f, CRs (A m 23) (ROs w) (w.2.2.2 34) f y (a + 2) (n + 1) (Hs j) (Os j)) : PP Q (q67 (SAf T Fv P p) N (qgo (SAf T Fv P p) N M1) m p (I ((v : Nat) : Int))) (bnd (fm_M_one N w (I ((n : Nat) : Int)) (I 6)) (fun u _ => KRs Fv' AN TT CC ND CN UN FN N p mu M2 w u)) := by
  obtain ⟨⟨r5, r8, r2⟩, ⟨ha, hn, hv, hpp, hj⟩, nd, ⟨pl, ru, bd⟩, ⟨n1, n2, n3⟩, bH, bW, bB, bY, nND, hN⟩ := st_b s
  have h1 := (n3.2.2.2.2.2.1 h23).1
  obtain ⟨W1, rfl⟩ : ∃ W1, W = W1 + 2 := ⟨W - 2, by omega⟩
  obtain ⟨bd1, bd2, bd3, bd4⟩ := bd
  rw [go_vl r5 r8 (by omega) r2 (by omega) c0 ⟨by omega, by omega⟩]
  refine op_arith (K1 := fun u => q195 (SAf T Fv P p) N (qgo (SAf T Fv P p) N M1) u p (I ((v : Nat) : Int))) (K2 := fun u => KRs Fv' AN TT CC ND CN UN FN N p mu M2 w u) hs hpp pl ru (by omega) bd2 ⟨bd3, bd4⟩ (by omega) (by omega) ht hd cr (fun m3 w3 a1 a2 a3 a4 => st_fg ih s hj a1 a2 a3 a4) ?_
  show PP Q (bnd (hm_Ma_wrong N m p (I 12)) (fun u _ => q195 (SAf T Fv P p) N (qgo (SAf T Fv P p) N M1) u p (I ((v : Nat) : Int)))) (bnd (fr_M_error N _ (I 12)) (fun u _ => KRs Fv' AN TT CC ND CN UN FN N p mu M2 w u))
  rw [wrong_e, bnd_so]
  exact st_wr (c := 12) ih s (by omega) (by rw [wa_w2]; exact PLs_drop (k := 2) (PLs_98 pl) (by omega)) (by omega) (by omega) (FGw.tr (FGw.tr FGw.goto FGw.w92) FGw.w92) ⟨rfl, rfl⟩
/-- orders -/
theorem sk_6c (ih : ∀ M1 v m w, SIA T Fv P Fv' AN TT CC pM pE ND CN PN SN UN FN p v m w → PP Q (qgo (SAf T Fv P p) N M1 m p (I ((v : Nat) : Int))) (gg_M_go N M2 w (I ((p : Nat) : Int)))) (s : STx T Fv P Fv' AN TT CC pM pE ND CN PN SN UN FN N PR p i v f b U B W Y l ow kw ow' kd' j nb Hs Os y a n m w) {s2 kk : Int} (h23 : A w 23 n = 6) (hs : (s2 = 12 ∧ kk = 39) ∨ (s2 = 13 ∧ kk = 40) ∨ (s2 = 14 ∧ kk = 31) ∨ (s2 = 15 ∧ kk = 41) ∨ (s2 = 16 ∧ kk = 32) ∨ (s2 = 17 ∧ kk = 42)) (c0 : A m 23 a = 8) (ht : A m 23 (a + 1) = kk) (hd : A w 25 n = s2) (cr : ∃ f, CRs (A m 23) (ROs w) (w.2.2.2 34) f y (a + 2) (n + 1) (Hs j) (Os j)) : PP Q (q67 (SAf T Fv P p) N (qgo (SAf T Fv P p) N M1) m p (I ((v : Nat) : Int))) (bnd (fm_M_one N w (I ((n : Nat) : Int)) (I 6)) (fun u _ => KRs Fv' AN TT CC ND CN UN FN N p mu M2 w u)) := by
  obtain ⟨⟨r5, r8, r2⟩, ⟨ha, hn, hv, hpp, hj⟩, nd, ⟨pl, ru, bd⟩, ⟨n1, n2, n3⟩, bH, bW, bB, bY, nND, hN⟩ := st_b s
  have h1 := (n3.2.2.2.2.2.1 h23).1
  obtain ⟨W1, rfl⟩ : ∃ W1, W = W1 + 2 := ⟨W - 2, by omega⟩
  obtain ⟨bd1, bd2, bd3, bd4⟩ := bd
  obtain ⟨pt, xc, h140⟩ := s.2.2.2.2.2.2.1
  have cx : CTX Fv P m := (LPQ_dc s.2.2.2.1).2
  have h955 := s.2.2.1.2.2.1.1
  have h150 := s.2.2.1.2.2.2.1.2
  have hi := s.1.2.2.2.1
  obtain ⟨-, -, -, -, fa', na, atf⟩ := s.2.2.1.2.2.2.2.2.2.1
  rw [go_vl r5 r8 (by omega) r2 (by omega) c0 ⟨by omega, by omega⟩]
  exact op_compare (K1 := fun u => q195 (SAf T Fv P p) N (qgo (SAf T Fv P p) N M1) u p (I ((v : Nat) : Int))) (K2 := fun u => KRs Fv' AN TT CC ND CN UN FN N p mu M2 w u) hs hpp pl ru (by omega) bd2 ⟨bd3, bd4⟩ pt cx xc s.2.1.1.2.1 atf (by omega) (by omega) ht hd (by omega) cr (fun m3 w3 a1 a2 a3 a4 => st_fg ih s hj a1 a2 a3 a4)
/-- lists come together -/
theorem sk_6j (ih : ∀ M1 v m w, SIA T Fv P Fv' AN TT CC pM pE ND CN PN SN UN FN p v m w → PP Q (qgo (SAf T Fv P p) N M1 m p (I ((v : Nat) : Int))) (gg_M_go N M2 w (I ((p : Nat) : Int)))) (s : STx T Fv P Fv' AN TT CC pM pE ND CN PN SN UN FN N PR p i v f b U B W Y l ow kw ow' kd' j nb Hs Os y a n m w) (h23 : A w 23 n = 6) (c0 : A m 23 a = 10) (ht : A m 23 (a + 1) = 43) (hd : A w 25 n = 22) (cr : ∃ f, CRs (A m 23) (ROs w) (w.2.2.2 34) f y (a + 2) (n + 1) (Hs j) (Os j)) : PP Q (q67 (SAf T Fv P p) N (qgo (SAf T Fv P p) N M1) m p (I ((v : Nat) : Int))) (bnd (fm_M_one N w (I ((n : Nat) : Int)) (I 6)) (fun u _ => KRs Fv' AN TT CC ND CN UN FN N p mu M2 w u)) := by
  obtain ⟨⟨r5, r8, r2⟩, ⟨ha, hn, hv, hpp, hj⟩, nd, ⟨pl, ru, bd⟩, ⟨n1, n2, n3⟩, bH, bW, bB, bY, nND, hN⟩ := st_b s
  have h1 := (n3.2.2.2.2.2.1 h23).1
  obtain ⟨W1, rfl⟩ : ∃ W1, W = W1 + 2 := ⟨W - 2, by omega⟩
  obtain ⟨bd1, bd2, bd3, bd4⟩ := bd
  obtain ⟨pt, xc, h140⟩ := s.2.2.2.2.2.2.1
  have cx : CTX Fv P m := (LPQ_dc s.2.2.2.1).2
  have h955 := s.2.2.1.2.2.1.1
  have h150 := s.2.2.1.2.2.2.1.2
  have hi := s.1.2.2.2.1
  have n4 := n1.2.2.2.1
  rw [go_vl r5 r8 (by omega) r2 (by omega) c0 ⟨by omega, by omega⟩]
  exact op_join (K1 := fun u => q195 (SAf T Fv P p) N (qgo (SAf T Fv P p) N M1) u p (I ((v : Nat) : Int))) (K2 := fun u => KRs Fv' AN TT CC ND CN UN FN N p mu M2 w u) hpp pl ru (by omega) bd2 ⟨bd3, bd4⟩ pt cx xc h140 hd ht ⟨h955, hi⟩ (show F w 150 = ((0 : Nat) : Int) ∧ 0 < 4000 from ⟨h150, by decide⟩) (by omega) cr (fun b3 U3 m3 w3 a1 a2 a3 a4 a5 => (st_ru ih s a1 a2 a3 a4 a5).1) (fun m3 w3 a1 a2 a3 a4 a5 a6 a7 => st_w3 (c := 11) ih s (by omega) (by omega) a1 a2 (by rw [wi_id a3.2.2.1.1]; exact a3) a4 a5 (Nat.le_refl _) (by omega) (by omega) a6 a7) (fun m3 w3 a1 a2 a3 a4 => st_en (c := 20) ih s (by omega) (by omega) a1 a2 a3 a4)
/-- a list without parts of another -/
theorem sk_6l (ih : ∀ M1 v m w, SIA T Fv P Fv' AN TT CC pM pE ND CN PN SN UN FN p v m w → PP Q (qgo (SAf T Fv P p) N M1 m p (I ((v : Nat) : Int))) (gg_M_go N M2 w (I ((p : Nat) : Int)))) (s : STx T Fv P Fv' AN TT CC pM pE ND CN PN SN UN FN N PR p i v f b U B W Y l ow kw ow' kd' j nb Hs Os y a n m w) (h23 : A w 23 n = 6) (c0 : A m 23 a = 10) (ht : A m 23 (a + 1) = 44) (hd : A w 25 n = 23) (cr : ∃ f, CRs (A m 23) (ROs w) (w.2.2.2 34) f y (a + 2) (n + 1) (Hs j) (Os j)) : PP Q (q67 (SAf T Fv P p) N (qgo (SAf T Fv P p) N M1) m p (I ((v : Nat) : Int))) (bnd (fm_M_one N w (I ((n : Nat) : Int)) (I 6)) (fun u _ => KRs Fv' AN TT CC ND CN UN FN N p mu M2 w u)) := by
  obtain ⟨⟨r5, r8, r2⟩, ⟨ha, hn, hv, hpp, hj⟩, nd, ⟨pl, ru, bd⟩, ⟨n1, n2, n3⟩, bH, bW, bB, bY, nND, hN⟩ := st_b s
  have h1 := (n3.2.2.2.2.2.1 h23).1
  obtain ⟨W1, rfl⟩ : ∃ W1, W = W1 + 2 := ⟨W - 2, by omega⟩
  obtain ⟨bd1, bd2, bd3, bd4⟩ := bd
  obtain ⟨pt, xc, h140⟩ := s.2.2.2.2.2.2.1
  have cx : CTX Fv P m := (LPQ_dc s.2.2.2.1).2
  have h955 := s.2.2.1.2.2.1.1
  have h150 := s.2.2.1.2.2.2.1.2
  have hi := s.1.2.2.2.1
  have n4 := n1.2.2.2.1
  obtain ⟨-, -, -, -, fa', na, atf⟩ := s.2.2.1.2.2.2.2.2.2.1
  rw [go_vl r5 r8 (by omega) r2 (by omega) c0 ⟨by omega, by omega⟩]
  exact op_less (K1 := fun u => q195 (SAf T Fv P p) N (qgo (SAf T Fv P p) N M1) u p (I ((v : Nat) : Int))) (K2 := fun u => KRs Fv' AN TT CC ND CN UN FN N p mu M2 w u) hpp pl ru (by omega) bd2 ⟨bd3, bd4⟩ pt cx xc h140 hd ht s.2.1.1.2.1 atf ⟨h955, hi⟩ (show F w 150 = ((0 : Nat) : Int) ∧ 0 < 4000 from ⟨h150, by decide⟩) (by omega) cr (fun b3 U3 m3 w3 a1 a2 a3 a4 a5 => (st_ru ih s a1 a2 a3 a4 a5).1) (fun m3 w3 a1 a2 a3 a4 a5 a6 a7 => st_w3 (c := 11) ih s (by omega) (by omega) a1 a2 (by rw [wi_id a3.2.2.1.1]; exact a3) a4 a5 (Nat.le_refl _) (by omega) (by omega) a6 a7) (fun m3 w3 a1 a2 a3 a4 => st_en (c := 20) ih s (by omega) (by omega) a1 a2 a3 a4)
/-- a tuple -/
theorem sk_4 (ih : ∀ M1 v m w, SIA T Fv P Fv' AN TT CC pM pE ND CN PN SN UN FN p v m w → PP Q (qgo (SAf T Fv P p) N M1 m p (I ((v : Nat) : Int))) (gg_M_go N M2 w (I ((p : Nat) : Int)))) (s : STx T Fv P Fv' AN TT CC pM pE ND CN PN SN UN FN N PR p i v f b U B W Y l ow kw ow' kd' j nb Hs Os y a n m w) (h23 : A w 23 n = 4) (c0 : A m 23 a = 4) (c1 : A m 23 (a + 1) = A w 25 n) (cr : ∃ f, CRs (A m 23) (ROs w) (w.2.2.2 34) f y (a + 2) (n + 1) (Hs j) (Os j)) : PP Q (q67 (SAf T Fv P p) N (qgo (SAf T Fv P p) N M1) m p (I ((v : Nat) : Int))) (bnd (fm_M_one N w (I ((n : Nat) : Int)) (I 4)) (fun u _ => KRs Fv' AN TT CC ND CN UN FN N p mu M2 w u)) := by
  obtain ⟨⟨r5, r8, r2⟩, ⟨ha, hn, hv, hpp, hj⟩, nd, ⟨pl, ru, bd⟩, ⟨n1, n2, n3⟩, bH, bW, bB, bY, nND, hN⟩ := st_b s
  obtain ⟨k, k1, k2, k3, -⟩ := n3.2.2.2.1 h23
  obtain ⟨bd1, bd2, bd3, bd4⟩ := bd
  obtain ⟨pt, xc, h140⟩ := s.2.2.2.2.2.2.1
  have cx : CTX Fv P m := (LPQ_dc s.2.2.2.1).2
  have h955 := s.2.2.1.2.2.1.1
  have h150 := s.2.2.1.2.2.2.1.2
  have hi := s.1.2.2.2.1
  have n4 := n1.2.2.2.1
  rw [go_mk r5 r8 (by omega) r2 (by omega) c0 ⟨by omega, by omega⟩]
  exact op_tuple (K1 := fun u => q195 (SAf T Fv P p) N (qgo (SAf T Fv P p) N M1) u p (I ((v : Nat) : Int))) (K2 := fun u => KRs Fv' AN TT CC ND CN UN FN N p mu M2 w u) hpp pl ru (by omega) bd2 ⟨bd3, bd4⟩ pt cx xc pt.1.2.2 xc.2.1 cx.1 h140 k1 (by omega) (by omega) (c1.trans k1) ⟨h955, hi⟩ (show F w 150 = ((0 : Nat) : Int) ∧ 0 < 4000 from ⟨h150, by decide⟩) (by omega) cr (fun b3 U3 m3 w3 a1 a2 a3 a4 => st_fg ih s hj a1 a2 a3 a4) (fun m3 w3 a1 a2 a3 a4 a5 a6 a7 => st_w3 (c := 11) ih s (by omega) (by omega) a1 a2 (by rw [wi_id a3.2.2.1.1]; exact a3) a4 a5 (Nat.le_refl _) (by omega) (by omega) a6 a7) (fun m3 w3 a1 a2 a3 => st_en (c := 20) ih s (by omega) (by omega) (GGm_fg a1) (GGw_fg a2 hj) (fun s => SC_fg s a1 a2) a3)
/-- a list with a rest -/
theorem sk_5a (ih : ∀ M1 v m w, SIA T Fv P Fv' AN TT CC pM pE ND CN PN SN UN FN p v m w → PP Q (qgo (SAf T Fv P p) N M1 m p (I ((v : Nat) : Int))) (gg_M_go N M2 w (I ((p : Nat) : Int)))) (s : STx T Fv P Fv' AN TT CC pM pE ND CN PN SN UN FN N PR p i v f b U B W Y l ow kw ow' kd' j nb Hs Os y a n m w) (h23 : A w 23 n = 5) (h26 : A w 26 n = 1) (h25 : 0 < A w 25 n) (c0 : A m 23 a = 5) (c1 : A m 23 (a + 1) = A w 25 n) (cr : ∃ f, CRs (A m 23) (ROs w) (w.2.2.2 34) f y (a + 2) (n + 1) (Hs j) (Os j)) : PP Q (q67 (SAf T Fv P p) N (qgo (SAf T Fv P p) N M1) m p (I ((v : Nat) : Int))) (bnd (fm_M_one N w (I ((n : Nat) : Int)) (I 5)) (fun u _ => KRs Fv' AN TT CC ND CN UN FN N p mu M2 w u)) := by
  obtain ⟨⟨r5, r8, r2⟩, ⟨ha, hn, hv, hpp, hj⟩, nd, ⟨pl, ru, bd⟩, ⟨n1, n2, n3⟩, bH, bW, bB, bY, nND, hN⟩ := st_b s
  obtain ⟨k, k', k1, k2, k3, k4, k5, -⟩ := n3.2.2.2.2.1 h23
  obtain ⟨W1, rfl⟩ : ∃ W1, W = W1 + k + 1 := ⟨W - k - 1, by omega⟩
  obtain ⟨bd1, bd2, bd3, bd4⟩ := bd
  obtain ⟨pt, xc, h140⟩ := s.2.2.2.2.2.2.1
  have cx : CTX Fv P m := (LPQ_dc s.2.2.2.1).2
  have h955 := s.2.2.1.2.2.1.1
  have h150 := s.2.2.1.2.2.2.1.2
  have hi := s.1.2.2.2.1
  have n4 := n1.2.2.2.1
  rw [go_mk r5 r8 (by omega) r2 (by omega) c0 ⟨by omega, by omega⟩]
  exact op_list1 (K1 := fun u => q195 (SAf T Fv P p) N (qgo (SAf T Fv P p) N M1) u p (I ((v : Nat) : Int))) (K2 := fun u => KRs Fv' AN TT CC ND CN UN FN N p mu M2 w u) hpp pl ru (by omega) bd2 ⟨bd3, bd4⟩ pt cx xc pt.1.2.2 xc.2.1 cx.1 h140 k1 h26 (by omega) (by omega) (c1.trans k1) ⟨h955, hi⟩ (show F w 150 = ((0 : Nat) : Int) ∧ 0 < 4000 from ⟨h150, by decide⟩) (by omega) cr (fun b3 U3 m3 w3 a1 a2 a3 a4 => st_fg ih s hj a1 a2 a3 a4) (fun m3 w3 a1 a2 a3 a4 a5 a6 a7 => st_w3 (c := 11) ih s (by omega) (by omega) a1 a2 (by rw [wi_id a3.2.2.1.1]; exact a3) a4 a5 (Nat.le_refl _) (by omega) (by omega) a6 a7) (fun m3 w3 a1 a2 a3 => st_en (c := 20) ih s (by omega) (by omega) (GGm_fg a1) (GGw_fg a2 hj) (fun s => SC_fg s a1 a2) a3)
/-- a list -/
theorem sk_5b (ih : ∀ M1 v m w, SIA T Fv P Fv' AN TT CC pM pE ND CN PN SN UN FN p v m w → PP Q (qgo (SAf T Fv P p) N M1 m p (I ((v : Nat) : Int))) (gg_M_go N M2 w (I ((p : Nat) : Int)))) (s : STx T Fv P Fv' AN TT CC pM pE ND CN PN SN UN FN N PR p i v f b U B W Y l ow kw ow' kd' j nb Hs Os y a n m w) (h23 : A w 23 n = 5) (h26 : A w 26 n = 0) (h25 : 0 < A w 25 n) (c0 : A m 23 a = 1) (d1 : A m 23 (a + 1) = 6) (d2 : A m 23 (a + 2) = 0) (d3 : A m 23 (a + 3) = 5) (d4 : A m 23 (a + 4) = A w 25 n) (cr : ∃ f, CRs (A m 23) (ROs w) (w.2.2.2 34) f y (a + 5) (n + 1) (Hs j) (Os j)) : PP Q (q67 (SAf T Fv P p) N (qgo (SAf T Fv P p) N M1) m p (I ((v : Nat) : Int))) (bnd (fm_M_one N w (I ((n : Nat) : Int)) (I 5)) (fun u _ => KRs Fv' AN TT CC ND CN UN FN N p mu M2 w u)) := by
  obtain ⟨⟨r5, r8, r2⟩, ⟨ha, hn, hv, hpp, hj⟩, nd, ⟨pl, ru, bd⟩, ⟨n1, n2, n3⟩, bH, bW, bB, bY, nND, hN⟩ := st_b s
  obtain ⟨k, k', k1, k2, k3, k4, k5, -⟩ := n3.2.2.2.2.1 h23
  obtain ⟨W1, rfl⟩ : ∃ W1, W = W1 + k := ⟨W - k, by omega⟩
  obtain ⟨bd1, bd2, bd3, bd4⟩ := bd
  obtain ⟨pt, xc, h140⟩ := s.2.2.2.2.2.2.1
  have cx : CTX Fv P m := (LPQ_dc s.2.2.2.1).2
  have h955 := s.2.2.1.2.2.1.1
  have h150 := s.2.2.1.2.2.2.1.2
  have hi := s.1.2.2.2.1
  have n4 := n1.2.2.2.1
  obtain ⟨i2, h, mm, L, g2, x2, j2, wb, nb2, cb2, rk, M⟩ := cl_any s.2.2.2.1 r5 r8
  have lb : LNB m p := GEN_ln M.1 s.1.2.1
  have h956 := s.2.2.1.2.2.1.2
  rw [go_mk r5 r8 (by omega) r2 (by omega) c0 ⟨by omega, by omega⟩]
  exact op_list0 (K2 := fun u => KRs Fv' AN TT CC ND CN UN FN N p mu M2 w u) hpp pl ru (by omega) (by omega) (by omega) bd2 ⟨bd3, bd4⟩ lb pt cx xc pt.1.2.2 xc.2.1 cx.1 cx.2.2.2.2.2.2 h140 k1 h26 (by omega) (by omega) d1 d2 d3 (d4.trans k1) ⟨h955, hi⟩ (show F w 150 = ((0 : Nat) : Int) ∧ 0 < 4000 from ⟨h150, by decide⟩) (by omega) cr (fun M' vk' b3 U3 m3 w3 _ q2 a1 a2 a3 a4 => st_rv ih s (by omega) a1 a2 (GGm_fg a3) (GGw_fg a4 hj) (fun s => SC_fg s a3 a4)) (fun M' vk' m3 w3 _ q2 a1 a2 a3 a4 a5 a6 a7 => st_w3 (c := 11) ih s (by omega) (by omega) a1 a2 a3 a4 a5 (by omega) (by omega) (by omega) a6 a7) (fun M' vk' m3 w3 _ q2 a1 a2 a3 => st_en (c := 20) ih s (by omega) (by omega) (GGm_fg a1) (GGw_fg a2 hj) (fun s => SC_fg s a1 a2) a3)
/-- a string -/
theorem sk_2 (ih : ∀ M1 v m w, SIA T Fv P Fv' AN TT CC pM pE ND CN PN SN UN FN p v m w → PP Q (qgo (SAf T Fv P p) N M1 m p (I ((v : Nat) : Int))) (gg_M_go N M2 w (I ((p : Nat) : Int)))) (s : STx T Fv P Fv' AN TT CC pM pE ND CN PN SN UN FN N PR p i v f b U B W Y l ow kw ow' kd' j nb Hs Os y a n m w) {l2 : Nat} (h23 : A w 23 n = 2) (c0 : A m 23 a = 2) (st : STRs (A m 23) (ROs w) (a + 1) (A w 25 n) l2) (cr : ∃ f, CRs (A m 23) (ROs w) (w.2.2.2 34) f y (a + 2 + l2) (n + 1) (Hs j) (Os j)) : PP Q (q67 (SAf T Fv P p) N (qgo (SAf T Fv P p) N M1) m p (I ((v : Nat) : Int))) (bnd (fm_M_one N w (I ((n : Nat) : Int)) (I 2)) (fun u _ => KRs Fv' AN TT CC ND CN UN FN N p mu M2 w u)) := by
  obtain ⟨⟨r5, r8, r2⟩, ⟨ha, hn, hv, hpp, hj⟩, nd, ⟨pl, ru, bd⟩, ⟨n1, n2, n3⟩, bH, bW, bB, bY, nND, hN⟩ := st_b s
  obtain ⟨s0, bb, e0, e1, e2, e3, e4⟩ := st
  rw [ro_e (by unfold PRr; omega)] at e1 e2
  have cb := CR_b cr.choose_spec
  obtain ⟨bd1, bd2, bd3, bd4⟩ := bd
  obtain ⟨pt, xc, h140⟩ := s.2.2.2.2.2.2.1
  have cx : CTX Fv P m := (LPQ_dc s.2.2.2.1).2
  have h955 := s.2.2.1.2.2.1.1
  have h150 := s.2.2.1.2.2.2.1.2
  have hi := s.1.2.2.2.1
  obtain ⟨i2, h, mm, L, g2, x2, j2, wb, nb2, cb2, rk, M⟩ := cl_any s.2.2.2.1 r5 r8
  obtain ⟨-, -, -, ⟨ti, e5⟩, -⟩ := id M
  have ei : a = i2 := by omega
  subst ei
  obtain ⟨k0, q1, q2⟩ := in_2 (M.1.2.2.1 _ _ _ _ _ _ ti).2.2.2.2.2 c0
  obtain ⟨t1, t2, -⟩ := n3.2.1 h23
  obtain ⟨sn, ss⟩ := s.2.1.1.1.2.1
  have s3 := (ss s0 (by omega)).2.2
  rw [go_mk r5 r8 (by omega) r2 (by omega) c0 ⟨by omega, by omega⟩]
  exact op_string (K1 := fun u => q195 (SAf T Fv P p) N (qgo (SAf T Fv P p) N M1) u p (I ((v : Nat) : Int))) (K2 := fun u => KRs Fv' AN TT CC ND CN UN FN N p mu M2 w u) hpp pl ru (by omega) pt cx xc h140 e0 (by omega) e1 e2 (by omega) (by omega) e3 (fun k hk => by rw [e4 k hk, ro_e (by unfold PRr; omega)]) ⟨h955, hi⟩ (show F w 150 = ((0 : Nat) : Int) ∧ 0 < 4000 from ⟨h150, by decide⟩) (by omega) cr (fun b3 U3 m3 w3 a1 a2 a3 a4 => st_fg ih s hj a1 a2 a3 a4) (fun m3 w3 a1 a2 a3 => st_en (c := 20) ih s (by omega) (by omega) (GGm_fg a1) (GGw_fg a2 hj) (fun s => SC_fg s a1 a2) a3)
/-- a function is named -/
theorem sk_15 (ih : ∀ M1 v m w, SIA T Fv P Fv' AN TT CC pM pE ND CN PN SN UN FN p v m w → PP Q (qgo (SAf T Fv P p) N M1 m p (I ((v : Nat) : Int))) (gg_M_go N M2 w (I ((p : Nat) : Int)))) (s : STx T Fv P Fv' AN TT CC pM pE ND CN PN SN UN FN N PR p i v f b U B W Y l ow kw ow' kd' j nb Hs Os y a n m w) (h23 : A w 23 n = 15) (c0 : A m 23 a = 7) (c1 : A m 23 (a + 1) = A w 27 n) (cr : ∃ f, CRs (A m 23) (ROs w) (w.2.2.2 34) f y (a + 2) (n + 1) (Hs j) (Os j)) : PP Q (q67 (SAf T Fv P p) N (qgo (SAf T Fv P p) N M1) m p (I ((v : Nat) : Int))) (bnd (fm_M_one N w (I ((n : Nat) : Int)) (I 15)) (fun u _ => KRs Fv' AN TT CC ND CN UN FN N p mu M2 w u)) := by
  obtain ⟨⟨r5, r8, r2⟩, ⟨ha, hn, hv, hpp, hj⟩, nd, ⟨pl, ru, bd⟩, ⟨n1, n2, n3⟩, bH, bW, bB, bY, nND, hN⟩ := st_b s
  obtain ⟨-, k1, k2, -⟩ := n2.2.2.2.1 h23
  obtain ⟨ff, hf⟩ : ∃ ff : Nat, A w 27 n = ((ff : Nat) : Int) := ⟨(A w 27 n).toNat, by omega⟩
  have fn := s.2.1.1.1.1.2.2.2.2.1
  obtain ⟨bd1, bd2, bd3, bd4⟩ := bd
  obtain ⟨pt, xc, h140⟩ := s.2.2.2.2.2.2.1
  have cx : CTX Fv P m := (LPQ_dc s.2.2.2.1).2
  have h955 := s.2.2.1.2.2.1.1
  have h150 := s.2.2.1.2.2.2.1.2
  have hi := s.1.2.2.2.1
  rw [go_mk r5 r8 (by omega) r2 (by omega) c0 ⟨by omega, by omega⟩]
  exact op_funOf (K1 := fun u => q195 (SAf T Fv P p) N (qgo (SAf T Fv P p) N M1) u p (I ((v : Nat) : Int))) (K2 := fun u => KRs Fv' AN TT CC ND CN UN FN N p mu M2 w u) hpp pl ru (by omega) pt cx xc h140 hf (by omega) (c1.trans hf) ⟨h955, hi⟩ (show F w 150 = ((0 : Nat) : Int) ∧ 0 < 4000 from ⟨h150, by decide⟩) (by omega) cr (fun b3 U3 m3 w3 a1 a2 a3 a4 => st_fg ih s hj a1 a2 a3 a4) (fun m3 w3 a1 a2 a3 => st_en (c := 20) ih s (by omega) (by omega) (GGm_fg a1) (GGw_fg a2 hj) (fun s => SC_fg s a1 a2) a3)
/-- a FUN -/
theorem sk_14 (ih : ∀ M1 v m w, SIA T Fv P Fv' AN TT CC pM pE ND CN PN SN UN FN p v m w → PP Q (qgo (SAf T Fv P p) N M1 m p (I ((v : Nat) : Int))) (gg_M_go N M2 w (I ((p : Nat) : Int)))) (s : STx T Fv P Fv' AN TT CC pM pE ND CN PN SN UN FN N PR p i v f b U B W Y l ow kw ow' kd' j nb Hs Os y a n m w) {uu l2 bb : Nat} (h23 : A w 23 n = 14) (c0 : A m 23 a = 6) (c1 : A m 23 (a + 1) = A w 25 n) (h25 : A w 25 n = ((uu : Nat) : Int)) (h54 : A w 54 uu = ((l2 : Nat) : Int)) (c2 : A m 23 (a + 2) = ((l2 : Nat) : Int)) (h55 : A w 55 uu = ((bb : Nat) : Int)) (lk : ∀ k, k < l2 → LKP (Hs j) (Os j) (A m 23 (a + 3 + k)) (A w 57 (bb + k))) (cr : ∃ f, CRs (A m 23) (ROs w) (w.2.2.2 34) f y (a + 3 + l2) (n + 1) (Hs j) (Os j)) : PP Q (q67 (SAf T Fv P p) N (qgo (SAf T Fv P p) N M1) m p (I ((v : Nat) : Int))) (bnd (fm_M_one N w (I ((n : Nat) : Int)) (I 14)) (fun u _ => KRs Fv' AN TT CC ND CN UN FN N p mu M2 w u)) := by
  obtain ⟨⟨r5, r8, r2⟩, ⟨ha, hn, hv, hpp, hj⟩, nd, ⟨pl, ru, bd⟩, ⟨n1, n2, n3⟩, bH, bW, bB, bY, nND, hN⟩ := st_b s
  obtain ⟨-, ⟨u2, k1, k2, -⟩, -⟩ := n2.2.2.1 h23
  have eu : u2 = uu := by omega
  subst eu
  obtain ⟨a0, h0, r0, z1, z2, z3, z4, -⟩ := s.2.1.1.1.2.2.2.2.2 u2 k2
  have un := s.2.1.1.1.1.2.2.2.1
  have n4 := n1.2.2.2.1
  obtain ⟨bd1, bd2, bd3, bd4⟩ := bd
  obtain ⟨pt, xc, h140⟩ := s.2.2.2.2.2.2.1
  have cx : CTX Fv P m := (LPQ_dc s.2.2.2.1).2
  have h955 := s.2.2.1.2.2.1.1
  have h150 := s.2.2.1.2.2.2.1.2
  have hi := s.1.2.2.2.1
  rw [go_mk r5 r8 (by omega) r2 (by omega) c0 ⟨by omega, by omega⟩]
  exact op_fun (K1 := fun u => q195 (SAf T Fv P p) N (qgo (SAf T Fv P p) N M1) u p (I ((v : Nat) : Int))) (K2 := fun u => KRs Fv' AN TT CC ND CN UN FN N p mu M2 w u) hpp pl ru (by omega) (by omega) pt cx xc pt.1.2.2 xc.2.1 cx.1 h140 h25 (by omega) h54 h55 (by omega) (by omega) (c1.trans h25) c2 lk nd ⟨h955, hi⟩ (show F w 150 = ((0 : Nat) : Int) ∧ 0 < 4000 from ⟨h150, by decide⟩) (by omega) cr (fun b3 U3 m3 w3 a1 a2 a3 a4 => st_fg ih s hj a1 a2 a3 a4) (fun m3 w3 a1 a2 a3 a4 a5 a6 a7 => st_w3 (c := 11) ih s (by omega) (by omega) a1 a2 (by rw [wi_id a3.2.2.1.1]; exact a3) a4 a5 (Nat.le_refl _) (by omega) (by omega) a6 a7) (fun m3 w3 a1 a2 a3 => st_en (c := 20) ih s (by omega) (by omega) (GGm_fg a1) (GGw_fg a2 hj) (fun s => SC_fg s a1 a2) a3)
end
