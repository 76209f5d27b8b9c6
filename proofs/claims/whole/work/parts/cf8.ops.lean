/-! steps, one by one -/
set_option maxRecDepth 100000
section
variable {T : TYc} {Fv Fv' : Int64 → Int64 → Prop} {P : Int64 → Prop} {AN : Nat} {TT : TY} {CC : CY} {pM pE : Nat → Nat} {ND CN PN SN UN FN N PR p i v mu M1 M2 f U B W Y l j a n : Nat} {m w : MS} {Q : MS → Int32 → MS → Int32 → Prop} {b : Int → Nat → Nat → Prop} {ow kw ow' kd' : Nat → Nat} {nb : Nat → Nat} {Hs Os : Nat → List Nat} {y : Option (Nat × Nat × Nat)}
theorem in_30 {u : MS} {i h m g x : Nat} {L : List Nat} (q : IN1 T u i h m L g x ∨ IN2 T u i h m L g x ∨ IN3 T u i h m L g x) (e : A u 23 i = 30) : 1 ≤ L.length := by
  rcases q with q | q | q
  · exfalso
    rcases q with q | q | q | q | q | q | q | q | q | q | q | q | q <;> (have := q.1; omega)
  · rcases q with q | q | q | q | q | q | q | q | q | q | q
    iterate 10 (exfalso; have := q.1; omega)
    obtain ⟨-, -, t, M, rfl, -⟩ := q
    simp
  · exfalso
    rcases q with q | q | q | q | q | q | q | q | q
    iterate 5 (have := q.1; omega)
    · omega
    all_goals (have := q.1; omega)
/-- what is known of them all -/
theorem st_b (s : STx T Fv P Fv' AN TT CC pM pE ND CN PN SN UN FN N PR p i v f b U B W Y l ow kw ow' kd' j nb Hs Os y a n m w) : (F m (pq p 9) = 0 ∧ F m 1108 = 0 ∧ F m 1105 = ((a : Nat) : Int)) ∧ (a + 1 < 24000 ∧ n + 2 < 100000 ∧ v < 900000001 ∧ p < 24 ∧ j < 60) ∧ ((Os j).Nodup ∧ (Hs j).Nodup) ∧ (PLs (bGd b U ow' kd') p m w U B W Y ∧ RUs m w p j nb Hs Os y a n ∧ BDr p W l m) ∧ (NW w TT CC ND CN n ∧ WNa w TT CC pM pE ND CN PN SN UN FN n ∧ WNb w TT CC ND SN FN n) ∧ (tH TT n ≤ W ∧ W ≤ 45600 ∧ B ≤ 2400 ∧ Y ≤ 30 ∧ n < ND ∧ 11000000 ≤ N) := by
  obtain ⟨⟨hN, hpr, pr24, hi, hf⟩, ⟨per, hAN⟩, ba, lp, pl, ru, -, ⟨bW, bB, bY⟩, bd, -, -, rb, rm, ⟨eW, eB, nND⟩, -⟩ := s
  obtain ⟨⟨fa, ct⟩, ⟨r2, r3⟩, ⟨f0, cr0⟩, ⟨r5, r6⟩, -, ⟨r8, r9, r10⟩, -⟩ := id ru
  have cb := CR_b cr0
  exact ⟨⟨r5, r8, r2⟩, ⟨cb.1, cb.2.1, by omega, by omega, fa.1.2.2⟩, CR_n cr0, ⟨pl, ru, bd⟩, per.1.2.2.1 n nND, by omega, bW, bB, bY, nND, hN⟩
/-- catches have at most so many names -/
theorem sk_105 (s : STx T Fv P Fv' AN TT CC pM pE ND CN PN SN UN FN N PR p i v f b U B W Y l ow kw ow' kd' j nb Hs Os none a n m w) {k : Nat} (hk : tD TT n ≤ k) : ∀ nC c : Nat, F m (pq p 28) = ((nC : Nat) : Int) → c < nC → A w 105 (1600 * p + c) ≤ ((nb j + (Hs j).length + k : Nat) : Int) := fun nC c h1 h2 => by
  obtain ⟨-, -, -, -, -, ru, -, -, -, -, -, rb, rm, ⟨-, -, nND⟩, rct, -, -, ⟨-, r9⟩, -⟩ := s
  obtain ⟨y1, y2⟩ := ct_mon2 ru.1.2 h1 h2
  obtain ⟨W9, B0, -, -, z3, z4, -⟩ := rct (nC - 1) (by rw [y1]; congr 1; omega)
  obtain ⟨-, -, ⟨-, g4⟩, -, g6, -⟩ := ru.1.1.2.1 j (Nat.le_refl _)
  omega
/-- a literal -/
theorem sk_1 (ih : ∀ M1 v m w, SIA T Fv P Fv' AN TT CC pM pE ND CN PN SN UN FN p v m w → PP Q (qgo (SAf T Fv P p) N M1 m p (I ((v : Nat) : Int))) (gg_M_go N M2 w (I ((p : Nat) : Int)))) (s : STx T Fv P Fv' AN TT CC pM pE ND CN PN SN UN FN N PR p i v f b U B W Y l ow kw ow' kd' j nb Hs Os y a n m w) (c0 : A m 23 a = 1) (h1 : A w 25 n = 0 ∨ A w 25 n = 1 ∨ (A w 25 n = 6 ∧ A w 26 n = 0)) (c1 : A m 23 (a + 1) = A w 25 n) (c2 : A m 23 (a + 2) = A w 26 n) (cr : ∃ f, CRs (A m 23) (ROs w) (w.2.2.2 34) f y (a + 3) (n + 1) (Hs j) (Os j)) : PP Q (q67 (SAf T Fv P p) N (qgo (SAf T Fv P p) N M1) m p (I ((v : Nat) : Int))) (bnd (fm_M_one N w (I ((n : Nat) : Int)) (I 1)) (fun u _ => KRs Fv' AN TT CC ND CN UN FN N p mu M2 w u)) := by
  obtain ⟨⟨r5, r8, r2⟩, ⟨ha, hn, hv, hpp, hj⟩, nd, ⟨pl, ru, bd⟩, ⟨n1, n2, n3⟩, bH, bW, bB, bY, nND, hN⟩ := st_b s
  have cb := CR_b cr.choose_spec
  rw [go_mk r5 r8 (by omega) r2 (by omega) c0 ⟨by omega, by omega⟩]
  exact op_lit (K1 := fun u => q195 (SAf T Fv P p) N (qgo (SAf T Fv P p) N M1) u p (I ((v : Nat) : Int))) (K2 := fun u => KRs Fv' AN TT CC ND CN UN FN N p mu M2 w u) hpp pl ru bd (by omega) (by omega) h1 c1 c2 cr (fun m3 w3 a1 a2 a3 a4 => st_fg ih s hj a1 a2 a3 a4)
/-- a name -/
theorem sk_3 (ih : ∀ M1 v m w, SIA T Fv P Fv' AN TT CC pM pE ND CN PN SN UN FN p v m w → PP Q (qgo (SAf T Fv P p) N M1 m p (I ((v : Nat) : Int))) (gg_M_go N M2 w (I ((p : Nat) : Int)))) (s : STx T Fv P Fv' AN TT CC pM pE ND CN PN SN UN FN N PR p i v f b U B W Y l ow kw ow' kd' j nb Hs Os y a n m w) (c0 : A m 23 a = 3) (lk : LKP (Hs j) (Os j) (A m 23 (a + 1)) (A w 25 n)) (cr : ∃ f, CRs (A m 23) (ROs w) (w.2.2.2 34) f y (a + 2) (n + 1) (Hs j) (Os j)) : PP Q (q67 (SAf T Fv P p) N (qgo (SAf T Fv P p) N M1) m p (I ((v : Nat) : Int))) (bnd (fm_M_one N w (I ((n : Nat) : Int)) (I 3)) (fun u _ => KRs Fv' AN TT CC ND CN UN FN N p mu M2 w u)) := by
  obtain ⟨⟨r5, r8, r2⟩, ⟨ha, hn, hv, hpp, hj⟩, nd, ⟨pl, ru, bd⟩, ⟨n1, n2, n3⟩, bH, bW, bB, bY, nND, hN⟩ := st_b s
  have cb := CR_b cr.choose_spec
  rw [go_mk r5 r8 (by omega) r2 (by omega) c0 ⟨by omega, by omega⟩]
  exact op_name (K1 := fun u => q195 (SAf T Fv P p) N (qgo (SAf T Fv P p) N M1) u p (I ((v : Nat) : Int))) (K2 := fun u => KRs Fv' AN TT CC ND CN UN FN N p mu M2 w u) hpp pl ru bd (by omega) (by omega) (by omega) nd lk cr (fun m3 w3 a1 a2 a3 a4 => st_fg ih s hj a1 a2 a3 a4)
/-- the uppermost goes -/
theorem sk_17 (ih : ∀ M1 v m w, SIA T Fv P Fv' AN TT CC pM pE ND CN PN SN UN FN p v m w → PP Q (qgo (SAf T Fv P p) N M1 m p (I ((v : Nat) : Int))) (gg_M_go N M2 w (I ((p : Nat) : Int)))) (s : STx T Fv P Fv' AN TT CC pM pE ND CN PN SN UN FN N PR p i v f b U B W Y l ow kw ow' kd' j nb Hs Os y a n m w) (h23 : A w 23 n = 17) (c0 : A m 23 a = 15) (cr : ∃ f, CRs (A m 23) (ROs w) (w.2.2.2 34) f y (a + 1) (n + 1) (Hs j) (Os j)) : PP Q (q67 (SAf T Fv P p) N (qgo (SAf T Fv P p) N M1) m p (I ((v : Nat) : Int))) (bnd (fm_M_one N w (I ((n : Nat) : Int)) (I 17)) (fun u _ => KRs Fv' AN TT CC ND CN UN FN N p mu M2 w u)) := by
  obtain ⟨⟨r5, r8, r2⟩, ⟨ha, hn, hv, hpp, hj⟩, nd, ⟨pl, ru, bd⟩, ⟨n1, n2, n3⟩, bH, bW, bB, bY, nND, hN⟩ := st_b s
  have h1 := (n2.2.2.2.2.2.1 h23).2.1
  obtain ⟨W1, rfl⟩ : ∃ W1, W = W1 + 1 := ⟨W - 1, by omega⟩
  rw [go_vl r5 r8 (by omega) r2 (by omega) c0 ⟨by omega, by omega⟩]
  exact op_drop (K1 := fun u => q195 (SAf T Fv P p) N (qgo (SAf T Fv P p) N M1) u p (I ((v : Nat) : Int))) (K2 := fun u => KRs Fv' AN TT CC ND CN UN FN N p mu M2 w u) hpp pl ru (by omega) (by omega) cr (fun m3 w3 a1 a2 a3 a4 => st_fg ih s hj a1 a2 a3 a4)
/-- on elsewhere -/
theorem sk_26 (ih : ∀ M1 v m w, SIA T Fv P Fv' AN TT CC pM pE ND CN PN SN UN FN p v m w → PP Q (qgo (SAf T Fv P p) N M1 m p (I ((v : Nat) : Int))) (gg_M_go N M2 w (I ((p : Nat) : Int)))) (s : STx T Fv P Fv' AN TT CC pM pE ND CN PN SN UN FN N PR p i v f b U B W Y l ow kw ow' kd' j nb Hs Os y a n m w) {t2 n2 : Nat} (c0 : A m 23 a = 18) (ht : A m 23 (a + 1) = ((t2 : Nat) : Int)) (hd : A w 25 n = ((n2 : Nat) : Int) ∨ (A w 25 n = -2 ∧ ∃ r : Nat, A w 26 n = ((r : Nat) : Int) ∧ r < 100000 ∧ A w 26 r = ((n2 : Nat) : Int))) (cr : ∃ f, CRs (A m 23) (ROs w) (w.2.2.2 34) f y t2 n2 (Hs j) (Os j)) : PP Q (q67 (SAf T Fv P p) N (qgo (SAf T Fv P p) N M1) m p (I ((v : Nat) : Int))) (bnd (fm_M_one N w (I ((n : Nat) : Int)) (I 26)) (fun u _ => KRs Fv' AN TT CC ND CN UN FN N p mu M2 w u)) := by
  obtain ⟨⟨r5, r8, r2⟩, ⟨ha, hn, hv, hpp, hj⟩, nd, ⟨pl, ru, bd⟩, ⟨n1, n2, n3⟩, bH, bW, bB, bY, nND, hN⟩ := st_b s
  have cb := CR_b cr.choose_spec
  rw [go_fl r5 r8 (by omega) r2 (by omega) c0 ⟨by omega, by omega⟩]
  exact op_jump (K1 := fun u => q195 (SAf T Fv P p) N (qgo (SAf T Fv P p) N M1) u p (I ((v : Nat) : Int))) (K2 := fun u => KRs Fv' AN TT CC ND CN UN FN N p mu M2 w u) hpp pl ru (by omega) (by omega) ht (by omega) hd cr (fun m3 w3 a1 a2 a3 a4 => st_fg ih s hj a1 a2 a3 a4)
/-- a catch goes -/
theorem sk_20 (ih : ∀ M1 v m w, SIA T Fv P Fv' AN TT CC pM pE ND CN PN SN UN FN p v m w → PP Q (qgo (SAf T Fv P p) N M1 m p (I ((v : Nat) : Int))) (gg_M_go N M2 w (I ((p : Nat) : Int)))) (s : STx T Fv P Fv' AN TT CC pM pE ND CN PN SN UN FN N PR p i v f b U B W Y l ow kw ow' kd' j nb Hs Os y a n m w) (h23 : A w 23 n = 20) (c0 : A m 23 a = 30) (cr : ∃ f, CRs (A m 23) (ROs w) (w.2.2.2 34) f y (a + 1) (n + 1) (Hs j) (Os j)) : PP Q (q67 (SAf T Fv P p) N (qgo (SAf T Fv P p) N M1) m p (I ((v : Nat) : Int))) (bnd (fm_M_one N w (I ((n : Nat) : Int)) (I 20)) (fun u _ => KRs Fv' AN TT CC ND CN UN FN N p mu M2 w u)) := by
  obtain ⟨⟨r5, r8, r2⟩, ⟨ha, hn, hv, hpp, hj⟩, nd, ⟨pl, ru, bd⟩, ⟨n1, n2, n3⟩, bH, bW, bB, bY, nND, hN⟩ := st_b s
  rw [go_fl r5 r8 (by omega) r2 (by omega) c0 ⟨by omega, by omega⟩]
  obtain ⟨q, c1, c2, c3, -⟩ := id ru.1.2
  obtain ⟨c, rfl⟩ : ∃ c, q = c + 1 := ⟨q - 1, by
    obtain ⟨i2, h, mm, L, g2, x2, j2, wb, nb2, cb2, rk, M⟩ := cl_any s.2.2.2.1 r5 r8
    obtain ⟨-, -, st, ⟨ti, e5⟩, -⟩ := id M
    have ei : a = i2 := by omega
    subst ei
    have h1 := in_30 (M.1.2.2.1 _ _ _ _ _ _ ti).2.2.2.2.2 c0
    have h2 := st.2.2.2.1
    omega⟩
  exact op_uncatch (K1 := fun u => q195 (SAf T Fv P p) N (qgo (SAf T Fv P p) N M1) u p (I ((v : Nat) : Int))) (K2 := fun u => KRs Fv' AN TT CC ND CN UN FN N p mu M2 w u) hpp pl ru c1 (by omega) (by omega) (by omega) cr (fun m3 w3 a1 a2 a3 a4 a5 => (st_ru ih s a1 a2 a3 a4 a5).1)
/-- a catch comes -/
theorem sk_19 (ih : ∀ M1 v m w, SIA T Fv P Fv' AN TT CC pM pE ND CN PN SN UN FN p v m w → PP Q (qgo (SAf T Fv P p) N M1 m p (I ((v : Nat) : Int))) (gg_M_go N M2 w (I ((p : Nat) : Int)))) (s : STx T Fv P Fv' AN TT CC pM pE ND CN PN SN UN FN N PR p i v f b U B W Y l ow kw ow' kd' j nb Hs Os none a n m w) {t2 nn : Nat} (c0 : A m 23 a = 29) (ht : A m 23 (a + 1) = ((t2 : Nat) : Int)) (hd : A w 25 n = ((nn : Nat) : Int)) (crc : ∃ f, CRs (A m 23) (ROs w) (w.2.2.2 34) f none t2 nn (Hs j) (Os j)) (cr : ∃ f, CRs (A m 23) (ROs w) (w.2.2.2 34) f none (a + 2) (n + 1) (Hs j) (Os j)) : PP Q (q67 (SAf T Fv P p) N (qgo (SAf T Fv P p) N M1) m p (I ((v : Nat) : Int))) (bnd (fm_M_one N w (I ((n : Nat) : Int)) (I 19)) (fun u _ => KRs Fv' AN TT CC ND CN UN FN N p mu M2 w u)) := by
  obtain ⟨⟨r5, r8, r2⟩, ⟨ha, hn, hv, hpp, hj⟩, nd, ⟨pl, ru, bd⟩, ⟨n1, n2, n3⟩, bH, bW, bB, bY, nND, hN⟩ := st_b s
  rw [go_fl r5 r8 (by omega) r2 (by omega) c0 ⟨by omega, by omega⟩]
  obtain ⟨q, c1, c2, c3, -⟩ := id ru.1.2
  obtain ⟨i2, h, mm, L, g2, x2, j2, wb, nb2, cb2, rk, M⟩ := cl_any s.2.2.2.1 r5 r8
  have lb : LNB m p := GEN_ln M.1 s.1.2.1
  have b1 := (MI_b M).2.2.2.1
  have b2 := M.2.2.1.2.2.2.1
  exact op_catch (K1 := fun u => q195 (SAf T Fv P p) N (qgo (SAf T Fv P p) N M1) u p (I ((v : Nat) : Int))) (K2 := fun u => KRs Fv' AN TT CC ND CN UN FN N p mu M2 w u) hpp pl ru lb c1 (by omega) (by omega) (by omega) ht hd crc cr (fun m3 w3 a1 a2 a3 a4 a5 => (st_ru ih s a1 a2 a3 a4 a5).1)
/-- names go -/
theorem sk_18 (ih : ∀ M1 v m w, SIA T Fv P Fv' AN TT CC pM pE ND CN PN SN UN FN p v m w → PP Q (qgo (SAf T Fv P p) N M1 m p (I ((v : Nat) : Int))) (gg_M_go N M2 w (I ((p : Nat) : Int)))) (s : STx T Fv P Fv' AN TT CC pM pE ND CN PN SN UN FN N PR p i v f b U B W Y l ow kw ow' kd' j nb Hs Os none a n m w) {k : Nat} (h23 : A w 23 n = 18) (c0 : A m 23 a = 16) (hd : A w 25 n = ((k : Nat) : Int)) (hk : k ≤ (Os j).length) (ht : A m 23 (a + 1) = (((Os j).length - k : Nat) : Int)) (cr : ∃ f, CRs (A m 23) (ROs w) (w.2.2.2 34) f none (a + 2) (n + 1) (Hs j) ((Os j).take k)) : PP Q (q67 (SAf T Fv P p) N (qgo (SAf T Fv P p) N M1) m p (I ((v : Nat) : Int))) (bnd (fm_M_one N w (I ((n : Nat) : Int)) (I 18)) (fun u _ => KRs Fv' AN TT CC ND CN UN FN N p mu M2 w u)) := by
  obtain ⟨⟨r5, r8, r2⟩, ⟨ha, hn, hv, hpp, hj⟩, nd, ⟨pl, ru, bd⟩, ⟨n1, n2, n3⟩, bH, bW, bB, bY, nND, hN⟩ := st_b s
  have cb := CR_b cr.choose_spec
  rw [go_vl r5 r8 (by omega) r2 (by omega) c0 ⟨by omega, by omega⟩]
  obtain ⟨a0, q1, q2, -⟩ := (n2.2.2.2.2.2.2.1 h23).2
  have ek : a0 = k := by omega
  subst ek
  exact op_forget (K1 := fun u => q195 (SAf T Fv P p) N (qgo (SAf T Fv P p) N M1) u p (I ((v : Nat) : Int))) (K2 := fun u => KRs Fv' AN TT CC ND CN UN FN N p mu M2 w u) hpp pl ru (by omega) (by omega) (by omega) hk ht hd (sk_105 s q2) cr (fun m3 w3 a1 a2 a3 a4 a5 => (st_ru ih s a1 a2 a3 a4 a5).1)
end
