/-! a match that fails -/
set_option maxRecDepth 100000
section
variable {T : TYc} {Fv Fv' : Int64 → Int64 → Prop} {P : Int64 → Prop} {AN : Nat} {TT : TY} {CC : CY} {pM pE : Nat → Nat} {ND CN PN SN UN FN N PR p i v mu M1 M2 f U B W Y l j a n : Nat} {m w : MS} {Q : MS → Int32 → MS → Int32 → Prop} {b : Int → Nat → Nat → Prop} {ow kw ow' kd' : Nat → Nat} {nb : Nat → Nat} {Hs Os : Nat → List Nat} {y : Option (Nat × Nat × Nat)}
/-- the terms there, before something is told -/
theorem SA_pt {m3 w3 : MS} {how ar : Int} {t : Int64} {v3 : Int32} {b3 : Int → Nat → Nat → Prop} (hh : how = 1 ∨ how = 2 ∨ how = 3) (hs : SAf T Fv P p (tld m3 how ar t) v3) (pl : PLs b3 p m3 w3 U B W Y) : ∃ ow kd, PTQ m3 p U ow kd Fv P B W Y := by
  obtain ⟨PR2, c, k, -, -, o⟩ := hs
  have e9 : F (tld m3 how ar t) 1109 = how := tld_9 ⟨by omega, by omega⟩
  rcases o with o | o | o | o
  · have := o.2.1
    omega
  · obtain ⟨u, how', ar', t', ⟨i2, h, mm, L, g2, x2, j2, wb, nb2, cb2, rk, M, -⟩, -, -, -, -, -, e⟩ := o
    have e1 : ∀ k, k ≠ 1109 → k ≠ 1111 → m3.1 k = u.1 k := fun k h1 h2 => by
      have := congrArg (fun z : MS => z.1 k) e
      have z1 : (tld m3 how ar t).1 k = m3.1 k := (wi_1 h2).trans (wi_1 h1)
      have z2 : (wl (wi (wi u 1109 how') 1111 ar') 1110 t').1 k = u.1 k := (wi_1 h2).trans (wi_1 h1)
      rw [← z1, ← z2]
      exact this
    have e4 : m3.2.2.2 = u.2.2.2 := by
      have := congrArg (fun z : MS => z.2.2.2) e
      exact this
    have eq : ∀ k, m3.1 (pq p k) = u.1 (pq p k) := fun k => e1 _ (fun c => pq_n (by omega) c.symm) (fun c => pq_n (by omega) c.symm)
    obtain ⟨s1, -, s3⟩ := M.1.1.2 p M.1.2.2.2.2.2.2.1
    have h9 := M.2.1
    obtain ⟨n, ow, kd, B', W', Y', pt⟩ := s3 (by omega)
    have pt3 : PTQ m3 p n ow kd Fv P B' W' Y' := PTQ_same pt (fun k _ => eq k) (fun k _ => by rw [e4])
    have q1 : n = U := by have := pt3.1.1; have := pl.1.1.1; omega
    have q2 : B' = B := by have := pt3.2.1.1; have := pl.2.1.1; omega
    have q3 : W' = W := by have := pt3.2.2.1.1; have := pl.2.2.1.1; omega
    have q4 : Y' = Y := by have := pt3.2.2.2.1.1; have := pl.2.2.2.1; omega
    subst q1 q2 q3 q4
    exact ⟨ow, kd, pt3⟩
  · have := o.2.2.1
    omega
  · have := o.2.2.1
    omega
/-- a term tells what is wrong: no GUARD -/
theorem st_eo {d W1 : Nat} {m3 w3 : MS} {ar : Int} (ih : ∀ M1 v m w, SIA T Fv P Fv' AN TT CC pM pE ND CN PN SN UN FN p v m w → PP Q (qgo (SAf T Fv P p) N M1 m p (I ((v : Nat) : Int))) (gg_M_go N M2 w (I ((p : Nat) : Int)))) (s : STx T Fv P Fv' AN TT CC pM pE ND CN PN SN UN FN N PR p i v f b U B (W1 + 1) Y l ow kw ow' kd' j nb Hs Os none a n m w) (har : 0 ≤ ar ∧ ar < 22) (gm3 : GGm p m m3) (gw3 : GGw p w w3) (sc3 : SCs p m w → SCs p m3 w3) (pl3 : PLs (bGd b U ow' kd') p m3 w3 U B (W1 + 1) Y) (ru3 : RUb m3 w3 p j nb Hs Os none) (e8 : w3.2.2.2 88 = w.2.2.2 88 ∧ w3.1 140 = w.1 140) (wr : ∀ K, 102 ≤ K ∧ K ≤ 106 → w3.2.2.1 K = w.2.2.1 K) (m28 : m3.1 (pq p 28) = m.1 (pq p 28)) : PP Q (q195 (SAf T Fv P p) N (qgo (SAf T Fv P p) N M1) (tld m3 1 ar (m3.2.2.2 (pq p 35) W1)) p (I ((v : Nat) : Int))) (bnd ((rc_M_error N d).2.1 w3 (I ar) (w3.2.2.2 91 (46000 * p + W1))) (fun u _ => KRs Fv' AN TT CC ND CN UN FN N p mu M2 w u)) := by
  refine q195_s (fun hs => ?_)
  obtain ⟨lb, cx⟩ := SA_er (Or.inl rfl) hs
  obtain ⟨ow3, kw3, pt3⟩ := SA_pt (Or.inl rfl) hs pl3
  obtain ⟨⟨hN, hpr, pr24, hi, hf⟩, ⟨per, hAN⟩, ba, lp, pl, ru, ⟨pt, xc, h140⟩, ⟨bW, bB, bY⟩, bd, sc, wl, rb, rm, ⟨eW, eB, nND⟩, rct, -⟩ := id s
  obtain ⟨⟨fa, ct⟩, -⟩ := id ru
  have h149 : F w 149 = 0 := ba.2.2.2.1.1
  have h150 : F w 150 = 0 := ba.2.2.2.1.2
  have h955 : F m3 955 = ((i : Nat) : Int) := (congrArg Int32.toInt gm3.2.2.1).trans ba.2.2.1.1
  have e28 : F m3 (pq p 28) = F m (pq p 28) := congrArg Int32.toInt m28
  have pb : PB (PWs AN) PR := wl.1.2.2
  have w150 : F w3 150 = ((0 : Nat) : Int) := (congrArg Int32.toInt gw3.2.2.1).trans h150
  have hp3 : HP (hp w3 p) U ow' kd' Fv' (PWs AN) := by
    have e : hp w3 p = hp w p := by
      unfold hp
      rw [e8.1]
    rw [e]
    exact xc.2.1
  have hP : ∀ t, P t → PWs AN t := by
    obtain ⟨-, -, -, -, fa', na, atf⟩ := ba.2.2.2.2.2.2.1
    exact PT_pw (LPQ_dc lp).2 atf hAN
  have xc3 := CXf_cx (CXf_of hP pl3 pt3 hp3 (by omega) ⟨by omega, by omega, bY⟩) ((congrArg Int32.toInt e8.2).trans h140)
  have nw := (per.1.2.2.1 n nND).1.2.2.2.1
  have ca : CTa m3 w3 p (W1 + 1) := fun c hc => by
    rw [e28] at hc
    obtain ⟨y1, -⟩ := ct_mon2 ct hc (Nat.lt_succ_self c)
    obtain ⟨W0, B0, z1, z2, -⟩ := rct c y1
    have r3 := A_r w3 103 (1600 * p + c)
    obtain ⟨nn, c1, -, c3, -⟩ := ct
    refine ⟨by omega, ⟨W0, ?_, by omega⟩, fun nd hnd => by omega⟩
    show (w3.2.2.1 104 _).toInt = _
    rw [wr 104 (by omega)]
    exact z1
  exact errOf_pp (by omega) hpr pl3 ru3 ⟨by omega, by omega⟩ lb pt3 cx xc3 pb (pt3.2.2.1.2 W1 (by omega)) (xc3.2.2.2.2.2.2.2.1 W1 (by omega)) (pl3.2.2.1.2.2 W1 (by omega)) ca har ⟨h955, hi⟩ ⟨w150, by omega⟩ (by omega) (fun b3 U3 W3 r k a0 nn m4 w4 a1 a2 a3 a4 a5 => by
      have r5 := a2.2.2.2.1
      exact (aft_gg hN per h149 ih ba (by omega) (GGm.tr gm3 a3) (GGw.tr gw3 a4) a1 (fun s => a5 (sc3 s)) (Or.inl ⟨r, nb, Hs, _, none, a0, nn, a2⟩) (by omega) a2.2.2.2.2.2.1.2.1).2) (fun m4 w4 wr t3 x3 a1 a2 a3 a4 a5 a6 => (aft_end hN per h149 ih ba (by omega) (GGm.tr gm3 a1) (GGw.tr gw3 a2) (fun s => a3 (sc3 s)) a4 ⟨ba.2.2.1.1, hi⟩ (show F w 150 = ((0 : Nat) : Int) ∧ 0 < 4000 from ⟨h150, by decide⟩) a5 a6).2)
/-- a match -/
theorem sk_16 {q e : Nat} {O2 : List Nat} (ih : ∀ M1 v m w, SIA T Fv P Fv' AN TT CC pM pE ND CN PN SN UN FN p v m w → PP Q (qgo (SAf T Fv P p) N M1 m p (I ((v : Nat) : Int))) (gg_M_go N M2 w (I ((p : Nat) : Int)))) (s : STx T Fv P Fv' AN TT CC pM pE ND CN PN SN UN FN N PR p i v f b U B W Y l ow kw ow' kd' j nb Hs Os none a n m w) (h23 : A w 23 n = 16) (c0 : A m 23 a = 20) (h25 : A w 25 n = ((q : Nat) : Int)) (ps : PTs (A m 23) (ROs w) (w.2.2.2 34) (Hs j) 230 (a + 1) q (Os j) e O2) (c8 : A m 23 e = 8) (he : e + 3 < 24000) (cr : ∃ f, CRs (A m 23) (ROs w) (w.2.2.2 34) f none (e + 1) (n + 1) (Hs j) O2) : PP Q (q67 (SAf T Fv P p) N (qgo (SAf T Fv P p) N M1) m p (I ((v : Nat) : Int))) (bnd (fm_M_one N w (I ((n : Nat) : Int)) (I 16)) (fun u _ => KRs Fv' AN TT CC ND CN UN FN N p mu M2 w u)) := by
  obtain ⟨⟨r5, r8, r2⟩, ⟨ha, hn, hv, hpp, hj⟩, nd, ⟨pl, ru, bd⟩, ⟨n1, n2, n3⟩, bH, bW, bB, bY, nND, hN⟩ := st_b s
  have h1 := (n2.2.2.2.2.1 h23).2.1
  obtain ⟨W1, rfl⟩ : ∃ W1, W = W1 + 1 := ⟨W - 1, by omega⟩
  have eB : B = nb j + (Hs j ++ Os j).length := by
    have h1 := pl.2.1.1
    have h2 := ru.1.1.2.2.2
    omega
  subst eB
  obtain ⟨⟨-, hpr, pr24, hi, hf⟩, ⟨per, hAN⟩, ba, lp, -, -, ⟨pt, xc, h140⟩, -⟩ := id s
  obtain ⟨bd1, bd2, bd3, bd4⟩ := bd
  obtain ⟨i2, h, mm, L, g2, x2, j2, wb, nb2, cb2, rk, M⟩ := cl_any lp r5 r8
  have lb : LNB m p := GEN_ln M.1 hpr
  have cx : CTX Fv P m := (LPQ_dc lp).2
  have tb := ba.2.2.2.2.2.2.1
  obtain ⟨-, -, -, -, fa', na, atf⟩ := TB_gg (p := p) tb GGm.rf (GGw_fg (FGw.goto (p := p) (j := j) (v := ((n + 1 : Nat) : Int))) hj)
  obtain ⟨⟨l3, c1, c2, c3⟩, -, -⟩ := pt.2.2.2.2
  have h42 : ((nb j + (Hs j ++ Os j).length : Nat) : Int) ≤ F m (pq p 42) := by
    obtain ⟨-, ⟨bb, -, y1, y2⟩, -⟩ := lb
    omega
  have ru' : RUb m (wa w 98 (60 * p + j) ((n + 1 : Nat) : Int)) p j nb Hs Os none := RUb_fg (RUs_b ru) FGm.rf FGw.goto
  have pl' : PLs (bGd b U ow' kd') p m (wa w 98 (60 * p + j) ((n + 1 : Nat) : Int)) U (nb j + (Hs j ++ Os j).length) (W1 + 1) Y := PLs_98 pl
  have fl := ru'.1.1.2.1 j (Nat.le_refl _)
  rw [go_fl r5 r8 (by omega) r2 (by omega) c0 ⟨by omega, by omega⟩]
  refine op_match (K1 := fun u => q195 (SAf T Fv P p) N (qgo (SAf T Fv P p) N M1) u p (I ((v : Nat) : Int))) (K2 := fun u => KRs Fv' AN TT CC ND CN UN FN N p mu M2 w u) (fa' := fa') (na := na) hpp pl ru (by omega) (by omega) bd2 ⟨bd3, bd4⟩ ⟨⟨hpp, ru'.2.2.2.2.1⟩, ⟨ru'.1.1.1.2.1, ru'.1.1.1.2.2, fl.2.2.1.2, fl.2.2.2.2.1⟩, ⟨pl'.1.2.1, pt.1.2.2, xc.2.1, pl'.1.1.2.2⟩, cx, per.2.1, atf, nd.2⟩ pt xc h42 (by omega) h25 ps c8 he cr (fun m3 w3 a1 a2 a3 a4 a5 => (st_ru ih s a1 a2 a3 a4 a5).1) (fun m3 w3 a1 a2 a3 a4 a5 a6 a7 a8 => ?_)
  exact st_eo (ar := 13) (d := 20) ih s ⟨by omega, by omega⟩ a3 a4 a5 a1 a2 a6 a7 a8
end
