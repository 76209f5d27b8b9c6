/-! spawn: a step of the induction -/
set_option maxRecDepth 100000
section
variable {T : TYc} {Fv Fv' : Int64 → Int64 → Prop} {P : Int64 → Prop} {AN : Nat} {TT : TY} {CC : CY} {pM pE : Nat → Nat} {ND CN PN SN UN FN N PR p i v mu M1 M2 f U B W Y l j a n : Nat} {m w : MS} {Q : MS → Int32 → MS → Int32 → Prop} {b : Int → Nat → Nat → Prop} {ow kw ow' kd' : Nat → Nat} {nb : Nat → Nat} {Hs Os : Nat → List Nat} {y : Option (Nat × Nat × Nat)}
/-- behind a step, with so many processes -/
theorem st_k3 {m3 w3 : MS} {i3 PR3 : Nat} (ih : ∀ M1 v m w, SIA T Fv P Fv' AN TT CC pM pE ND CN PN SN UN FN p v m w → PP Q (qgo (SAf T Fv P p) N M1 m p (I ((v : Nat) : Int))) (gg_M_go N M2 w (I ((p : Nat) : Int)))) (s : STx T Fv P Fv' AN TT CC pM pE ND CN PN SN UN FN N PR p i v f b U B W Y l ow kw ow' kd' j nb Hs Os y a n m w) (hp3 : p < PR3) (n942 : F m3 942 = ((PR3 : Nat) : Int)) (n118 : F w3 118 = ((PR3 : Nat) : Int)) (e1 : ∀ k, k = 22 ∨ k = 442 ∨ k = 449 ∨ k = 944 ∨ k = 946 ∨ k = 1106 → m3.1 k = m.1 k) (e2 : ∀ K, K < 49 → m3.2.2.1 K = m.2.2.1 K) (e3 : ∀ k, k = 14 ∨ k = 119 ∨ k = 120 ∨ k = 165 → w3.1 k = w.1 k) (e4 : ∀ K, K < 88 → w3.2.2.1 K = w.2.2.1 K) (t45 : m3.1 945 = w3.1 121) (pn : PNx m3 w3) (wt : WTs PR3 m3 w3) (h956 : F m3 956 = ((i3 : Nat) : Int)) (h9 : F m3 1109 = 0 ∨ F m3 (pq p 9) = 3) (W3 : SFs Fv P Fv' (PWs AN) PR3 m3 w3 → WLs (RRx p (SPs p)) PR3 Fv P Fv' (PWs AN) none i3 0 m3 w3) : PP Q (q195 (SAf T Fv P p) N (qgo (SAf T Fv P p) N M1) m3 p (I ((v : Nat) : Int))) (KRs Fv' AN TT CC ND CN UN FN N p mu M2 w w3) := by
  obtain ⟨-, -, -, -, cn, -, tb, -⟩ := id s.2.2.1
  obtain ⟨t1, -, ⟨t3, t4, t5⟩, t6, fa, na, t7⟩ := tb
  obtain ⟨⟨hN, hpr, pr24, hi, hf⟩, ⟨per, hAN⟩, ba, -⟩ := id s
  refine pp_clr (fun rs => ?_)
  have h34 : w3.2.2.2 34 = w.2.2.2 34 := by
    obtain ⟨_, _, _, _, g⟩ := rs
    exact g.2.2.2 34 (by decide)
  have pg : PG0 m w m3 w3 := ⟨⟨e2 23 (by omega), e1 22 (by omega), ATc_eq (e2 2 (by omega)) (e2 3 (by omega))⟩, fun K h => e4 K (by unfold PRr at h; omega), h34, e4 12 (by omega), e4 13 (by omega), e3 14 (by omega)⟩
  have h := (aft_on (M1 := M1) (mu := mu) (v := v) hN per ih hp3 (by omega) n942 n118 h9 W3 h956 ba.2.2.2.1.1 (fun a => CN_pg cn pg a) wt ⟨TB_tab t1 ⟨e1 442 (by omega), e1 449 (by omega)⟩ (fun K h => e2 K (by omega)) (fun K h => e4 K (by unfold PRr at h; omega)) h34, pn, ⟨CLk_st t3 (e1 944 (by omega)) (e3 120 (by omega)), t45, by rw [e1 946 (by omega), e3 119 (by omega)]; exact t5⟩, by rw [e1 1106 (by omega), e3 165 (by omega)]; exact t6, fa, na, ATf_k t7 (e1 22 (by omega)) (e2 2 (by omega)) (e2 3 (by omega)) (e3 14 (by omega)) (e4 12 (by omega)) (e4 13 (by omega))⟩).1
  rw [rsc_t rs] at h
  exact h
theorem WTs_up (h : WTs PR m w) : WTs (PR + 1) m w := by
  obtain ⟨L, a, b, c⟩ := h
  refine ⟨L, a, b, fun y hy => ?_⟩
  obtain ⟨⟨a0, e1, e2⟩, ⟨e3, e4⟩, e5⟩ := c y hy
  exact ⟨⟨a0, e1, by omega⟩, ⟨e3, by omega⟩, e5⟩
/-- what is behind a spawn -/
theorem st_sp {mB wC m3 w3 : MS} {j3 a3 n3 : Nat} {nb3 : Nat → Nat} {Hs3 Os3 : Nat → List Nat} {y3 : Option (Nat × Nat × Nat)} {z : Int} (ih : ∀ M1 v m w, SIA T Fv P Fv' AN TT CC pM pE ND CN PN SN UN FN p v m w → PP Q (qgo (SAf T Fv P p) N M1 m p (I ((v : Nat) : Int))) (gg_M_go N M2 w (I ((p : Nat) : Int)))) (s : STx T Fv P Fv' AN TT CC pM pE ND CN PN SN UN FN N PR p i v f b U B W Y l ow kw ow' kd' j nb Hs Os y a n m w) (W3 : ∀ P2, SFs Fv P Fv' P2 (PR + 1) m3 w3 → WLs (RRp p) (PR + 1) Fv P Fv' P2 none i 0 m3 w3) (ru3 : RUs m3 w3 p j3 nb3 Hs3 Os3 y3 a3 n3) (gm : NGm PR m mB) (gw : NGw PR (wa w 98 (60 * p + j) z) wC) (fm : FGm p mB m3) (fw : FGw p j wC w3) : PP Q (q195 (SAf T Fv P p) N (qgo (SAf T Fv P p) N M1) m3 p (I ((v : Nat) : Int))) (KRs Fv' AN TT CC ND CN UN FN N p mu M2 w w3) := by
  obtain ⟨⟨hN, hpr, pr24, hi, hf⟩, ⟨per, hAN⟩, ba, -⟩ := id s
  obtain ⟨-, -, ⟨h955, h956⟩, -, cn, wt, tb, -, q942, q118⟩ := id ba
  obtain ⟨t1, t2, ⟨t3, t4, t5⟩, t6, -⟩ := id tb
  have mi : ∀ k, k < 2000 → k ≠ 942 → k ≠ 1105 → m3.1 k = m.1 k := fun k h1 h2 h3 => by
    rw [fm.1 k (by
      have q : ∀ l, k ≠ pq p l := fun l => pq_n h1
      simp [q, h3]), gm.2.1 k h1 h2]
  have ma : ∀ K, K < 100 → m3.2.2.1 K = m.2.2.1 K := fun K h => by rw [fm.2.2.1 K (by simp), gm.2.2.2.1 K (by omega) (by omega)]
  have wi : ∀ k, k < 136 → k ≠ 118 → w3.1 k = w.1 k := fun k h1 h2 => by rw [fw.1.1 k (by simp; omega), gw.2.1 k h2]; rfl
  have w165 : w3.1 165 = w.1 165 := by rw [fw.1.1 165 (by simp), gw.2.1 165 (by omega)]; rfl
  have wA : ∀ K, K < 88 ∨ (118 ≤ K ∧ K ≤ 130) → w3.2.2.1 K = w.2.2.1 K := fun K h => by rw [fw.1.2.2.1 K (by simp; omega), gw.2.2.1 K (by omega), wa_21 (by omega)]
  have n942 : F m3 942 = ((PR + 1 : Nat) : Int) := by
    rw [← gm.2.2.2.2]
    exact congrArg Int32.toInt (fm.1 942 (by
      have q : ∀ l, 942 ≠ pq p l := fun l => pq_n (by omega)
      simp [q]))
  have n118 : F w3 118 = ((PR + 1 : Nat) : Int) := by
    rw [← gw.2.2.2.2]
    exact congrArg Int32.toInt (fw.1.1 118 (by simp))
  exact st_k3 ih s (PR3 := PR + 1) (i3 := i) (by omega) n942 n118 (fun k h => mi k (by omega) (by omega) (by omega)) (fun K h => ma K (by omega)) (fun k h => by
    by_cases e : k = 165
    · subst e
      exact w165
    · exact wi k (by omega) (by omega)) (fun K h => wA K (by omega)) (by rw [mi 945 (by omega) (by omega) (by omega), wi 121 (by omega) (by omega)]; exact t4) (PN_st t2 (mi 953 (by omega) (by omega) (by omega)) (fun K h => ma K (by omega)) (wi 128 (by omega) (by omega)) (fun K h => wA K (by omega))) (WTs_st (WTs_up wt) (mi 950 (by omega) (by omega) (by omega)) (fun K h => ma K (by omega)) (wi 125 (by omega) (by omega)) (fun K h => wA K (by omega))) ((congrArg Int32.toInt (mi 956 (by omega) (by omega) (by omega))).trans h956) (Or.inl ru3.2.2.2.2.2.1.2.1) (fun s3 => WL_q (WL_t (W3 _ s3)) (fun _ => Or.inl ⟨_, _, _, _, _, _, _, ru3⟩))
theorem pk_spawn (ih : ∀ M1 v m w, SIA T Fv P Fv' AN TT CC pM pE ND CN PN SN UN FN p v m w → PP Q (qgo (SAf T Fv P p) N M1 m p (I ((v : Nat) : Int))) (gg_M_go N M2 w (I ((p : Nat) : Int)))) (s : STx T Fv P Fv' AN TT CC pM pE ND CN PN SN UN FN N PR p i v f b U B W Y l ow kw ow' kd' j nb Hs Os y a n m w) (hb : tB TT n + 1 ≤ tH TT n) (cr : ∃ f, CRs (A m 23) (ROs w) (w.2.2.2 34) f y (a + 2) (n + 1) (Hs j) (Os j)) : PP Q (bnd (hm_Ma_predefined N m p (I 1)) (fun u _ => q195 (SAf T Fv P p) N (qgo (SAf T Fv P p) N M1) u p (I ((v : Nat) : Int)))) (bnd (fm_M_predefinedRun N (wa w 98 (60 * p + j) ((n + 1 : Nat) : Int)) (I 1)) (fun u _ => KRs Fv' AN TT CC ND CN UN FN N p mu M2 w u)) := by
  obtain ⟨⟨r5, r8, r2⟩, ⟨ha, hn, hv, hpp, hj⟩, nd, ⟨pl, ru, bd⟩, ⟨n1, n2, n3⟩, bH, bW, bB, bY, nND, hN⟩ := st_b s
  obtain ⟨bd1, bd2, bd3, bd4⟩ := bd
  obtain ⟨⟨-, hpr, pr24, hi, hf⟩, ⟨per, hAN⟩, ba, lp, -, -, ⟨pt, xc, h140⟩, -, -, sc, wl, -⟩ := id s
  obtain ⟨-, -, ⟨h955, h956⟩, -, cn, wt, tb, -, q942, q118⟩ := id ba
  obtain ⟨W1, rfl⟩ : ∃ W1, W = W1 + 1 := ⟨W - 1, by omega⟩
  obtain ⟨i2, h, mm, L0, g2, x2, j2, wb, nb2, cb2, rk, M⟩ := cl_any s.2.2.2.1 r5 r8
  obtain ⟨ft, far, fus⟩ := tb.1
  have wft := M.1.2.2.1
  have al := M.1.2.2.2.2.2.1
  obtain ⟨⟨q0, q1⟩, q2, ⟨q3, q4⟩, q5, -, q6⟩ := M.1.2.2.2.1
  have h98 : A (wa w 98 (60 * p + j) ((n + 1 : Nat) : Int)) 98 (60 * p + j) = ((n + 1 : Nat) : Int) := by rw [wa_sm (by omega) (by omega)]
  have pl1 : PLs (bGd b U ow' kd') p m (wa w 98 (60 * p + j) ((n + 1 : Nat) : Int)) U B (W1 + 1) Y := PLs_98 pl
  have hP : ∀ t, P t → PWs AN t := by
    obtain ⟨-, -, -, -, fa', na, atf⟩ := tb
    exact PT_pw (LPQ_dc lp).2 atf hAN
  have xc1 := CXf_cx (w := wa w 98 (60 * p + j) ((n + 1 : Nat) : Int)) (CXf_of (w := wa w 98 (60 * p + j) ((n + 1 : Nat) : Int)) hP pl1 pt xc.2.1 (by omega) ⟨by omega, by omega, bY⟩) h140
  have x33 : F (wa w 98 (60 * p + j) ((n + 1 : Nat) : Int)) 133 = ((p : Nat) : Int) := ru.2.2.2.2.2.2.1
  have rw1 : ∀ K i, K ≠ 98 → A (wa w 98 (60 * p + j) ((n + 1 : Nat) : Int)) K i = A w K i := fun K i h => by
    show ((wa w 98 (60 * p + j) ((n + 1 : Nat) : Int)).2.2.1 K i).toInt = _
    rw [wa_21 h]
    rfl
  have rt := pl.2.2.1.2.2 W1 (by omega)
  have g := pt.2.2.1.2 W1 (by omega)
  have g' := xc.2.2.2.2.2.2.2.1 W1 (by omega)
  have U5 := pl.1.1.2.2
  have eX := st_wr (M1 := M1) (M2 := M2) (mu := mu) (c := 11) ih s (by omega) (by rw [wi_id pl.2.2.1.1]; exact pl1) (by omega) (by omega) FGw.goto ⟨rfl, rfl⟩
  generalize ht : m.2.2.2 (pq p 35) W1 = t at rt g
  generalize hx : w.2.2.2 91 (46000 * p + W1) = x at rt g'
  by_cases s3 : so t = 3
  · obtain ⟨L, ⟨sx, hvt, hU, hvx, hU'⟩, hL, hL', plr, ⟨fv, fv'⟩, hcs⟩ := TP_fun pl.1.2.1 pt.1.2.2 xc.2.1 ⟨rt, g, g'⟩ s3
    rcases plr with ⟨uu, u1, u2, u3⟩ | ⟨ff, u1, u2, u3⟩
    · obtain ⟨h449, eL⟩ : ((uu : Nat) : Int) < F m 449 ∧ va (m.2.2.2 (pq p 2) (vn t + 1)) = A m 23 (A m 32 uu).toNat := by
        rcases q6 _ _ fv with ⟨pl2, y1, y2, y3⟩ | ⟨f2, y1, y2, y3⟩
        · have e : pl2 = uu := by omega
          subst e
          exact ⟨y2, y3⟩
        · omega
      obtain ⟨hu4, ar', e, ad, L2, c, H, f30, f31, f32, fL, had, hH, nm, ndH, h53, hc, h41, h54, zr⟩ := fus uu h449
      have eL2 : L2 = L := by
        rw [f32, Int.toNat_natCast, fL] at eL
        omega
      subst eL2
      have har : ar' < 2000 := by
        obtain ⟨a5, e5, p5, k5, y1, -, -, -, -, y6, -⟩ := q5 uu h449
        have := (wft _ _ _ _ _ _ y6).2.1.1
        omega
      by_cases hz : ar' = 0 ∧ PR < 24
      · obtain ⟨rfl, hPR⟩ := hz
        exact op_spawnU (K1 := fun u => q195 (SAf T Fv P p) N (qgo (SAf T Fv P p) N M1) u p (I ((v : Nat) : Int))) (K2 := fun u => KRs Fv' AN TT CC ND CN UN FN N p mu M2 w u) hpr hPR wl al h955 ru sc (by omega) bd2 ⟨bd3, bd4⟩ pl1 pt xc1 FGw.goto h98 cr ht hx s3 hvt (by omega) hvx (by omega) u2 hL u3 hL' h449 hu4 f30 f31 f32 fL had hH nm ndH h53 hc h41 zr (by omega) (fun mB wC m3 w3 a1 a2 a3 a4 a5 a6 a7 => st_sp ih s a1 a3 a4 a5 a6 a7)
      · exact op_spawnX (K1 := fun u => q195 (SAf T Fv P p) N (qgo (SAf T Fv P p) N M1) u p (I ((v : Nat) : Int))) (K2 := fun u => KRs Fv' AN TT CC ND CN UN FN N p mu M2 w u) (PR := PR) (ar := ar') hpp q942 q118 pr24 pl.2.2.1.1 bd2 ⟨bd3, bd4⟩ x33 pl1.2.2.1.2.1 (by omega) ht hx s3 sx hvt (by omega) hvx (by omega) har (by omega) (Or.inl ⟨uu, c, u2, u3, h449, hu4, f30, (rw1 53 uu (by omega)).trans h53, hc, (rw1 41 c (by omega)).trans h41⟩) eX
    · obtain ⟨h442, eL⟩ : ((ff : Nat) : Int) < F m 442 ∧ va (m.2.2.2 (pq p 2) (vn t + 1)) = 0 := by
        rcases q6 _ _ fv with ⟨pl2, y1, y2, y3⟩ | ⟨f2, y1, y2, y3⟩
        · omega
        · have e : f2 = ff := by omega
          subst e
          exact ⟨y2, y3⟩
      obtain ⟨hu6, e, c, f29, h50, zr⟩ := ft ff h442
      have e48 := far ff h442
      obtain ⟨ar', e5, f25, -, y6⟩ := q2 ff h442
      have h48 : A w 48 ff = ((ar' : Nat) : Int) := by omega
      have har : ar' < 2000 := by
        have := (wft _ _ _ _ _ _ y6).2.1.1
        omega
      by_cases hz : ar' = 0 ∧ PR < 24
      · obtain ⟨rfl, hPR⟩ := hz
        exact op_spawnF (K1 := fun u => q195 (SAf T Fv P p) N (qgo (SAf T Fv P p) N M1) u p (I ((v : Nat) : Int))) (K2 := fun u => KRs Fv' AN TT CC ND CN UN FN N p mu M2 w u) hpr hPR wl al h955 ru sc (by omega) bd2 ⟨bd3, bd4⟩ pl1 pt xc1 FGw.goto h98 cr ht hx s3 hvt (by omega) hvx (by omega) u2 u3 h442 hu6 q4 f25 f29 h48 h50 zr (by omega) (fun mB wC m3 w3 a1 a2 a3 a4 a5 a6 a7 => st_sp ih s a1 a3 a4 a5 a6 a7)
      · exact op_spawnX (K1 := fun u => q195 (SAf T Fv P p) N (qgo (SAf T Fv P p) N M1) u p (I ((v : Nat) : Int))) (K2 := fun u => KRs Fv' AN TT CC ND CN UN FN N p mu M2 w u) (PR := PR) (ar := ar') hpp q942 q118 pr24 pl.2.2.1.1 bd2 ⟨bd3, bd4⟩ x33 pl1.2.2.1.2.1 (by omega) ht hx s3 sx hvt (by omega) hvx (by omega) har (by omega) (Or.inr ⟨ff, u2, u3, h442, hu6, f25, (rw1 48 ff (by omega)).trans h48⟩) eX
  · have sx : so x ≠ 3 := by
      rw [RTb_so rt]
      exact s3
    exact op_spawnN (K1 := fun u => q195 (SAf T Fv P p) N (qgo (SAf T Fv P p) N M1) u p (I ((v : Nat) : Int))) (K2 := fun u => KRs Fv' AN TT CC ND CN UN FN N p mu M2 w u) hpp pl.2.2.1.1 bd2 ⟨bd3, bd4⟩ x33 pl1.2.2.1.2.1 (by omega) ht hx s3 sx eX
end
