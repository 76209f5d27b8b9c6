/-! a FUN is applied -/
set_option maxRecDepth 100000
section
variable {T : TYc} {Fv Fv' : Int64 → Int64 → Prop} {P : Int64 → Prop} {AN : Nat} {TT : TY} {CC : CY} {pM pE : Nat → Nat} {ND CN PN SN UN FN N PR p i v mu M1 M2 f U B W Y l j a n : Nat} {m w : MS} {Q : MS → Int32 → MS → Int32 → Prop} {b : Int → Nat → Nat → Prop} {ow kw ow' kd' : Nat → Nat} {nb : Nat → Nat} {Hs Os : Nat → List Nat} {y : Option (Nat × Nat × Nat)}
theorem RUb_166 (ru : RUb m w p j nb Hs Os none) : RUb m (wi w 166 1) p j nb Hs Os none := by
  obtain ⟨⟨fa, ct⟩, ⟨r5, r6⟩, r7, ⟨r8, r9, r10⟩, r11, r12, r13⟩ := ru
  have h12 : F m 1112 = 0 ∧ F w 152 = 0 := by
    rcases r7 with ⟨_, c3, c4⟩ | ⟨_, _, _, c, _⟩
    · exact ⟨c3, c4⟩
    · cases c
  exact ⟨⟨fa, ct⟩, ⟨r5, r6⟩, Or.inl ⟨rfl, h12.1, (wi_ne (by omega)).trans h12.2⟩, ⟨r8, r9, (wi_ne (by omega)).trans r10⟩, (wi_ne (by omega)).trans r11, r12.trans (wi_1 (by omega)).symm, r13.trans (wi_1 (by omega)).symm⟩
/-- a term tells what is wrong in a CALL -/
theorem st_ef {d : Nat} {ar : Int} {t x : Int64} (ih : ∀ M1 v m w, SIA T Fv P Fv' AN TT CC pM pE ND CN PN SN UN FN p v m w → PP Q (qgo (SAf T Fv P p) N M1 m p (I ((v : Nat) : Int))) (gg_M_go N M2 w (I ((p : Nat) : Int)))) (s : STx T Fv P Fv' AN TT CC pM pE ND CN PN SN UN FN N PR p i v f b U B W Y l ow kw ow' kd' j nb Hs Os none a n m w) (har : 0 ≤ ar ∧ ar < 22) (g : GT U ow kw P t) (g' : GT U ow' kd' (PWs AN) x) (rt : RTb (bGd b U ow' kd') t x) : PP Q (q195 (SAf T Fv P p) N (qgo (SAf T Fv P p) N M1) (tld m 1 ar t) p (I ((v : Nat) : Int))) (bnd ((rc_M_error N d).2.1 (wi w 166 1) (I ar) x) (fun u _ => KRs Fv' AN TT CC ND CN UN FN N p mu M2 w u)) := by
  refine q195_s (fun hs => ?_)
  obtain ⟨lb, cx⟩ := SA_er (Or.inl rfl) hs
  obtain ⟨⟨hN, hpr, pr24, hi, hf⟩, ⟨per, hAN⟩, ba, lp, pl, ru, ⟨pt, xc, h140⟩, ⟨bW, bB, bY⟩, bd, sc, wl, rb, rm, ⟨eW, eB, nND⟩, rct, -⟩ := id s
  obtain ⟨⟨fa, ct⟩, -⟩ := id ru
  have h149 : F w 149 = 0 := ba.2.2.2.1.1
  have h150 : F w 150 = 0 := ba.2.2.2.1.2
  have gw3 : GGw p w (wi w 166 1) := GGw_reg (by omega) (by omega)
  have sc3 : SCs p m w → SCs p m (wi w 166 1) := fun s => s
  have pb : PB (PWs AN) PR := wl.1.2.2
  have w150 : F (wi w 166 1) 150 = ((0 : Nat) : Int) := (wi_ne (by omega)).trans h150
  have hP : ∀ t, P t → PWs AN t := by
    obtain ⟨-, -, -, -, fa', na, atf⟩ := ba.2.2.2.2.2.2.1
    exact PT_pw (LPQ_dc lp).2 atf hAN
  have pl3 : PLs (bGd b U ow' kd') p m (wi w 166 1) U B W Y := pl
  have hp3 : HP (hp (wi w 166 1) p) U ow' kd' Fv' (PWs AN) := xc.2.1
  have xc3 := CXf_cx (CXf_of hP pl3 pt hp3 (by omega) ⟨by omega, by omega, bY⟩) ((wi_ne (by omega)).trans h140)
  have nw := (per.1.2.2.1 n nND).1.2.2.2.1
  have ca : CTa m (wi w 166 1) p W := fun c hc => by
    obtain ⟨y1, -⟩ := ct_mon2 ct hc (Nat.lt_succ_self c)
    obtain ⟨W0, B0, z1, z2, -⟩ := rct c y1
    have r3 := A_r (wi w 166 1) 103 (1600 * p + c)
    obtain ⟨nn, c1, -, c3, -⟩ := ct
    exact ⟨by omega, ⟨W0, z1, by omega⟩, fun nd hnd => by omega⟩
  exact errOf_pp (by omega) hpr pl3 (RUb_166 (RUs_b ru)) ⟨by omega, by omega⟩ lb pt cx xc3 pb g g' rt ca har ⟨ba.2.2.1.1, hi⟩ ⟨w150, by omega⟩ (by omega) (fun b3 U3 W3 r k a0 nn m4 w4 a1 a2 a3 a4 a5 => by
      have r5 := a2.2.2.2.1
      exact (aft_gg hN per h149 ih ba (by omega) a3 (GGw.tr gw3 a4) a1 (fun s => a5 (sc3 s)) (Or.inl ⟨r, nb, Hs, _, none, a0, nn, a2⟩) (by omega) a2.2.2.2.2.2.1.2.1).2) (fun m4 w4 wr t3 x3 a1 a2 a3 a4 a5 a6 => (aft_end hN per h149 ih ba (by omega) a1 (GGw.tr gw3 a2) (fun s => a3 (sc3 s)) a4 ⟨ba.2.2.1.1, hi⟩ (show F w 150 = ((0 : Nat) : Int) ∧ 0 < 4000 from ⟨h150, by decide⟩) a5 a6).2)
theorem ZR_c {C : Nat → Int} {R : Nat → Nat → Int} {J : Nat → Int64} {S : Option (Nat × Nat × Nat) → Nat → Nat → List Nat → List Nat → Prop} {kd sc g e c : Nat} {H O : List Nat} (z : ZRs C R J S kd sc H O g e ((c : Nat) : Int)) : c < 100000 := by
  cases g with
  | zero => exact z.elim
  | succ g =>
    rcases z.2 with ⟨h, -⟩ | ⟨k0, ⟨h, h2⟩, -⟩
    · omega
    · omega
/-- a FUN is applied: there, up to what comes of it -/
theorem ap_le {ar : Nat} {D : MS} {Sf : MS → Int32 → Prop} {G : MS → Nat → Int32 → Option (MS × Int32)} (r5 : F m (pq p 9) = 0) (r8 : F m 1108 = 0) (hv : v < 1000000000) (r2 : F m 1105 = ((a : Nat) : Int)) (ha : a + 2 < 24000) (c0 : A m 23 a = 27 ∨ A m 23 a = 28) (c1 : A m 23 (a + 1) = ((ar : Nat) : Int)) (h : ∀ z : Int32, hm_Ma_apply N m p (I ((ar : Nat) : Int)) z = some (D, ())) : q67 Sf N G m p (I ((v : Nat) : Int)) = q195 Sf N G D p (I ((v : Nat) : Int)) := by
  rcases c0 with c0 | c0
  · rw [go_fl r5 r8 hv r2 (by omega) c0 ⟨by omega, by omega⟩, apl_27, I_F' r2, show I ((a : Nat) : Int) + 1 = I ((a + 1 : Nat) : Int) from addN, Co_e (k := a + 1) rfl (by omega), bnd_so, c1, h, bnd_so, bnd_so]
  · rw [go_fl r5 r8 hv r2 (by omega) c0 ⟨by omega, by omega⟩, apl_28, I_F' r2, show I ((a : Nat) : Int) + 1 = I ((a + 1 : Nat) : Int) from addN, Co_e (k := a + 1) rfl (by omega), bnd_so, c1, h, bnd_so, bnd_so]
theorem sk_13 (ih : ∀ M1 v m w, SIA T Fv P Fv' AN TT CC pM pE ND CN PN SN UN FN p v m w → PP Q (qgo (SAf T Fv P p) N M1 m p (I ((v : Nat) : Int))) (gg_M_go N M2 w (I ((p : Nat) : Int)))) (s : STx T Fv P Fv' AN TT CC pM pE ND CN PN SN UN FN N PR p i v f b U B W Y l ow kw ow' kd' j nb Hs Os none a n m w) (h23 : A w 23 n = 13) (c1 : A m 23 (a + 1) = A w 26 n) (c3 : ∃ t : Nat, A w 24 n = ((t : Nat) : Int) ∧ A m 23 (a + 2) = A w 8 t) (hh : (A w 30 n = 1 ∧ A m 23 a = 28 ∧ a + 2 < 24000) ∨ (A w 30 n = 0 ∧ A m 23 a = 27 ∧ ∃ f, CRs (A m 23) (ROs w) (w.2.2.2 34) f none (a + 3) (n + 1) (Hs j) (Os j))) : PP Q (q67 (SAf T Fv P p) N (qgo (SAf T Fv P p) N M1) m p (I ((v : Nat) : Int))) (bnd (fm_M_one N w (I ((n : Nat) : Int)) (I 13)) (fun u _ => KRs Fv' AN TT CC ND CN UN FN N p mu M2 w u)) := by
  obtain ⟨⟨r5, r8, r2⟩, ⟨ha, hn, hv, hpp, hj⟩, nd, ⟨pl, ru, bd⟩, ⟨n1, n2, n3⟩, bH, bW, bB, bY, nND, hN⟩ := st_b s
  obtain ⟨-, ⟨ar, h26, har6, hb, -⟩, hk⟩ := n2.2.1 h23
  rw [h26] at c1
  obtain ⟨P0, rfl⟩ : ∃ P0, W = P0 + 1 + ar := ⟨W - 1 - ar, by omega⟩
  obtain ⟨i2, h, mm, L0, g2, x2, j2, wb, nb2, cb2, rk, M⟩ := cl_any s.2.2.2.1 r5 r8
  obtain ⟨⟨-, hpr, pr24, hi, hf⟩, ⟨per, hAN⟩, ba, lp, -, -, ⟨pt, xc, h140⟩, -, -, -, wl, rb, rm, ⟨eW2, eB2, -⟩, -, -, -, ⟨r100, -⟩, -⟩ := id s
  obtain ⟨bd1, bd2, bd3, bd4⟩ := bd
  obtain ⟨t0, t1, t2⟩ := c3
  have ht0 : t0 < 100000 := by
    have := n1.2.2.2.2.2.2.2.2.2.2.2.2.2.2
    omega
  have ha2 : a + 2 < 24000 := by
    rcases hh with ⟨-, -, c⟩ | ⟨-, -, f3, c⟩
    · exact c
    · have := CR_b c
      omega
  have c0 : A m 23 a = 27 ∨ A m 23 a = 28 := by
    rcases hh with ⟨-, c, -⟩ | ⟨-, c, -⟩
    · exact Or.inr c
    · exact Or.inl c
  have r11 : F w 133 = ((p : Nat) : Int) := ru.2.2.2.2.2.2.1
  have cx : CTX Fv P m := (LPQ_dc lp).2
  have pb : PB (PWs AN) PR := wl.1.2.2
  have e22 := cx.2.2.2.1
  have h955 := ba.2.2.1.1
  have h150 := ba.2.2.2.1.2
  obtain ⟨ft, far, fus⟩ := ba.2.2.2.2.2.2.1.1
  have g7 := M.1.2.2.2.2.2.2.2
  have wft := M.1.2.2.1
  obtain ⟨⟨q0, q1⟩, q2, ⟨q3, q4⟩, q5, -, q6⟩ := M.1.2.2.2.1
  have lb : LNB m p := GEN_ln M.1 hpr
  obtain ⟨⟨l3, k1, k2, k3⟩, -, -⟩ := pt.2.2.2.2
  have h42 : ((B : Nat) : Int) ≤ F m (pq p 43) ∧ ((B : Nat) : Int) ≤ F m (pq p 42) := by
    obtain ⟨-, ⟨bb, -, y1, y2⟩, -⟩ := lb
    omega
  have nbj : nb j ≤ B := by
    have h1 := pl.2.1.1
    have h2 := ru.1.1.2.2.2
    omega
  have rt := pl.2.2.1.2.2 P0 (by omega)
  have g := pt.2.2.1.2 P0 (by omega)
  have g' := xc.2.2.2.2.2.2.2.1 P0 (by omega)
  have kT : A w 30 n = 1 → ∀ nC c : Nat, F m (pq p 28) = ((nC : Nat) : Int) → c < nC → A w 102 (1600 * p + c) < ((j : Nat) : Int) := fun h30 => sk_102 s (hk (by omega))
  have U5 := pl.1.1.2.2
  generalize ht : m.2.2.2 (pq p 35) P0 = t at rt g
  generalize hx : w.2.2.2 91 (46000 * p + P0) = x at rt g'
  have li : ∀ x : Int, RG x → GT U ow kw P (mk 0 x) ∧ GT U ow' kd' (PWs AN) (mk 0 x) ∧ RTb (bGd b U ow' kd') (mk 0 x) (mk 0 x) := fun x hx => by
    have s0 : so (mk 0 x) = 0 := so_mk (by omega) (by omega)
    have nH : ¬ isH (mk 0 x) := by unfold isH; omega
    exact ⟨Or.inl ⟨nH, (cx.2.2.2.2.1 x hx).1⟩, Or.inl ⟨nH, Or.inl s0⟩, Or.inl ⟨nH, rfl, fun c => by omega⟩⟩
  have e18 : (∀ (D : Option (MS × Int32)) (K : MS → Unit → Option (MS × Int32)), PP Q D (bnd (bnd (fr_M_errorOf N (wi w 166 1) 18 (mk 0 ((ar : Nat) : Int))) (fun u18 _ => some (u18, ()))) K) → PP Q D (bnd (fm_M_callRun N w (I ((n : Nat) : Int)) (I 13)) K)) → (∀ z : Int32, hm_Ma_apply N m p (I ((ar : Nat) : Int)) z = bnd (hm_Ma_tell N m p 1 18 (mk 0 ((ar : Nat) : Int))) (fun u31 _ => some (u31, ()))) → PP Q (q67 (SAf T Fv P p) N (qgo (SAf T Fv P p) N M1) m p (I ((v : Nat) : Int))) (bnd (fm_M_one N w (I ((n : Nat) : Int)) (I 13)) (fun u _ => KRs Fv' AN TT CC ND CN UN FN N p mu M2 w u)) := fun hr hl => by
    obtain ⟨l1, l2, l3⟩ := li ((ar : Nat) : Int) ⟨by omega, by omega⟩
    rw [ap_le (D := tld m 1 18 (mk 0 ((ar : Nat) : Int))) r5 r8 (by omega) r2 ha2 c0 c1 (fun z => (hl z).trans rfl), one_13]
    refine r_bb ?_
    refine hr _ _ ?_
    refine r_bb ?_
    exact st_ef (d := 20) (ar := 18) ih s ⟨by omega, by omega⟩ l1 l2 l3
  by_cases s3 : so t = 3
  · obtain ⟨L, ⟨sx, hvt, hU, hvx, hU'⟩, hL, hL', plr, ⟨fv, fv'⟩, hcs⟩ := TP_fun pl.1.2.1 pt.1.2.2 xc.2.1 ⟨rt, g, g'⟩ s3
    rcases plr with ⟨uu, u1, u2, u3⟩ | ⟨ff, u1, u2, u3⟩
    · obtain ⟨h449, eL⟩ : ((uu : Nat) : Int) < F m 449 ∧ va (m.2.2.2 (pq p 2) (vn t + 1)) = A m 23 (A m 32 uu).toNat := by
        rcases q6 _ _ fv with ⟨pl2, y1, y2, y3⟩ | ⟨f2, y1, y2, y3⟩
        · have e : pl2 = uu := by omega
          subst e
          exact ⟨y2, y3⟩
        · omega
      obtain ⟨hu4, ar', e, ad, L2, c, H, f30, f31, f32, fL, had, hH, nm, ndH, h53, hc, h41, h54, zr⟩ := fus uu h449
      have eL2 : L2 = L := by
        rw [f32, Int.toNat_natCast, fL] at eL
        omega
      subst eL2
      have hL40 : L2 ≤ 40 := by
        obtain ⟨a5, e5, p5, k5, -, -, y3, y4, -, y6, -⟩ := q5 uu h449
        have := (wft _ _ _ _ _ _ y6).2.1.2.1
        have e1 : ad = p5 := by omega
        subst e1
        omega
      have tk := takes_u (N := N) h449 hu4
      rw [f30] at tk
      by_cases har : ar' = ar
      · subst har
        have kd : ∀ (D : Option (MS × Int32)) (K : MS → Unit → Option (MS × Int32)), PP Q D (bnd (fb_M_callRun_213 N () (wi w 166 1) (I ((n : Nat) : Int)) (I ((ar' : Nat) : Int)) (-1) (I ((uu : Nat) : Int))) K) → PP Q D (bnd (fm_M_callRun N w (I ((n : Nat) : Int)) (I 13)) K) := fun D K h => call_13u (P0 := P0) (c := c) hpp (by omega) h26 r11 pl.2.2.1.2.1 (by omega) hx sx hvx (by omega) u3 (by omega) h53 hc h41 h
        by_cases hge : F m 1107 ≤ F m 1106
        · have heq : m.1 1106 = m.1 1107 := Int32.toInt_inj.mp (by
            show F m 1106 = F m 1107
            omega)
          have wdc : ∃ wd : Int, (wd = 27 ∨ wd = 28) ∧ A m 23 a = wd := by
            rcases c0 with c0 | c0
            · exact ⟨27, Or.inl rfl, c0⟩
            · exact ⟨28, Or.inr rfl, c0⟩
          obtain ⟨wd, hwd, c00⟩ := wdc
          rw [go_fl r5 r8 (by omega) r2 (by omega) c00 ⟨by omega, by omega⟩]
          exact op_applyS (K1 := fun u => q195 (SAf T Fv P p) N (qgo (SAf T Fv P p) N M1) u p (I ((v : Nat) : Int))) (K2 := fun u => KRs Fv' AN TT CC ND CN UN FN N p mu M2 w u) (P0 := P0) hpp ru hge heq ha2 hwd c1 pl.2.2.1.1 bd2 ⟨bd3, bd4⟩ ht s3 hvt (by omega) u2 tk t1 ht0 t2 kd (st_li ih s)
        · rcases hh with ⟨h30, c00, -⟩ | ⟨h30, c00, cr⟩
          · rw [go_fl r5 r8 (by omega) r2 (by omega) c00 ⟨by omega, by omega⟩]
            exact op_applyTN (K1 := fun u => q195 (SAf T Fv P p) N (qgo (SAf T Fv P p) N M1) u p (I ((v : Nat) : Int))) (K2 := fun u => KRs Fv' AN TT CC ND CN UN FN N p mu M2 w u) hpp pl ru (by omega) (P0 := rb) (by omega) r100 (kT h30) (by omega) (by omega) ha2 bd2 ⟨bd3, bd4⟩ ⟨by omega, by omega⟩ c1 h26 h30 ht hx s3 sx hvt hvx (by omega) (by omega) u2 u3 hL' hcs h449 hu4 f30 f31 f32 fL had hH nm ndH h53 hc h41 zr (fun m4 w4 b1 b2 b3 b4 b5 b6 => st_ca ih s b1 b2 (by omega) b3 b4 b5 b6)
          · rw [go_fl r5 r8 (by omega) r2 (by omega) c00 ⟨by omega, by omega⟩]
            have ha3 : a + 3 < 24000 := by
              obtain ⟨f3, c⟩ := cr
              have := CR_b c
              omega
            by_cases hj1 : j + 1 < 60
            · exact op_applyN (K1 := fun u => q195 (SAf T Fv P p) N (qgo (SAf T Fv P p) N M1) u p (I ((v : Nat) : Int))) (K2 := fun u => KRs Fv' AN TT CC ND CN UN FN N p mu M2 w u) hpp pl ru (by omega) (by omega) hj1 (by omega) ha3 bd2 ⟨bd3, bd4⟩ h42 c1 h26 h30 ht hx s3 sx hvt (by omega) hvx (by omega) u2 u3 hL' hcs h449 hu4 f30 f31 f32 fL had hH nm ndH h53 hc h41 cr zr (fun m4 w4 b1 b2 b3 b4 b5 b6 => st_ca ih s b1 b2 (by omega) b3 b4 b5 b6)
            · have ej : j = 59 := by omega
              subst ej
              exact op_applyE (K1 := fun u => q195 (SAf T Fv P p) N (qgo (SAf T Fv P p) N M1) u p (I ((v : Nat) : Int))) (K2 := fun u => KRs Fv' AN TT CC ND CN UN FN N p mu M2 w u) hpp hpr pl ru (by omega) ha2 c1 bd2 ⟨bd3, bd4⟩ ht s3 hvt (by omega) u2 tk h30 ⟨h955, hi⟩ (show F w 150 = ((0 : Nat) : Int) ∧ 0 < 4000 from ⟨h150, by decide⟩) (cx.2.2.2.2.2.1 21 (by omega) (by omega)) (pb.1 21 (by omega) (by omega)) kd (fun w3 a1 a2 a3 a4 => (aft_end hN per ba.2.2.2.1.1 ih ba (by omega) GGm.rf a1 a2 a3 ⟨h955, hi⟩ (show F w 150 = ((0 : Nat) : Int) ∧ 0 < 4000 from ⟨h150, by decide⟩) (Or.inl rfl) a4).1)
      · have ra := A_r m 30 uu
        exact e18 (fun D K h => call_13a (P0 := P0) (c := c) (na := ((ar' : Nat) : Int)) hpp (by omega) h26 r11 pl.2.2.1.2.1 (by omega) hx sx hvx (by omega) u3 (by omega) h53 hc h41 (by omega) h) (fun z => apl_a (P0 := P0) pl.2.2.1.1 bd2 ⟨bd3, bd4⟩ ht s3 hvt (by omega) u2 tk ⟨by omega, by omega⟩ (by omega))
    · obtain ⟨h442, eL⟩ : ((ff : Nat) : Int) < F m 442 ∧ va (m.2.2.2 (pq p 2) (vn t + 1)) = 0 := by
        rcases q6 _ _ fv with ⟨pl2, y1, y2, y3⟩ | ⟨f2, y1, y2, y3⟩
        · omega
        · have e : f2 = ff := by omega
          subst e
          exact ⟨y2, y3⟩
      obtain ⟨hu6, e, c, f29, h50, zr⟩ := ft ff h442
      have hc : c < 100000 := by
        obtain ⟨_, _, z⟩ := zr
        exact ZR_c z
      have e48 := far ff h442
      obtain ⟨ar', e5, f25, -⟩ := q2 ff h442
      have h48 : A w 48 ff = ((ar' : Nat) : Int) := by omega
      have tk := takes_f (N := N) h442 hu6
      rw [f25] at tk
      by_cases har : ar' = ar
      · subst har
        have kd : ∀ (D : Option (MS × Int32)) (K : MS → Unit → Option (MS × Int32)), PP Q D (bnd (fb_M_callRun_213 N () (wi w 166 1) (I ((n : Nat) : Int)) (I ((ar' : Nat) : Int)) (I ((ff : Nat) : Int)) (-1)) K) → PP Q D (bnd (fm_M_callRun N w (I ((n : Nat) : Int)) (I 13)) K) := fun D K h => call_13f (P0 := P0) hpp (by omega) h26 r11 pl.2.2.1.2.1 (by omega) hx sx hvx (by omega) u3 (by omega) h48 h
        by_cases hge : F m 1107 ≤ F m 1106
        · have heq : m.1 1106 = m.1 1107 := Int32.toInt_inj.mp (by
            show F m 1106 = F m 1107
            omega)
          have wdc : ∃ wd : Int, (wd = 27 ∨ wd = 28) ∧ A m 23 a = wd := by
            rcases c0 with c0 | c0
            · exact ⟨27, Or.inl rfl, c0⟩
            · exact ⟨28, Or.inr rfl, c0⟩
          obtain ⟨wd, hwd, c00⟩ := wdc
          rw [go_fl r5 r8 (by omega) r2 (by omega) c00 ⟨by omega, by omega⟩]
          exact op_applyS (K1 := fun u => q195 (SAf T Fv P p) N (qgo (SAf T Fv P p) N M1) u p (I ((v : Nat) : Int))) (K2 := fun u => KRs Fv' AN TT CC ND CN UN FN N p mu M2 w u) (P0 := P0) hpp ru hge heq ha2 hwd c1 pl.2.2.1.1 bd2 ⟨bd3, bd4⟩ ht s3 hvt (by omega) u2 tk t1 ht0 t2 kd (st_li ih s)
        · rcases hh with ⟨h30, c00, -⟩ | ⟨h30, c00, cr⟩
          · rw [go_fl r5 r8 (by omega) r2 (by omega) c00 ⟨by omega, by omega⟩]
            exact op_applyTF (K1 := fun u => q195 (SAf T Fv P p) N (qgo (SAf T Fv P p) N M1) u p (I ((v : Nat) : Int))) (K2 := fun u => KRs Fv' AN TT CC ND CN UN FN N p mu M2 w u) hpp pl ru (by omega) (P0 := rb) (by omega) r100 (kT h30) (by omega) (by omega) ha2 bd2 ⟨bd3, bd4⟩ c1 h26 h30 ht hx s3 sx hvt hvx (by omega) (by omega) u2 u3 h442 hu6 q4 f25 f29 h50 hc h48 zr (fun m4 w4 b1 b2 b3 b4 b5 b6 => st_ca ih s b1 b2 (by omega) b3 b4 b5 b6)
          · rw [go_fl r5 r8 (by omega) r2 (by omega) c00 ⟨by omega, by omega⟩]
            have ha3 : a + 3 < 24000 := by
              obtain ⟨f3, c⟩ := cr
              have := CR_b c
              omega
            by_cases hj1 : j + 1 < 60
            · exact op_applyF (K1 := fun u => q195 (SAf T Fv P p) N (qgo (SAf T Fv P p) N M1) u p (I ((v : Nat) : Int))) (K2 := fun u => KRs Fv' AN TT CC ND CN UN FN N p mu M2 w u) hpp pl ru (by omega) (by omega) hj1 (by omega) ha3 bd2 ⟨bd3, bd4⟩ c1 h26 h30 ht hx s3 sx hvt (by omega) hvx (by omega) u2 u3 h442 hu6 q4 f25 f29 h50 hc h48 cr zr (fun m4 w4 b1 b2 b3 b4 b5 b6 => st_ca ih s b1 b2 (by omega) b3 b4 b5 b6)
            · have ej : j = 59 := by omega
              subst ej
              exact op_applyE (K1 := fun u => q195 (SAf T Fv P p) N (qgo (SAf T Fv P p) N M1) u p (I ((v : Nat) : Int))) (K2 := fun u => KRs Fv' AN TT CC ND CN UN FN N p mu M2 w u) hpp hpr pl ru (by omega) ha2 c1 bd2 ⟨bd3, bd4⟩ ht s3 hvt (by omega) u2 tk h30 ⟨h955, hi⟩ (show F w 150 = ((0 : Nat) : Int) ∧ 0 < 4000 from ⟨h150, by decide⟩) (cx.2.2.2.2.2.1 21 (by omega) (by omega)) (pb.1 21 (by omega) (by omega)) kd (fun w3 a1 a2 a3 a4 => (aft_end hN per ba.2.2.2.1.1 ih ba (by omega) GGm.rf a1 a2 a3 ⟨h955, hi⟩ (show F w 150 = ((0 : Nat) : Int) ∧ 0 < 4000 from ⟨h150, by decide⟩) (Or.inl rfl) a4).1)
      · have ra := A_r m 25 ff
        exact e18 (fun D K h => call_13b (P0 := P0) (na := ((ar' : Nat) : Int)) hpp (by omega) h26 r11 pl.2.2.1.2.1 (by omega) hx sx hvx (by omega) u3 (by omega) h48 (by omega) h) (fun z => apl_a (P0 := P0) pl.2.2.1.1 bd2 ⟨bd3, bd4⟩ ht s3 hvt (by omega) u2 tk ⟨by omega, by omega⟩ (by omega))
  · have sx : so x ≠ 3 := by
      rw [RTb_so rt]
      exact s3
    rw [ap_le (D := tld m 1 17 t) r5 r8 (by omega) r2 ha2 c0 c1 (fun z => (apl_e (P0 := P0) pl.2.2.1.1 bd2 ⟨bd3, bd4⟩ ht s3).trans rfl), one_13]
    refine r_bb ?_
    refine call_13x (P0 := P0) hpp (by omega) h26 r11 pl.2.2.1.2.1 (by omega) hx sx ?_
    refine r_bb ?_
    exact st_ef (d := 20) (ar := 17) ih s ⟨by omega, by omega⟩ g g' rt
end
