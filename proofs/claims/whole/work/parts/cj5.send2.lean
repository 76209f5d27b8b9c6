/-! send, both sides -/
set_option maxRecDepth 100000
/-- the pair's cells are written, there -/
def prT (N : Nat) (u5 : MS) (q : Nat) (v3 : Int32) : Option (MS × Unit) := bnd (hm_Te_make N u5 8 2) (fun u11 r11 => ck (inb (u5.1 (pq q 4)) 512) (lt (upJ u11 (pq q 2) (vp_updL (u11.2.2.2 (pq q 2)) (u5.1 (pq q 4)).toNatClampNeg r11)) (fun w13 => bnd (hm_Te_make N w13 0 v3) (fun u16 r16 => ck (inb ((u5.1 (pq q 4)) + 1) 512) (lt (upJ u16 (pq q 2) (vp_updL (u16.2.2.2 (pq q 2)) ((u5.1 (pq q 4)) + 1).toNatClampNeg r16)) (fun w18 => bnd (hm_Te_make N w18 4 (Int32.ofNat q)) (fun u23 r23 => ck (inb ((u5.1 (pq q 4)) + 2) 512) (lt (upJ u23 (pq q 2) (vp_updL (u23.2.2.2 (pq q 2)) ((u5.1 (pq q 4)) + 2).toNatClampNeg r23)) (fun w25 => lt (upI w25 (pq q 4) ((w25.1 (pq q 4)) + 3)) (fun w28 => bnd (hm_Te_make N w28 5 (u5.1 (pq q 4))) (fun u29 r29 => bnd (hm_Pr_comes N u29 q r29) (fun u30 r30 => some (u30, ())))))))))))))
section
variable {T : TYc} {Fv Fv' : Int64 → Int64 → Prop} {P : Int64 → Prop} {AN : Nat} {TT : TY} {CC : CY} {pM pE : Nat → Nat} {ND CN PN SN UN FN N PR q U Y : Nat} {m w m1 m2 w1 : MS} {x : Int}
/-- the pair's cells are written, there -/
theorem pr_m {z : Unit} (h4 : F m1 (pq q 4) = ((U : Nat) : Int)) (hU : U + 3 ≤ 500) (h7 : F m1 (pq q 7) = ((Y : Nat) : Int)) (hY : Y < 30) (hq : q < 24) (e : prT N m1 q (I x) = some (m2, z)) : m2 = coS (prM m1 q U x) q Y (mk 5 ((U : Nat) : Int)) := by
  have e4 : m1.1 (pq q 4) = I ((U : Nat) : Int) := I_F' h4
  unfold prT at e
  rw [e4, show hm_Te_make N m1 8 2 = some (m1, mk 8 2) from rfl, bnd_so] at e
  replace e := ck_i e
  rw [lt_e, tnI (n := U) rfl (by omega), wj_e, show ∀ u : MS, hm_Te_make N u 0 (I x) = some (u, mk 0 x) from fun _ => rfl, bnd_so] at e
  replace e := ck_i e
  rw [lt_e, show I ((U : Nat) : Int) + 1 = I ((U + 1 : Nat) : Int) from addN, tnI (n := U + 1) rfl (by omega), wj_e, show ∀ u : MS, hm_Te_make N u 4 (Int32.ofNat q) = some (u, mk 4 ((q : Nat) : Int)) from fun _ => rfl, bnd_so] at e
  replace e := ck_i e
  rw [lt_e, show I ((U : Nat) : Int) + 2 = I ((U + 2 : Nat) : Int) from addN, tnI (n := U + 2) rfl (by omega), wj_e, lt_e] at e
  have e5 : (wj (wj (wj m1 (pq q 2) U (mk 8 2)) (pq q 2) (U + 1) (mk 0 x)) (pq q 2) (U + 2) (mk 4 ((q : Nat) : Int))).1 (pq q 4) = I ((U : Nat) : Int) := e4
  rw [e5, show I ((U : Nat) : Int) + 3 = I ((U + 3 : Nat) : Int) from addN, wi_e, show ∀ u : MS, hm_Te_make N u 5 (I ((U : Nat) : Int)) = some (u, mk 5 ((U : Nat) : Int)) from fun _ => rfl, bnd_so] at e
  have e7 : F (prM m1 q U x) (pq q 7) = ((Y : Nat) : Int) := by
    unfold prM
    rw [wi_ne (pq_inj (by omega))]
    exact h7
  have ec := comes_e (N := N) (t := mk 5 ((U : Nat) : Int)) e7 hY
  have e9 : bnd (hm_Pr_comes N (prM m1 q U x) q (mk 5 ((U : Nat) : Int))) (fun u30 _ => some (u30, ())) = some (m2, z) := e
  rw [ec, bnd_so] at e9
  injection e9 with e9
  injection e9 with e9 _
  exact e9.symm
/-- a pair is told -/
theorem sd_pair (hN : 11000000 ≤ N) (hpr : q < PR) (rest : REST Fv' AN TT ND UN FN PR w) (per : PER Fv' AN TT CC pM pE ND CN PN SN UN FN w) (fq : FQs WTr PR Fv P Fv' (PWs AN) m w) (tb : TBz m w) (hx : -2147483648 ≤ x ∧ x < 2147483648) (ok : PK (fun u _ => WQ Fv P PR m u) (hm_Wl_postPair N m q (I x))) {m0 w0 : MS} : PP (RHs Fv P Fv' AN PR m0 w0) (bnd (hm_Wl_postPair N m q (I x)) (fun u9 _ => hb_H_send_112 N () u9)) (sdT N (wi w 3 0) (I ((q : Nat) : Int)) (I x)) := by
  obtain ⟨i, W, ⟨h956, h955⟩, ⟨h149, h150⟩, cn, wt⟩ := fq
  have p24 : PR ≤ 24 := rest.1.1.2
  have g : FR [3] [] [] [] w (wi w 3 0) := FR.wi FR.rf (by simp)
  have W3 : WLs WTr PR Fv P Fv' (PWs AN) none i 0 m (wi w 3 0) := WL_w3 W
  have per3 : PER Fv' AN TT CC pM pE ND CN PN SN UN FN (wi w 3 0) := PER_fr per g (by decide) (by decide)
  have dw3 : DW Fv' (PQ AN PR) PR (wi w 3 0) := DW_fr rest.1 g (by simp) (by simp) (by simp) (by simp) (by simp) (by simp) (by simp) (by simp) (by simp) (by simp) (by simp) (by simp) (by simp) (by simp) (by simp) (by simp) (by simp)
  have lk3 : LK (wi w 3 0) PR := LK_fr rest.2.1.1 g (by simp) (by simp)
  have wq3 : WTQ (wi w 3 0) PR := WTQ_fr rest.2.1.2.1 g (by simp) (by simp) (by simp)
  have tb3 : TBz m (wi w 3 0) := by
    obtain ⟨t1, t2, ⟨t3, t4, t5⟩, fa, na, t7⟩ := tb
    exact ⟨TB_tab t1 ⟨rfl, rfl⟩ (fun _ _ => rfl) (fun _ _ => rfl) rfl, PN_st t2 rfl (fun _ _ => rfl) (g.1 128 (by simp)) (fun _ _ => rfl), ⟨CLk_st t3 rfl (g.1 120 (by simp)), by rw [g.1 121 (by simp)]; exact t4, by rw [g.1 119 (by simp)]; exact t5⟩, fa, na, ATf_k t7 rfl rfl rfl (g.1 14 (by simp)) rfl rfl⟩
  have cn3 : CNq P (PWs AN) m (wi w 3 0) := CN_pg cn (PG0_fr (m := m) (m2 := m) (is := []) (ls := []) (as := []) (js := []) FR.rf g (by simp) (by simp) (by simp) (by simp) (by simp)) per3.2.2.1
  have wt3 : WTs PR m (wi w 3 0) := WTs_st wt rfl (fun _ _ => rfl) (g.1 125 (by simp)) (fun _ _ => rfl)
  have e149 : F (wi w 3 0) 149 = 0 := by rw [FR.F g (by simp)]; exact h149
  have e3 : F (wi w 3 0) 3 = 0 := wi_sm (by omega) (by omega)
  clear rest per tb cn wt W h149 h150 g
  generalize wi w 3 0 = w3 at *
  have krf : ∀ u : MS, Kwac u u := fun u => ⟨fun _ _ => rfl, fun _ _ => rfl⟩
  have stay : PP (RHs Fv P Fv' AN PR m0 w0) (hb_H_send_112 N () m) (fb_M_send_238 N () w3) := sd_fin hN W3 h956 e149 cn3 wt3 tb3 (krf m) ⟨fun _ _ => rfl, fun _ _ => rfl⟩ rfl e3 ⟨dw3, lk3, wq3⟩ per3
  refine l_bnd (fun m2 z e => ?_)
  have wq := ok m2 z e
  have ka : Kwac m m2 := ywa_hm_Wl_postPair (krf m) m2 z e
  have in9 : inb (I ((q : Nat) : Int)) (ln 109) = true := inb_at (k := 109) (n := 24) rfl (by omega) (by omega) (by decide)
  have in8 : inb (I ((q : Nat) : Int)) (ln 108) = true := inb_at (k := 108) (n := 24) rfl (by omega) (by omega) (by decide)
  have tnq : (I ((q : Nat) : Int)).toNatClampNeg = q := tnI (n := q) rfl (by omega)
  have r9 := A_r w3 109 q
  have f9 := F_r m (pq q 9)
  unfold hm_Wl_postPair hb_Wl_postPair_0 hb_Wl_postPair_17 at e
  unfold sdT
  have r7 := F_r m (pq q 7)
  have r8 := A_r w3 108 q
  have d9w : decide (w3.2.2.1 109 q = 3) = decide (A w3 109 q = 3) := by
    rw [I_A (w := w3) (k := 109), show (3 : Int32) = I 3 from rfl, decE r9.1 r9.2 (by omega) (by omega)]
  have d9m : decide (m.1 (pq q 9) = 3) = decide (F m (pq q 9) = 3) := by
    rw [I_F (w := m) (k := pq q 9), show (3 : Int32) = I 3 from rfl, decE f9.1 f9.2 (by omega) (by omega)]
  have d7m : decide (m.1 (pq q 7) < 30) = decide (F m (pq q 7) < 30) := by
    rw [I_F (w := m) (k := pq q 7), show (30 : Int32) = I 30 from rfl, decL r7.1 r7.2 (by omega) (by omega)]
  have d8w : decide ((30 : Int32) ≤ w3.2.2.1 108 q) = decide (30 ≤ A w3 108 q) := by
    rw [I_A (w := w3) (k := 108), show (30 : Int32) = I 30 from rfl, decI (by omega) (by omega) r8.1 r8.2]
  rw [in9, ck_t, in8, ck_t, tnq, d9w]
  rw [d9m] at e
  rcases W3.2.2.1 q hpr with ⟨hal, h9, b, U, B, Wt, Y, pl, rs⟩ | ⟨hd, hd', -⟩
  rotate_left
  · rw [decide_eq_true hd, br_t] at e
    cases e
    rw [decide_eq_true hd', br_t]
    exact stay
  rw [decide_eq_false hal, br_f] at e
  rw [decide_eq_false h9, br_f]
  have h7 : F m (pq q 7) = ((Y : Nat) : Int) := pl.2.2.2.1
  have h108 : A w3 108 q = ((Y : Nat) : Int) := pl.2.2.2.2.1
  obtain ⟨⟨ow, kd, pt⟩, ⟨ow', kd', cw⟩, ⟨bW, bB, bY⟩, -⟩ := SF_al W3.1 hpr hal pl
  rw [d7m] at e
  rw [d8w]
  by_cases cY : Y < 30
  rotate_left
  · rw [decide_eq_false (show ¬ F m (pq q 7) < 30 by omega), br_f] at e
    cases e
    rw [decide_eq_true (show 30 ≤ A w3 108 q by omega), br_t]
    exact stay
  rw [decide_eq_true (show F m (pq q 7) < 30 by omega), br_t] at e
  rw [decide_eq_false (show ¬ 30 ≤ A w3 108 q by omega), br_f]
  obtain ⟨⟨ee, he⟩, ee', he'⟩ := SF_e W3.1 hpr hal
  have cx := W3.1.1.2
  have pb := PQ_b per3.2.2.2.2.1 p24
  -- the world behind it
  have fin : ∀ w4, MPs q B Wt Y ee ee' m w3 m2 w4 → DW Fv' (PQ AN PR) PR w4 → FR [136, 138, 140, 150] [139] [89, 90, 108, 109, 135, 142, 145, 146, 147] [88, 91, 93, 107, 134, 137, 141, 148] w3 w4 → PP (RHs Fv P Fv' AN PR m0 w0) (hb_H_send_112 N () m2) (fb_M_send_238 N () w4) := fun w4 mp d4 f4 => by
    have lk4 : LK w4 PR := LK_fr lk3 f4 (by simp) (by simp)
    have wq4 : WTQ w4 PR := WTQ_fr wq3 f4 (by simp) (by simp) (by simp)
    have per4 : PER Fv' AN TT CC pM pE ND CN PN SN UN FN w4 := PER_fr per3 f4 (by decide) (by decide)
    have sf4 : SFs Fv P Fv' (PWs AN) PR m2 w4 := ⟨⟨wq.1, CTX_fr cx (wq.2.1.2.1 22 (by omega) (by simp)) (wq.2.1.2.2.2.1 3 (by omega) (by simp))⟩, ⟨DW_mo PW_q d4, lk4, wq4⟩, PB_mo PW_q pb⟩
    obtain ⟨W4, mv⟩ := wl_mps W3 hpr hal h9 (fun c => by cases c) pl rs he he' mp sf4
    exact sd_fin hN W4 (by rw [← h956]; exact congrArg Int32.toInt mv.2.2.2.1.2.2) (by rw [← e149]; exact congrArg Int32.toInt mv.2.2.2.2.2.2) (CN_pg cn3 mv.1.1 per4.2.2.1) (WTs_st wt3 mv.2.2.2.1.2.1 mv.2.2.2.1.1 mv.2.2.2.2.2.1 mv.2.2.2.2.1) tb3 ka ⟨fun k h => f4.1 k (by simp; omega), fun K h => f4.2.2.1 K (by simp; omega)⟩ mv.1.1.2.2.1 (by rw [FR.F f4 (by simp)]; exact e3) ⟨d4, lk4, wq4⟩ per4
  -- room
  obtain ⟨n0, ow0, kd0, opM, bnM, bxM, hn0, cx0⟩ : PRC Fv' (PQ AN PR) w3 q := dw3.2.1 q hpr
  have wo := pk_ok (wants_ok (N := N) cx0 hn0 (k := 3) (by omega) (by omega))
  have ebx : bxM = Y := by
    have := cx0.2.2.2.2.2.2.1.1
    omega
  cases hW : hm_Pr_want N m q 3 with
  | none =>
    rw [hW] at e
    cases e
  | some y =>
  obtain ⟨m1, r1⟩ := y
  rw [hW, bnd_so] at e
  refine r_bnd (fun w1 r2 hR => ?_)
  obtain ⟨b2, U2, pl2, hr, xr, xr', -, -, -, -⟩ := want_pl (N := N) (k := 3) pt cx cw pl (PLs_z pl (by rw [dw3.2.2.2.1]; omega)) (by omega) (by omega) m1 r1 w1 r2 (show hm_Pr_want N m q (I ((3 : Nat) : Int)) = some (m1, r1) from hW) (show fm_M_wants N w3 (I ((q : Nat) : Int)) (I ((3 : Nat) : Int)) = some (w1, r2) from hR)
  obtain ⟨n2, ow2, kd2, fd, R, h1, h2⟩ := wo w1 r2 (show fm_M_wants N w3 (I ((q : Nat) : Int)) (I ((3 : Nat) : Int)) = some (w1, r2) from hR)
  have mq := MQ_wnt dw3 cx0 h1
  rw [ebx] at mq
  have en : n2 = U2 := by
    have k1 := mq.1
    have k2 := pl2.1.1.2.1
    omega
  rcases hr with ⟨rfl, rfl⟩ | ⟨rfl, rfl, hU⟩
  · -- no room
    rw [show decide ((0 : Int32) = 0) = true from rfl, br_t] at e ⊢
    have q9 : F m1 (pq q 9) ≠ 3 := by
      rw [show F m1 (pq q 9) = F m (pq q 9) from congrArg Int32.toInt (XRm_F xr (by omega) (by omega))]
      exact hal
    have q55 : F m1 955 = ((ee : Nat) : Int) := (congrArg Int32.toInt (XRm_G xr (by omega))).trans he.1
    have a9 : A w1 109 q ≠ 3 := by
      rw [FR.A xr'.1 (by simp)]
      exact h9
    have a150 : F w1 150 = ((ee' : Nat) : Int) := (FR.F xr'.1 (by simp)).trans he'.1
    rw [show (20 : Int32) = I 20 from rfl, endsBy_e q9 ⟨q55, he.2⟩, bnd_so] at e
    injection e with e
    injection e with e _
    have dw1 := MQ_dw mq dw3 hpr h9
    rw [show (1 : Int32) = I 1 from rfl, show (20 : Int32) = I 20 from rfl, term_e, bnd_so]
    have ew := willE_e (N := N) (w := w1) (q := q) (wr := 0) (o := ((q : Nat) : Int)) (t := mk 1 20) (by omega) a9 a150 he'.2 (by omega)
    have we := pk_ok (willEnd_ev (N := N) (wr := 0) (o := q) (t := mk 1 20) dw1 hpr (by omega) (by omega) (Or.inl ⟨nh_mk (by omega), pb.1 20 (by omega) (by omega)⟩)) _ _ ew
    rw [show (0 : Int32) = I 0 from rfl, ew, bnd_so]
    refine fin _ (Or.inr (Or.inl ⟨m1, w1, XMm.want xr, XMr.want xr', pl2.1.2.2, e.symm, rfl⟩)) we.1 (FR.tr (FR.mo xr'.1 (by simp) (by simp) (by simp) (by simp)) we.2.1.1)
  · -- it comes
    rw [show decide ((1 : Int32) = 0) = false from rfl, br_f] at e ⊢
    subst en
    have q7 : F m1 (pq q 7) = ((Y : Nat) : Int) := pl2.2.2.2.1
    have em := pr_m (x := x) pl2.1.1.1 hU q7 cY (by omega) e
    have a89 : A w1 89 q = ((n2 : Nat) : Int) := pl2.1.1.2.1
    have a108 : A w1 108 q = ((Y : Nat) : Int) := pl2.2.2.2.2.1
    have dwX := pr_dw (x := x) dw3 pb hpr h9 cY hx mq hU
    refine r_ck (fun _ => r_ck (fun _ => r_ck (fun _ => r_lt (r_ck (fun _ => r_lt ?_)))))
    rw [I_A' a89, show (3 : Int32) = I 3 from rfl, I_add, wa_e, show (500 : Int32) = I 500 from rfl, I_mul, I_add, tnI (n := 500 * q + n2) (by omega) (by omega), wj_e, show ∀ u : MS, fm_M_term N u 0 (I x) = some (u, mk 0 x) from fun _ => rfl, bnd_so]
    refine r_ck (fun _ => r_lt ?_)
    rw [show (1 : Int32) = I 1 from rfl, I_add, tnI (n := 500 * q + (n2 + 1)) (by omega) (by omega), wj_e, show ∀ u : MS, fm_M_term N u 4 (I ((q : Nat) : Int)) = some (u, mk 4 ((q : Nat) : Int)) from fun _ => rfl, bnd_so]
    refine r_ck (fun _ => r_lt ?_)
    rw [show (2 : Int32) = I 2 from rfl, I_add, tnI (n := 500 * q + (n2 + 2)) (by omega) (by omega), wj_e]
    have b108 : (prW w1 q n2 x).2.2.1 108 q = I ((Y : Nat) : Int) := by
      show (wa w1 89 q ((n2 : Int) + 3)).2.2.1 108 q = _
      rw [wa_21 (by omega)]
      exact I_A' a108
    rw [show wj (wj (wj (wa w1 89 q (((n2 : Nat) : Int) + 3)) 88 (500 * q + n2) 2) 88 (500 * q + (n2 + 1)) (mk 0 x)) 88 (500 * q + (n2 + 2)) (mk 4 ((q : Nat) : Int)) = prW w1 q n2 x from rfl]
    refine r_ck (fun _ => ?_)
    rw [show ∀ u : MS, fm_M_term N u 5 (I ((n2 : Nat) : Int)) = some (u, mk 5 ((n2 : Nat) : Int)) from fun _ => rfl, bnd_so]
    refine r_ck (fun _ => r_lt (r_ck (fun _ => r_ck (fun _ => r_lt ?_))))
    rw [b108, show (30 : Int32) = I 30 from rfl, I_mul, I_add, tnI (n := 30 * q + Y) (by omega) (by omega), wj_e, show (wj (prW w1 q n2 x) 107 (30 * q + Y) (mk 5 ((n2 : Nat) : Int))).2.2.1 108 q = I ((Y : Nat) : Int) from b108, I_add, wa_e, show wa (wj (prW w1 q n2 x) 107 (30 * q + Y) (mk 5 ((n2 : Nat) : Int))) 108 q (((Y : Nat) : Int) + 1) = coR (prW w1 q n2 x) q Y (mk 5 ((n2 : Nat) : Int)) from rfl]
    have xm : XMm q m1 m2 := by
      rw [em]
      unfold coS prM
      exact FR.wi (FR.wj (FR.wi (FR.wj (FR.wj (FR.wj FR.rf (by simp)) (by simp)) (by simp)) (by simp)) (by simp)) (by simp)
    have x2 : XMr q w1 (prW w1 q n2 x) := by
      unfold prW
      refine XMr_two (FR.wj (FR.wj (FR.wj (FR.wa FR.rf (by simp)) (by simp)) (by simp)) (by simp)) (fun r hr => ?_) (fun k hk => ?_)
      · show A (wa w1 89 q ((n2 : Int) + 3)) 89 r = _
        rw [wa_ro (by omega) (by omega), if_neg hr]
      · rw [wj_row, if_neg (by omega), wj_row, if_neg (by omega), wj_row, if_neg (by omega)]
        rfl
    have xw : XMr q w3 (coR (prW w1 q n2 x) q Y (mk 5 ((n2 : Nat) : Int))) := XMr.tr (XMr.want xr') (XMr.tr x2 (XMr_co cY))
    refine fin _ (Or.inr (Or.inr ⟨cY, n2 + 3, ?_, XMm.tr (XMm.want xr) xm, xw⟩)) dwX (FR.mo xw.1 (by simp) (by simp) (by simp) (by simp))
    rw [em]
    exact pr_pl (by omega) pl2 hU cY hx
end
