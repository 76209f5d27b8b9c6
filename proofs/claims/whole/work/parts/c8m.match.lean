/-! a PATTERN is matched -/
set_option maxRecDepth 100000
section
variable {α β : Type} {b : Int → Nat → Nat → Prop} {Fv Fv' : Int64 → Int64 → Prop} {P P' : Int64 → Prop} {ow kd ow' kd' fa' : Nat → Nat} {N p U W Y l j a n na e q : Nat} {m w : MS} {nb : Nat → Nat} {Hs Os : Nat → List Nat} {O2 : List Nat} {v : Int} {Q : MS → α → MS → β → Prop} {K1 : MS → Option (MS × α)} {K2 : MS → Option (MS × β)}
theorem one_16 : fm_M_one N w (I v) (I 16) = bnd (fm_M_goTo N w (I v + 1)) (fun u7 _ => ck (inb (u7.1 133) (ln 94)) (lt (u7.2.2.1 94 (u7.1 133).toNatClampNeg) (fun y13 => ck (inb (I v) (ln 25)) (bnd (fm_M_top N u7 0) (fun u14 r14 => bnd (fm_M_fits N u14 (u7.2.2.1 25 (I v).toNatClampNeg) r14) (fun u15 r15 => br (decide (r15 = 0)) (ck (inb (u15.1 133) (ln 94)) (lt (upA u15 94 (upd (u15.2.2.1 94) (u15.1 133).toNatClampNeg y13)) (fun w16 => bnd (fm_M_top N w16 0) (fun u17 r17 => bnd (fr_M_errorOf N u17 13 r17) (fun u18 _ => some (u18, ())))))) (some (u15, ())))))))) := rfl
/-- MATCH -/
theorem op_match (hpp : p < 24) (pl : PLs b p m w U (nb j + (Hs j ++ Os j).length) (W + 1) Y) (ru : RUs m w p j nb Hs Os none a n) (hW : W + 1 ≤ 46000) (bB : nb j + (Hs j ++ Os j).length ≤ 2440) (hl : F m (pq p 45) = ((l : Nat) : Int)) (hl2 : W + 1 ≤ l ∧ l ≤ 1000000)
    (ft : FTx b Fv P Fv' P' ow kd ow' kd' p j (nb j) U na fa' (Hs j) m (wa w 98 (60 * p + j) ((n + 1 : Nat) : Int))) (pt : PTQ m p U ow kd Fv P (nb j + (Hs j ++ Os j).length) (W + 1) Y) (xc : CX w p (hp w p) U ow' kd' Fv' P' (W + 1) (nb j + (Hs j ++ Os j).length) Y) (h42 : ((nb j + (Hs j ++ Os j).length : Nat) : Int) ≤ F m (pq p 42)) (hN : 200000 ≤ N)
    (h25 : A w 25 n = ((q : Nat) : Int)) (ps : PTs (A m 23) (ROs w) (w.2.2.2 34) (Hs j) 230 (a + 1) q (Os j) e O2) (c8 : A m 23 e = 8) (he : e + 3 < 24000) (cr : ∃ f, CRs (A m 23) (ROs w) (w.2.2.2 34) f none (e + 1) (n + 1) (Hs j) O2)
    (kS : ∀ m3 w3, PLs b p m3 w3 U (nb j + (Hs j ++ O2).length) (W + 1) Y → RUs m3 w3 p j nb Hs (exO Os j O2) none (e + 1) (n + 1) → GGm p m m3 → GGw p w w3 → (SCs p m w → SCs p m3 w3) → PP Q (K1 m3) (K2 w3))
    (kX : ∀ m3 w3, PLs b p m3 w3 U (nb j + (Hs j ++ Os j).length) (W + 1) Y → RUb m3 w3 p j nb Hs Os none → GGm p m m3 → GGw p w w3 → (SCs p m w → SCs p m3 w3) → (w3.2.2.2 88 = w.2.2.2 88 ∧ w3.1 140 = w.1 140) → (∀ K, 102 ≤ K ∧ K ≤ 106 → w3.2.2.1 K = w.2.2.1 K) → m3.1 (pq p 28) = m.1 (pq p 28) → PP Q (K1 (tld m3 1 13 (m3.2.2.2 (pq p 35) W))) (bnd (fr_M_errorOf N w3 13 (w3.2.2.2 91 (46000 * p + W))) (fun u _ => K2 u))) : PP Q (bnd (hm_Ma_flow N m p (I 20)) (fun u _ => K1 u)) (bnd (fm_M_one N w (I ((n : Nat) : Int)) (I 16)) (fun u _ => K2 u)) := by
  obtain ⟨⟨fa, ct⟩, ⟨r2, r3⟩, ⟨f0, cr0⟩, ⟨r5, r6⟩, r7, ⟨r8, r9, r10⟩, r11, r12, r13⟩ := id ru
  have cb := CR_b cr0
  have nd := CR_n cr0
  have hj : j < 60 := fa.1.2.2
  have nr : q < 2147483648 := by
    have := A_r w 25 n
    rw [h25] at this
    omega
  obtain ⟨f9, cr9⟩ := cr
  have cb9 := CR_b cr9
  rw [flo20, one_16, I_F' r2, show I ((a : Nat) : Int) + 1 = I ((a + 1 : Nat) : Int) from addN, Co_e (k := a + 1) rfl (by omega), bnd_so, show I ((n : Nat) : Int) + 1 = I ((n + 1 : Nat) : Int) from addN]
  refine l_bb ?_
  refine rb_bnd (pk_mo (goto_r (N := N) (n := ((n + 1 : Nat) : Int)) hpp r11 fa.1.2.1 hj) (fun w1 _ h => ?_))
  subst h
  generalize hw1 : wa w 98 (60 * p + j) ((n + 1 : Nat) : Int) = w1 at *
  have w1R : ∀ K, K ≠ 98 → w1.2.2.1 K = w.2.2.1 K := fun K h => by rw [← hw1]; exact wa_21 h
  have w1A : ∀ K i, K ≠ 98 → A w1 K i = A w K i := fun K i h => by show (w1.2.2.1 K i).toInt = _; rw [w1R K h]; rfl
  have w1i : w1.1 = w.1 := by rw [← hw1]; rfl
  have w1J : w1.2.2.2 = w.2.2.2 := by rw [← hw1]; rfl
  have g1 : FGw p j w w1 := by rw [← hw1]; exact FGw.goto
  have x33 : F w1 133 = ((p : Nat) : Int) := by show (w1.1 133).toInt = _; rw [w1i]; exact r11
  have pl1 : PLs b p m w1 U (nb j + (Hs j ++ Os j).length) (W + 1) Y := by rw [← hw1]; exact PLs_98 pl
  have xc1 : CX w1 p (hp w1 p) U ow' kd' Fv' P' (W + 1) (nb j + (Hs j ++ Os j).length) Y := by rw [← hw1]; exact CX_98 xc
  have pr1 : ∀ K, PRr K → w1.2.2.1 K = w.2.2.1 K := fun K h => w1R K (by unfold PRr at h; omega)
  have ru1 : RUb m w1 p j nb Hs Os none := RUb_fg (RUs_b ru) FGm.rf g1
  have e94 : A w1 94 p = ((nb j + (Hs j ++ Os j).length : Nat) : Int) := pl1.2.1.2.1
  have e25 : A w1 25 n = ((q : Nat) : Int) := (w1A 25 n (by omega)).trans h25
  refine rb_ck (fun _ => ?_)
  rw [lt_e]
  refine rb_ck (fun _ => ?_)
  rw [I_F' x33, tnI (n := p) rfl (by omega), I_A' e94, tnI (n := n) rfl (by omega), I_A' e25, show (0 : Int32) = I ((0 : Nat) : Int) from rfl]
  refine rb_bnd (pk_mo (top_r (N := N) (k := 0) hpp x33 pl1.2.2.1.2.1 hW (by omega)) (fun w2 r h => ?_))
  obtain ⟨rfl, rfl⟩ := h
  rw [show W + 1 - 1 - 0 = W by omega]
  unfold hm_Ma_match hb_Ma_match_0 hb_Ma_match_73
  have be : ∀ u : MS, F u (pq p 26) = ((W + 1 : Nat) : Int) → F u (pq p 45) = ((l : Nat) : Int) → hm_Fr_below N u p 0 = some (u, u.2.2.2 (pq p 35) W) := fun u h1 h2 => by
    have := below_e (N := N) (x := 0) (k := 0) (W := W + 1) (l := l) h1 h2 hl2.1 hl2.2 rfl (by omega)
    rw [show W + 1 - 1 - 0 = W by omega] at this
    exact this
  rw [show (I ((0 : Nat) : Int)) = (0 : Int32) from rfl, be m pl.2.2.1.1 hl, bnd_so, show inb (0 : Int32) 2048 = true from rfl, ck_t, show (0 : Int32).toNatClampNeg = 0 from rfl, wj_e, lt_e]
  have fJ : FR [] [] [] [44] m (wj m 44 0 (m.2.2.2 (pq p 35) W)) := FR.wj FR.rf (by simp)
  have e5 : F (wj m 44 0 (m.2.2.2 (pq p 35) W)) 1105 = ((a : Nat) : Int) := r2
  have nms : NMs m p (nb j) (Hs j ++ Os j) := (fa.2.1 j (Nat.le_refl _)).2.2.2.2.2
  obtain ⟨⟨l3, cl1, cl2, cl3⟩, -⟩ := pt.2.2.2.2
  have fs0 : FSt b P P' ow kd ow' kd' p (nb j + (Hs j ++ Os j).length) (nb j) U (W + 1) Y (Hs j) (Os j) m w2 m w2 := ⟨⟨FIx.rf, ⟨_, Nat.le_refl _, pl1.2.1.1, by rw [cl1]; omega, h42⟩, fun _ _ => ⟨rfl, rfl⟩⟩, ⟨FR.rf, fun _ _ => rfl, fun _ _ => rfl⟩, pl1, nms, ⟨Nat.le_refl _, nd.1⟩, fun k hk => ⟨pl1.2.1.2.2 k hk, pt.2.1.2 k hk, xc1.2.2.2.2.2.2.2.2.1 k hk⟩⟩
  have tp : TPb b U ow kd P U ow' kd' P' (m.2.2.2 (pq p 35) W) (w2.2.2.2 91 (46000 * p + W)) := ⟨pl1.2.2.1.2.2 W (by omega), pt.2.2.1.2 W (by omega), xc1.2.2.2.2.2.2.2.1 W (by omega)⟩
  rw [I_F' e5, show I ((a : Nat) : Int) + 1 = I ((a + 1 : Nat) : Int) from addN, show (1 : Int32) = I ((0 + 1 : Nat) : Int) from rfl]
  have ps1 : PTs (A m 23) (ROs w2) (w2.2.2.2 34) (Hs j) 230 (a + 1) q (Os j) e O2 := by rw [ROs_eq pr1, w1J]; exact ps
  have hlen : nb j + (Hs j ++ O2).length ≤ 2500 := by
    rw [List.length_append] at bB ⊢
    omega
  refine l_bb (r_bb ?_)
  refine pp_lk (fit_1p (Q := fun m3 r3 w3 r4 => PP Q (bnd (br (decide (r3 = (-1))) (lt (upI m3 (pq p 24) (m.1 (pq p 24))) (fun w17 => bnd (hm_Fr_below N w17 p 0) (fun u19 r19 => bnd (hm_Ma_tell N u19 p 1 13 r19) (fun u21 r21 => some (u21, ()))))) (lt (upI m3 1105 r3) (fun w14 => some (w14, ())))) (fun u r => bnd (some (u, r)) (fun u _ => K1 u))) (bnd (br (decide (r4 = 0)) (ck (inb (w3.1 133) (ln 94)) (lt (upA w3 94 (upd (w3.2.2.1 94) (w3.1 133).toNatClampNeg (I ((nb j + (Hs j ++ Os j).length : Nat) : Int)))) (fun w16 => bnd (fm_M_top N w16 0) (fun u17 r17 => bnd (fr_M_errorOf N u17 13 r17) (fun u18 _ => some (u18, ())))))) (some (w3, ()))) (fun u _ => K2 u))) (K := fun u r => some (u, r)) (t := m.2.2.2 (pq p 35) W) ft ps1 c8 (FSt_m fs0 (FR.mo fJ (by simp) (by simp) (by simp) (by simp))) (by rw [wj_row, if_pos rfl]) tp nr he (Nat.le_refl _) hlen hN (fun m3 w3 nf fw => pp_end ?_) (fun m3 w3 fs => pp_end ?_))
  · -- it does not fit
    rw [show decide ((-1 : Int32) = -1) = true from rfl, br_t, show decide ((0 : Int32) = 0) = true from rfl, br_t, I_F' pl.2.1.1, wi_e, lt_e]
    generalize hm4 : wi m3 (pq p 24) ((nb j + (Hs j ++ Os j).length : Nat) : Int) = m4
    have nf4 : NFx p (nb j + (Hs j ++ Os j).length) m m4 := by rw [← hm4]; exact NFx_24 nf (by omega)
    have f26 : F m4 (pq p 26) = ((W + 1 : Nat) : Int) := (congrArg Int32.toInt (NF_q nf4 (by omega) (by omega) (by omega) (by omega))).trans pl.2.2.1.1
    have f45 : F m4 (pq p 45) = ((l : Nat) : Int) := (congrArg Int32.toInt (NF_q nf4 (by omega) (by omega) (by omega) (by omega))).trans hl
    rw [be m4 f26 f45, bnd_so, show (1 : Int32) = I 1 from rfl, show (13 : Int32) = I 13 from rfl, tell_e, bnd_so, bnd_so, bnd_so]
    have y33 : F w3 133 = ((p : Nat) : Int) := by rw [FR.F fw.1 (by simp)]; exact x33
    refine rb_ck (fun _ => ?_)
    rw [I_F' y33, tnI (n := p) rfl (by omega), wa_e, lt_e]
    generalize hw5 : wa w3 94 p ((nb j + (Hs j ++ Os j).length : Nat) : Int) = w5
    have pl5 : PLs b p m4 w5 U (nb j + (Hs j ++ Os j).length) (W + 1) Y := by rw [← hm4, ← hw5]; exact PLs_fail pl1 nf fw (by omega)
    have y335 : F w5 133 = ((p : Nat) : Int) := by rw [← hw5]; exact y33
    have nms4 : NMs m4 p (nb j) (Hs j ++ Os j) := fun i x hx => by
      have il : i < (Hs j ++ Os j).length := (List.getElem?_eq_some_iff.mp hx).1
      show (m4.2.2.1 (pq p 32) (nb j + i)).toInt = _
      rw [(nf4.2.2 (nb j + i) (by omega)).1]
      exact nms i x hx
    have ru4 : RUb m4 w3 p j nb Hs Os none := by
      have := RUb_nf ru1 (O2 := Os j) ⟨[], by simp⟩ nf4 fw nms4 (by rw [← hm4, wi_sm (by omega) (by omega)]) rfl
      rw [exO_id] at this
      exact this
    have ru5 : RUb m4 w5 p j nb Hs Os none := by rw [← hw5]; exact RUb_94 ru4
    rw [show (0 : Int32) = I ((0 : Nat) : Int) from rfl]
    refine rb_bnd (pk_mo (top_r (N := N) (k := 0) hpp y335 pl5.2.2.1.2.1 hW (by omega)) (fun w6 r h => ?_))
    obtain ⟨rfl, rfl⟩ := h
    rw [show W + 1 - 1 - 0 = W by omega]
    refine r_bb ?_
    refine kX m4 w6 pl5 ru5 (GGm_nf nf4) ?_ (fun s => ?_) ⟨?_, ?_⟩ (fun K hK => ?_) (NF_q nf4 (by omega) (by omega) (by omega) (by omega))
    · rw [← hw5]
      exact GGw.tr (GGw_fg g1 hj) (GGw.tr (GGw_fw fw) GGw_94)
    · rw [← hw5]
      exact SC_94 (SC_ow (SC_fg s FGm.rf g1) (fun d hd => NF_q nf4 (by omega) (by omega) (by omega) (by omega)) (nf4.1.2.2.2.2.2.2.1 p 14 (by omega) (fun _ => by simp)) (fun K h1 h2 => fw.1.2.2.1 K (by simp; omega)))
    · rw [← hw5]
      exact (fw.1.2.2.2 88 (by simp)).trans (by rw [w1J])
    · rw [← hw5]
      exact (fw.1.1 140 (by simp)).trans (by rw [w1i])
    · rw [← hw5, wa_21 (by omega)]
      exact (fw.1.2.2.1 K (by simp; omega)).trans (w1R K (by omega))
  · -- it fits
    obtain ⟨nf, fw, pl3, nms3, ⟨hle, nd3⟩, -⟩ := fs
    rw [m1I, decE (by omega) (by omega) (by omega) (by omega), decide_eq_false (by omega), br_f, show decide ((1 : Int32) = 0) = false from rfl, br_f, wi_e, lt_e, bnd_so, bnd_so, bnd_so]
    have hX := PTs_pre ps
    have ru3 : RUb (wi m3 1105 ((e + 1 : Nat) : Int)) w3 p j nb Hs (exO Os j O2) none := RUb_pm (RUb_nf ru1 hX nf fw nms3 pl3.2.1.1 rfl)
    have pr3 : ∀ K, PRr K → w3.2.2.1 K = w2.2.2.1 K := fun K h => fw.1.2.2.1 K (by unfold PRr at h; simp; omega)
    obtain ⟨t1, t2, t3, t4, t5, t6⟩ := ru3
    refine kS _ w3 (PLs_pc pl3) ⟨t1, ⟨wi_sm (by omega) (by omega), ?_⟩, ⟨f9, ?_⟩, t2, t3, t4, t5, t6⟩ (GGm.tr (GGm_nf nf) (GGm_reg (by omega))) (GGw.tr (GGw_fg g1 hj) (GGw_fw fw)) (fun s => SC_ow (SC_fg s FGm.rf g1) (fun d hd => ?_) ?_ (fun K h1 h2 => fw.1.2.2.1 K (by simp; omega)))
    · rw [FR.A fw.1 (by simp), ← hw1, wa_sm (by omega) (by omega)]
    · rw [show A (wi m3 1105 ((e + 1 : Nat) : Int)) 23 = A m3 23 from rfl, nf.c, ROs_eq pr3, ROs_eq pr1, fw.1.2.2.2 34 (by simp), w1J, exO_j]
      exact cr9
    · rw [wi_1 (fun c => pq_n (by omega) c.symm)]
      exact NF_q nf (by omega) (by omega) (by omega) (by omega)
    · exact nf.1.2.2.2.2.2.2.1 p 14 (by omega) (fun _ => by simp)
end
