/-! a FUN of a FUNCTION is made, both sides -/
set_option maxRecDepth 100000
theorem va_1m {f : Nat} (h : f < 100000) : va (mk 8 ((1000000 + f : Nat) : Int)) = ((1000000 + f : Nat) : Int) := va_mk (by omega) (by omega)
section
variable {α β : Type} {b : Int → Nat → Nat → Prop} {Fv Fv' : Int64 → Int64 → Prop} {P P' : Int64 → Prop} {ow kd ow' kd' : Nat → Nat} {N p U B W Y l j a n uu bb ff ee ee' : Nat} {m w : MS} {nb : Nat → Nat} {Hs Os : Nat → List Nat} {y : Option (Nat × Nat × Nat)} {v : Int} {Q : MS → α → MS → β → Prop} {K1 : MS → Option (MS × α)} {K2 : MS → Option (MS × β)}
/-- a FUN of a FUNCTION is made -/
theorem op_funOf (hpp : p < 24) (pl : PLs b p m w U B W Y) (ru : RUs m w p j nb Hs Os y a n) (hW : W < 46000) (pt : PTQ m p U ow kd Fv P B W Y) (cx : CTX Fv P m) (xc : CX w p (hp w p) U ow' kd' Fv' P' W B Y) (h140 : F w 140 = -1) (h27 : A w 27 n = ((ff : Nat) : Int)) (hff : ff < 100000) (c1 : A m 23 (a + 1) = ((ff : Nat) : Int)) (hee : F m 955 = ((ee : Nat) : Int) ∧ ee < 24) (hee' : F w 150 = ((ee' : Nat) : Int) ∧ ee' < 4000) (hN : 2200000 ≤ N) (cr : ∃ f, CRs (A m 23) (ROs w) (w.2.2.2 34) f y (a + 2) (n + 1) (Hs j) (Os j))
    (kS : ∀ b3 U3 m3 w3, PLs b3 p m3 w3 U3 B (W + 1) Y → RUs m3 w3 p j nb Hs Os y (a + 2) (n + 1) → FGm p m m3 → FGw p j w w3 → PP Q (K1 m3) (K2 w3))
    (kE : ∀ m3 w3, FGm p m m3 → FGw p j w w3 → m3.1 (pq p 5) = w3.2.2.1 90 p → PP Q (K1 (enS m3 p (mk 1 20) p ee)) (K2 (wi (enR w3 p 0 ((p : Nat) : Int) (mk 1 20) ee') 151 1))) : PP Q (bnd (hm_Ma_making N m p (I 7)) (fun u _ => K1 u)) (bnd (fm_M_one N w (I ((n : Nat) : Int)) (I 15)) (fun u _ => K2 u)) := by
  obtain ⟨⟨fa, ct⟩, ⟨r2, r3⟩, ⟨f0, cr0⟩, ⟨r5, r6⟩, r7, ⟨r8, r9, r10⟩, r11, r12, r13⟩ := id ru
  have cb := CR_b cr0
  have hj : j < 60 := fa.1.2.2
  rw [mak7, one_15, I_F' r2, show I ((a : Nat) : Int) + 1 = I ((a + 1 : Nat) : Int) from addN, Co_e (k := a + 1) rfl (by omega), bnd_so, c1, show I ((n : Nat) : Int) + 1 = I ((n + 1 : Nat) : Int) from addN]
  refine l_bb (r_bb ?_)
  refine r_bnd (pk_mo (goto_r (N := N) (n := ((n + 1 : Nat) : Int)) hpp r11 fa.1.2.1 hj) (fun w1 _ e => ?_))
  subst e
  refine r_bb ?_
  generalize hw1 : wa w 98 (60 * p + j) ((n + 1 : Nat) : Int) = w1
  have g1 : FGw p j w w1 := by rw [← hw1]; exact FGw.goto
  have pl1 : PLs b p m w1 U B W Y := by rw [← hw1]; exact PLs_98 pl
  have x33 : F w1 133 = ((p : Nat) : Int) := by rw [← hw1]; exact r11
  have x98 : A w1 98 (60 * p + j) = ((n + 1 : Nat) : Int) := by rw [← hw1, wa_sm (by omega) (by omega)]
  have xc1 : CX w1 p (hp w1 p) U ow' kd' Fv' P' W B Y := by rw [← hw1]; exact CX_98 xc
  have y40 : F w1 140 = -1 := by rw [← hw1]; exact h140
  have a1 : ∀ K i, K ≠ 98 → A w1 K i = A w K i := fun K i h => by rw [← hw1, wa_rne h]
  unfold hm_Ma_funOf hb_Ma_funOf_0 fm_M_funRun fb_M_funRun_0 fb_M_funRun_23
  refine rb_ck (fun _ => ?_)
  rw [show decide (I 15 = 15) = true from rfl, br_t, tnI (n := n) rfl (by omega)]
  have e9 : F m (pq p 9) ≠ 3 := by rw [r5]; omega
  have key : ∀ (M : Nat) (uz : Int32), PP Q (bnd (bnd (hm_Ma_room N m p 2) (fun u1 r1 => br (decide (r1 = 0)) (some (u1, ())) (bnd (hm_Te_make N u1 8 (1000000 + I ((ff : Nat) : Int))) (fun u8 r8 => ck (inb (u1.1 (pq p 4)) 512) (lt (upJ u8 (pq p 2) (vp_updL (u8.2.2.2 (pq p 2)) (u1.1 (pq p 4)).toNatClampNeg r8)) (fun w10 => bnd (hm_Te_make N w10 8 0) (fun u14 r14 => ck (inb ((u1.1 (pq p 4)) + 1) 512) (lt (upJ u14 (pq p 2) (vp_updL (u14.2.2.2 (pq p 2)) ((u1.1 (pq p 4)) + 1).toNatClampNeg r14)) (fun w16 => lt (upI w16 (pq p 4) ((w16.1 (pq p 4)) + 2)) (fun w20 => bnd (hm_Te_make N w20 3 (u1.1 (pq p 4))) (fun u22 r22 => bnd (hm_Fr_push N u22 p r22) (fun u23 r23 => lt (upI u23 1105 ((u23.1 1105) + 2)) (fun w26 => some (w26, ())))))))))))))) (fun u r => bnd (some (u, ())) (fun u _ => K1 u))) (bnd (funB N M w1 (I ((n : Nat) : Int)) (I 15) uz 0) (fun u r => bnd (some (u, ())) (fun u _ => K2 u))) := fun M uz => by
    unfold funB
    rw [I_F' x33, show (2 : Int32) = I ((2 : Nat) : Int) from rfl, show I ((2 : Nat) : Int) + 0 = I ((2 : Nat) : Int) from rfl]
    refine l_bb (r_bb ?_)
    refine pp_bb (pp_mo (room_pp (N := N) (k := 2) pt cx xc1 pl1 y40 (by omega) e9 hee hN) (fun m4 r4 w4 r5' q9 => ?_))
    rcases q9 with ⟨rfl, rfl, a4, a5, b2', U2, pl4, rm4, ⟨ow2, kd2, pt4⟩, -⟩ | ⟨rfl, rfl, m5, a4, a5, rfl, h5⟩
    · rw [show decide ((1 : Int32) = 0) = false from rfl, br_f, br_f]
      have fm4 : FGm p m m4 := FGm_xr a4
      have fw4 : FGw p j w1 w4 := FGw_xr a5
      have z33 : F w4 133 = ((p : Nat) : Int) := by rw [FR.F a5.1 (by simp)]; exact x33
      have z89 : A w4 89 p = ((U2 : Nat) : Int) := pl4.1.1.2.1
      have z92 : A w4 92 p = ((W : Nat) : Int) := pl4.2.2.1.2.1
      have z4 : F m4 (pq p 4) = ((U2 : Nat) : Int) := pl4.1.1.1
      obtain ⟨l4, e1, e2, e3⟩ := pt4.2.2.2.2.2.1
      have e5 : F m4 1105 = ((a : Nat) : Int) := by rw [FR.F a4 (by simp [pq_n])]; exact r2
      -- there
      rw [show (8 : Int32) = I 8 from rfl, show (1000000 : Int32) + I ((ff : Nat) : Int) = I ((1000000 + ff : Nat) : Int) from addN, e_make, bnd_so, I_F' z4, (I_inb (by omega) (by omega)).mpr ⟨by omega, by omega⟩, ck_t, tnI (n := U2) rfl (by omega), wj_e, lt_e]
      rw [show hm_Te_make N (wj m4 (pq p 2) U2 (mk 8 ((1000000 + ff : Nat) : Int))) (I 8) 0 = some (wj m4 (pq p 2) U2 (mk 8 ((1000000 + ff : Nat) : Int)), mk 8 0) from rfl, bnd_so, show I ((U2 : Nat) : Int) + 1 = I ((U2 + 1 : Nat) : Int) from addN, (I_inb (by omega) (by omega)).mpr ⟨by omega, by omega⟩, ck_t, tnI (n := U2 + 1) rfl (by omega), wj_e, lt_e]
      have z4' : F (wj (wj m4 (pq p 2) U2 (mk 8 ((1000000 + ff : Nat) : Int))) (pq p 2) (U2 + 1) (mk 8 0)) (pq p 4) = ((U2 : Nat) : Int) := z4
      rw [I_F' z4', addN, wi_e, lt_e, show (3 : Int32) = I 3 from rfl, e_make, bnd_so]
      generalize hm6 : wi (wj (wj m4 (pq p 2) U2 (mk 8 ((1000000 + ff : Nat) : Int))) (pq p 2) (U2 + 1) (mk 8 0)) (pq p 4) ((U2 + 2 : Nat) : Int) = m6
      have g6 : FR [pq p 4] [] [] [pq p 2] m4 m6 := by rw [← hm6]; exact FR.wi (FR.wj (FR.wj FR.rf (by simp)) (by simp)) (by simp)
      have e26 : F m6 (pq p 26) = ((W : Nat) : Int) := by rw [FR.F g6 (by simp; exact pq_inj (by omega))]; exact pl4.2.2.1.1
      have e45 : F m6 (pq p 45) = ((l4 : Nat) : Int) := by rw [FR.F g6 (by simp; exact pq_inj (by omega))]; exact e1
      refine l_bb ?_
      refine l_bnd (pk_mo (push_m (N := N) (t := mk 3 ((U2 : Nat) : Int)) e26 e45 e2 e3) (fun m7 _ hh => ?_))
      obtain ⟨z1, z2, z3⟩ := hh
      have e57 : F m7 1105 = ((a : Nat) : Int) := by rw [FR.F z1 (by simp [pq_n]), FR.F g6 (by simp [pq_n])]; exact e5
      rw [I_F' e57, addN, wi_e]
      -- here
      refine rb_ck (fun _ => ?_)
      rw [lt_e]
      refine rb_ck (fun _ => rb_ck (fun _ => ?_))
      rw [I_F' z33, tnI (n := p) rfl (by omega), I_A' z89, addN, wa_e, lt_e, show decide (I 15 = 15) = true from rfl, br_t]
      refine rb_ck (fun _ => ?_)
      have z27 : A (wa w4 89 p ((U2 + 2 : Nat) : Int)) 27 n = ((ff : Nat) : Int) := by rw [wa_rne (by omega), FR.A a5.1 (by simp), a1 27 n (by omega)]; exact h27
      unfold fb_M_funRun_177
      refine rb_ck (fun _ => rb_ck (fun _ => ?_))
      have z33' : F (wa w4 89 p ((U2 + 2 : Nat) : Int)) 133 = ((p : Nat) : Int) := z33
      have sp : I ((p : Nat) : Int) * 500 + I ((U2 : Nat) : Int) = I ((500 * p + U2 : Nat) : Int) := by
        rw [show (500 : Int32) = I 500 from rfl, I_mul, I_add]
        congr 1
        omega
      rw [I_F' z33', sp, tnI (n := 500 * p + U2) rfl (by omega), tnI (n := n) rfl (by omega), I_A' z27, wj_e, lt_e]
      refine rb_ck (fun _ => ?_)
      have z33'' : F (wj (wa w4 89 p ((U2 + 2 : Nat) : Int)) 88 (500 * p + U2) (-1 - (I ((ff : Nat) : Int)).toInt64)) 133 = ((p : Nat) : Int) := z33
      rw [I_F' z33'', sp, show I ((500 * p + U2 : Nat) : Int) + 1 = I ((500 * p + U2 + 1 : Nat) : Int) from addN, tnI (n := 500 * p + U2 + 1) rfl (by omega), wj_e, lt_e]
      generalize hw6 : wj (wj (wa w4 89 p ((U2 + 2 : Nat) : Int)) 88 (500 * p + U2) (-1 - (I ((ff : Nat) : Int)).toInt64)) 88 (500 * p + U2 + 1) (0 : Int32).toInt64 = w6
      have fr6 : FR [] [] [89] [88] w4 w6 := by rw [← hw6]; exact FR.wj (FR.wj (FR.wa FR.rf (by simp)) (by simp)) (by simp)
      have z336 : F w6 133 = ((p : Nat) : Int) := by rw [FR.F fr6 (by simp)]; exact z33
      have z926 : A w6 92 p = ((W : Nat) : Int) := by rw [FR.A fr6 (by simp)]; exact z92
      cases M with
      | zero => exact pp_nr
      | succ M =>
      show PP Q _ (bnd (fb_M_funRun_202 N (gg_M_funRun N M) w6 uz 0 (I ((U2 : Nat) : Int)) 0) (fun u r => bnd (some (u, ())) (fun u _ => K2 u)))
      unfold fb_M_funRun_202
      rw [show decide ((0 : Int32) ≤ 0) = true from rfl, br_t, show (3 : Int32) = I 3 from rfl, term_e]
      show PP Q _ (bnd (bnd (fm_M_put N w6 (mk 3 ((U2 : Nat) : Int))) (fun u2 _ => some (u2, ()))) (fun u r => bnd (some (u, ())) (fun u _ => K2 u)))
      refine rb_bnd (pk_mo (put_r (N := N) (x := mk 3 ((U2 : Nat) : Int)) hpp z336 z926 (by omega)) (fun w7 _ e => ?_))
      subst e
      show PP Q (K1 (wi m7 1105 ((a + 2 : Nat) : Int))) (K2 _)
      generalize hw7 : wa (wj w6 91 (46000 * p + W) (mk 3 ((U2 : Nat) : Int))) 92 p ((W + 1 : Nat) : Int) = w7
      have f7 : FR [] [] [89, 92] [88, 91] w4 w7 := by
        rw [← hw7]
        exact FR.wa (FR.wj (FR.mo fr6 (by simp) (by simp) (by simp) (by simp)) (by simp)) (by simp)
      have w788 : w7.2.2.2 88 = w6.2.2.2 88 := by
        rw [← hw7]
        show (wj w6 91 (46000 * p + W) (mk 3 ((U2 : Nat) : Int))).2.2.2 88 = _
        rw [wj_22 (by omega)]
      have w688 : ∀ q, w6.2.2.2 88 q = if q = 500 * p + U2 + 1 then (0 : Int32).toInt64 else if q = 500 * p + U2 then -1 - (I ((ff : Nat) : Int)).toInt64 else w4.2.2.2 88 q := fun q => by rw [← hw6, wj_row, wj_row]; rfl
      have w791 : ∀ i, w7.2.2.2 91 i = if i = 46000 * p + W then mk 3 ((U2 : Nat) : Int) else w4.2.2.2 91 i := fun i => by
        rw [← hw7]
        show (wj w6 91 (46000 * p + W) _).2.2.2 91 i = _
        rw [wj_row, fr6.2.2.2 91 (by simp)]
      have j62 : m7.2.2.2 (pq p 2) = m6.2.2.2 (pq p 2) := z1.2.2.2 _ (by simp; exact pq_inj (by omega))
      have m62 : ∀ q, m6.2.2.2 (pq p 2) q = if q = U2 + 1 then mk 8 0 else if q = U2 then mk 8 ((1000000 + ff : Nat) : Int) else m4.2.2.2 (pq p 2) q := fun q => by
        rw [← hm6]
        show (wj (wj m4 (pq p 2) U2 (mk 8 ((1000000 + ff : Nat) : Int))) (pq p 2) (U2 + 1) (mk 8 0)).2.2.2 (pq p 2) q = _
        rw [wj_row, wj_row]
      have m635 : m6.2.2.2 (pq p 35) = m4.2.2.2 (pq p 35) := g6.2.2.2 _ (by simp; exact pq_inj (by omega))
      have hw70 : hp w7 p U2 = -1 - (I ((ff : Nat) : Int)).toInt64 := by
        show w7.2.2.2 88 (500 * p + U2) = _
        rw [w788, w688, if_neg (by omega), if_pos rfl]
      have hw71 : hp w7 p (U2 + 1) = (0 : Int32).toInt64 := by
        show w7.2.2.2 88 (500 * p + (U2 + 1)) = _
        rw [w788, w688, if_pos (by omega)]
      have d1 : (-1 - (I ((ff : Nat) : Int)).toInt64).toInt = -1 - ((ff : Nat) : Int) := by
        rw [Int64.toInt_sub, toI64, I_ti (by omega) (by omega), show (-1 : Int64).toInt = -1 from by decide]
        exact Int.bmod_eq_of_le (by omega) (by omega)
      have ti := fun_iso (l := 0) (h2 := m7.2.2.2 (pq p 2)) (h2' := hp w7 p) (tt := fun _ => mk 6 0) (xx := fun _ => mk 6 0) pl4.1.2.1 (by omega) (Or.inr ⟨ff, hff, by rw [j62, m62, if_neg (by omega), if_pos rfl]; exact va_1m hff, by rw [hw70]; exact d1⟩) (by rw [j62, m62, if_pos rfl]; unfold vn; rw [va_mk (by omega) (by omega)]; rfl) (by rw [hw71]; unfold vn; rw [va_w]; rfl) (fun q hq => by omega) (fun q hq => by omega) (fun q hq => by omega) (fun i hi => by rw [j62, m62, if_neg (by omega), if_neg (by omega)]) (fun i hi => by
        show w7.2.2.2 88 (500 * p + i) = _
        rw [w788, w688, if_neg (by omega), if_neg (by omega)]
        rfl)
      have t1' : FR [pq p 4, pq p 26, pq p 45, 1105] [] [] [pq p 2, pq p 35] m4 (wi m7 1105 ((a + 2 : Nat) : Int)) := FR.wi (FR.tr (FR.mo g6 (by simp) (by simp) (by simp) (by simp)) (FR.mo z1 (by simp) (by simp) (by simp) (by simp))) (by simp)
      have e89 : A w7 89 p = ((U2 + 2 : Nat) : Int) := by
        rw [← hw7, wa_rne (by omega)]
        show A w6 89 p = _
        rw [← hw6]
        show A (wa w4 89 p ((U2 + 2 : Nat) : Int)) 89 p = _
        rw [wa_sm (by omega) (by omega)]
      have e92 : A w7 92 p = ((W + 1 : Nat) : Int) := by rw [← hw7, wa_sm (by omega) (by omega)]
      have e4 : F (wi m7 1105 ((a + 2 : Nat) : Int)) (pq p 4) = ((U2 + 2 : Nat) : Int) := by
        rw [wi_ne (fun c => pq_n (by omega) c.symm), FR.F z1 (by simp; exact ⟨pq_inj (by omega), pq_inj (by omega)⟩), ← hm6, wi_sm (by omega) (by omega)]
      have fm7 : FGm p m (wi m7 1105 ((a + 2 : Nat) : Int)) := FGm.tr fm4 (FR.mo t1' (by simp) (by simp) (by simp) (by simp))
      have fw7 : FGw p j w1 w7 := by
        refine FGw.tr fw4 (FGw_mk f7 (fun r hr => ?_) (fun r hr => ?_) (fun i hi => ?_) (fun i hi => ?_))
        · rw [← hw7, wa_rne (by omega)]
          show A w6 89 r = _
          rw [← hw6]
          show A (wa w4 89 p ((U2 + 2 : Nat) : Int)) 89 r = _
          rw [wa_ro (by omega) (by omega), if_neg hr]
        · rw [← hw7, wa_ro (by omega) (by omega), if_neg hr]
          show A w6 92 r = _
          rw [FR.A fr6 (by simp)]
        · rw [w788, w688, if_neg (by omega), if_neg (by omega)]
        · rw [w791, if_neg (by omega)]
      have x98' : A w7 98 (60 * p + j) = ((n + 1 : Nat) : Int) := by rw [FR.A f7 (by simp), FR.A a5.1 (by simp)]; exact x98
      exact kS _ _ _ w7 (PLs_mk pl4 (fun _ _ _ h => Or.inl h) t1' e4 (by rw [wi_ne (fun c => pq_n (by omega) c.symm)]; exact z2) (Nat.le_refl _) (fun i hi => by
        show m7.2.2.2 (pq p 35) i = _
        rw [z3 i hi, m635]) f7 e89 rm4 e92 (fun i hi => by
        rw [w791]
        by_cases c : i = W
        · rw [if_pos c, if_pos (by omega)]
        · rw [if_neg c, if_neg (by omega)]) ti.1 ti.2) (RUs_mv ru fm7 (FGw.tr g1 fw7) (wi_sm (by omega) (by omega)) x98' cr) fm7 (FGw.tr g1 fw7)
    · rw [show decide ((0 : Int32) = 0) = true from rfl, br_t, br_t]
      have z33 : F w4 133 = ((p : Nat) : Int) := by rw [FR.F a5.1 (by simp)]; exact x33
      have g4 : FGw p j w w4 := FGw.tr g1 (FGw_xr a5)
      have e109 : A w4 109 p ≠ 3 := by
        rw [FR.A g4.1 (by simp), r6]; omega
      have e150 : F w4 150 = ((ee' : Nat) : Int) := by
        rw [FR.F g4.1 (by simp)]; exact hee'.1
      rw [noR_e hpp z33 e109 e150 hee'.2]
      exact kE m5 w4 (FGm_xr a4) g4 h5
  obtain ⟨N', rfl⟩ : ∃ N', N = N' + 1 := ⟨N - 1, by omega⟩
  show PP Q _ (bnd (fb_M_funRun_34 (N' + 1) (gg_M_funRun (N' + 1) N') w1 (I ((n : Nat) : Int)) (I 15) (w1.2.2.1 25 n) 0 (2 + 0) 0) (fun u r => bnd (some (u, ())) (fun u _ => K2 u)))
  unfold fb_M_funRun_34
  rw [show decide ((0 : Int32) ≤ 0) = true from rfl, br_t, show decide ((2 : Int32) + 0 ≤ 500) = true from rfl, br_t]
  exact key N' _
end
