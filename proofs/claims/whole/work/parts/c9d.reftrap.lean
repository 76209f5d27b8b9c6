/-! what is PREDEFINED: a REFERENCE, whether ends are trapped -/
set_option maxRecDepth 100000
section
variable {m w m8 w8 : MS} {k p j : Nat} {z : Int} {is ls as js : List Nat}
theorem FR_sw (f : FR is ls as js m m8) : FR is ls as js (wi m k z) (wi m8 k z) := ⟨fun i hi => by
  by_cases c : i = k
  · subst c
    rw [wi_s1, wi_s1]
  · rw [wi_1 c, wi_1 c]
    exact f.1 i hi, f.2.1, f.2.2.1, f.2.2.2⟩
theorem FGw_sw (g : FGw p j w w8) : FGw p j (wi w k z) (wi w8 k z) := ⟨FR_sw g.1, g.2⟩
end
section
variable {α β : Type} {b : Int → Nat → Nat → Prop} {N p U B W Y l j a n : Nat} {m w w1 m2 : MS} {nb : Nat → Nat} {Hs Os : Nat → List Nat} {y : Option (Nat × Nat × Nat)} {Q : MS → α → MS → β → Prop} {K1 : MS → Option (MS × α)} {K2 : MS → Option (MS × β)} {x1 x2 : Int}
/-- a number of the world changes -/
theorem RUs_gl (h : RUs m w p j nb Hs Os y a n) : RUs (wi m 945 x1) (wi w 121 x2) p j nb Hs Os y a n := RUs_st h ⟨fun k hk _ => wi_1 (fun c => pq_n (by omega) c.symm), fun _ _ _ => rfl, fun _ _ _ => rfl, rfl⟩ ⟨fun _ _ _ _ _ => rfl, rfl, fun _ _ => rfl, rfl⟩ (PGs_fr (FR.wi (is := [945]) (ls := []) (as := []) (js := []) FR.rf (by simp)) (FR.wi (is := [121]) (ls := []) (as := []) (js := []) FR.rf (by simp)) (by simp) (by simp) (by simp) (by simp) (by simp) (by simp))
theorem PLs_gl (pl : PLs b p m w U B W Y) : PLs b p (wi m 945 x1) (wi w 121 x2) U B W Y := PLs_cg pl (fun k _ => wi_1 (fun c => pq_n (by omega) c.symm)) (fun _ _ => rfl) (fun _ _ => rfl) (fun _ _ => rfl) (fun _ _ => rfl) (fun _ _ => rfl) (fun _ _ => rfl) (fun _ _ => rfl) (fun _ _ => rfl) (fun _ _ => rfl)
theorem SCs_gl (s : SCs p m w) : SCs p (wi m 945 x1) (wi w 121 x2) := SC_ow s (fun k _ => wi_1 (fun c => pq_n (by omega) c.symm)) rfl (fun _ _ _ => rfl)
/-- a new REFERENCE -/
theorem op_ref (hp1 : p < 24) (ru : RUs m w p j nb Hs Os y a n) (hc : m.1 945 = w.1 121) (hW : W < 46000) (hl : F m (pq p 45) = ((l : Nat) : Int)) (hl2 : W ≤ l ∧ l ≤ 1000000) (pl : PLs b p m w1 U B W Y) (g1 : FGw p j w w1) (h98 : A w1 98 (60 * p + j) = ((n + 1 : Nat) : Int)) (cr : ∃ f, CRs (A m 23) (ROs w) (w.2.2.2 34) f y (a + 2) (n + 1) (Hs j) (Os j))
    (c : ∀ m3 w3, PLs b p m3 w3 U B (W + 1) Y → RUs m3 w3 p j nb Hs Os y (a + 2) (n + 1) → GGm p (wi m 945 (F m 945 + 1)) m3 → GGw p (wi w 121 (F w 121 + 1)) w3 → (SCs p m w → SCs p m3 w3) → PP Q (K1 m3) (K2 w3)) : PP Q (bnd (hm_Ma_predefined N m p (I 11)) (fun u _ => K1 u)) (bnd (fm_M_predefinedRun N w1 (I 12)) (fun u _ => K2 u)) := by
  obtain ⟨⟨fa, -⟩, ⟨r2, -⟩, -, -, -, ⟨-, r9, -⟩, r11, -, -⟩ := id ru
  have hj : j < 60 := fa.1.2.2
  have cb2 : a + 2 + 1 < 24000 := by
    obtain ⟨f9, cr9⟩ := cr
    exact (CR_b cr9).1
  have x33 : F w1 133 = ((p : Nat) : Int) := by rw [FR.F g1.1 (by simp)]; exact r11
  have pd := PLs_d0 pl
  rw [pm11, pr12]
  refine l_bb (lb_bnd (pk_mo bel_k (fun u2 _ e => ?_)))
  subst e
  have x21 : w1.1 121 = u2.1 945 := by rw [g1.1.1 121 (by simp)]; exact hc.symm
  have r945 := F_r u2 945
  have e121 : F w 121 = F u2 945 := congrArg Int32.toInt hc.symm
  rw [x21, I_F (k := 945), show (2 : Int32) = I 2 from rfl, e_make, bnd_so, term_e, bnd_so]
  unfold hm_Ma_answer hb_Ma_answer_0
  rw [show (0 : Int32) = I 0 from rfl, drop_e (W := W) (k := 0) (x := 0) pl.2.2.1.1 rfl (by omega), bnd_so, Nat.sub_zero]
  simp only [bb_e, bnd_so]
  have rt : RTb b (mk 2 (F u2 945)) (mk 2 (F u2 945)) := RTb_lit (nh_mk (by omega)) (fun c => by rw [so_mk (by omega) (by omega)] at c; omega)
  refine l_bnd (pk_mo (push_m (N := N) (t := mk 2 (F u2 945)) pd.2.2.1.1 (by rw [wi_ne (pq_inj (by omega))]; exact hl) hl2.1 hl2.2) (fun m8 _ h => ?_))
  obtain ⟨h1, h2, h3⟩ := h
  refine r_bnd (pk_mo (put_r (N := N) (x := mk 2 (F u2 945)) hp1 x33 pl.2.2.1.2.1 (by omega)) (fun w8 _ h => ?_))
  subst h
  have f8 : FGm p u2 m8 := FGm.tr FGm.drop (FGm.push h1)
  have g8 : FGw p j w (wa (wj w1 91 (46000 * p + W) (mk 2 (F u2 945))) 92 p ((W + 1 : Nat) : Int)) := FGw.tr g1 (FGw.put hW)
  have pl8 := PLs_push pd rt h1 h2 h3
  generalize hw8 : wa (wj w1 91 (46000 * p + W) (mk 2 (F u2 945))) 92 p ((W + 1 : Nat) : Int) = w8 at g8 pl8
  have x98 : A w8 98 (60 * p + j) = ((n + 1 : Nat) : Int) := by rw [← hw8, wa_rne (by omega), A_wj]; exact h98
  have e945 : F m8 945 = F u2 945 := by rw [FR.F f8 (by simp; unfold pq; omega)]
  have y121 : F w8 121 = F u2 945 := by rw [FR.F g8.1 (by simp)]; exact e121
  have i1 : ∀ (u : MS) (k : Nat), u.1 k + I 1 = I (F u k + 1) := fun u k => by rw [I_F (k := k), I_add]
  rw [show (1 : Int32) = I 1 from rfl, i1 m8 945, e945, wi_e, lt_e, i1 w8 121, y121, wi_e, lt_e, bnd_so, bnd_so]
  unfold hb_Ma_predefined_146 hb_Ma_predefined_163
  have e5 : F (wi m8 945 (F u2 945 + 1)) 1105 = ((a : Nat) : Int) := by rw [wi_ne (by omega), FR.F h1 (by simp [pq_n]), wi_ne (pq_n (by omega))]; exact r2
  have e9 : F (wi m8 945 (F u2 945 + 1)) 1109 = 0 := by rw [wi_ne (by omega), FR.F f8 (by simp; unfold pq; omega)]; exact r9
  rw [I_F' e9, show decide (I 0 = 0) = true from rfl, br_t, I_F' e5, show I ((a : Nat) : Int) + 2 = I ((a + 2 : Nat) : Int) from addN, wi_e, lt_e]
  show PP Q (K1 (wi (wi m8 945 (F u2 945 + 1)) 1105 ((a + 2 : Nat) : Int))) (K2 (wi w8 121 (F u2 945 + 1)))
  have ru8 : RUs (wi m8 1105 ((a + 2 : Nat) : Int)) w8 p j nb Hs Os y (a + 2) (n + 1) := RUs_mv ru (FGm.tr f8 FGm.pc) g8 (wi_sm (by omega) (by omega)) x98 cr
  have sw : wi (wi m8 945 (F u2 945 + 1)) 1105 ((a + 2 : Nat) : Int) = wi (wi m8 1105 ((a + 2 : Nat) : Int)) 945 (F u2 945 + 1) := by
    unfold wi upI
    refine Prod.ext (funext fun k => ?_) rfl
    show (if k = 1105 then _ else if k = 945 then _ else m8.1 k) = (if k = 945 then _ else if k = 1105 then _ else m8.1 k)
    by_cases c : k = 1105
    · rw [if_pos c, if_neg (by omega), if_pos c]
    · rw [if_neg c, if_neg c]
  refine c _ _ ?_ ?_ (GGm_fg (FGm.tr (FR_sw f8) FGm.pc)) ?_ (fun s => ?_)
  · rw [sw]; exact PLs_gl (PLs_pc pl8)
  · rw [sw]; exact RUs_gl ru8
  · rw [e121]; exact GGw_fg (FGw_sw g8) hj
  · rw [sw]; exact SCs_gl (SC_fg s (FGm.tr f8 FGm.pc) g8)
/-- whether ends are trapped -/
theorem op_trap (hp1 : p < 24) (ru : RUs m w p j nb Hs Os y a n) (sc : SCs p m w) (hW : W + 1 ≤ 46000) (hl : F m (pq p 45) = ((l : Nat) : Int)) (hl2 : W + 1 ≤ l ∧ l ≤ 1000000) (pl : PLs b p m w1 U B (W + 1) Y) (g1 : FGw p j w w1) (h98 : A w1 98 (60 * p + j) = ((n + 1 : Nat) : Int)) (cr : ∃ f, CRs (A m 23) (ROs w) (w.2.2.2 34) f y (a + 2) (n + 1) (Hs j) (Os j))
    (c : ∀ m3 w3, PLs b p m3 w3 U B (W + 1) Y → RUs m3 w3 p j nb Hs Os y (a + 2) (n + 1) → GGm p m m3 → GGw p w w3 → SCs p m3 w3 → PP Q (K1 m3) (K2 w3))
    (kX : ∀ w3, PLs b p (wi m (pq p 26) ((W : Nat) : Int)) w3 U B W Y → FGw p j w w3 → (w3.2.2.2 88 = w1.2.2.2 88 ∧ w3.1 140 = w1.1 140) → PP Q (K1 (tld m 1 (-1) (mk 1 11))) (bnd (fr_M_error N w3 11) (fun u _ => K2 u))) : PP Q (bnd (hm_Ma_predefined N m p (I 6)) (fun u _ => K1 u)) (bnd (fm_M_predefinedRun N w1 (I 6)) (fun u _ => K2 u)) := by
  obtain ⟨⟨fa, -⟩, ⟨r2, -⟩, -, -, -, ⟨-, r9, -⟩, r11, -, -⟩ := id ru
  have hj : j < 60 := fa.1.2.2
  have cb2 : a + 2 + 1 < 24000 := by
    obtain ⟨f9, cr9⟩ := cr
    exact (CR_b cr9).1
  have x33 : F w1 133 = ((p : Nat) : Int) := by rw [FR.F g1.1 (by simp)]; exact r11
  have rt := pl.2.2.1.2.2 W (by omega)
  have be : hm_Fr_below N m p 0 = some (m, m.2.2.2 (pq p 35) W) := by
    have := below_e (N := N) (x := 0) (k := 0) (W := W + 1) (l := l) pl.2.2.1.1 hl hl2.1 hl2.2 rfl (by omega)
    rw [show W + 1 - 1 - 0 = W by omega] at this
    exact this
  have pd := PLs_drop (k := 1) (W := W) pl (by omega)
  have g3 : FGw p j w (wa w1 92 p ((W : Nat) : Int)) := FGw.tr g1 FGw.w92
  have x33' : F (wa w1 92 p ((W : Nat) : Int)) 133 = ((p : Nat) : Int) := x33
  have x92' : A (wa w1 92 p ((W : Nat) : Int)) 92 p = ((W : Nat) : Int) := wa_sm (by omega) (by omega)
  have x112 : (wa w1 92 p ((W : Nat) : Int)).2.2.1 112 p = m.1 (pq p 11) := by
    rw [wa_at (by omega), g1.1.2.2.1 112 (by simp)]
    exact sc.2.2.1.symm
  have h983 : A (wa w1 92 p ((W : Nat) : Int)) 98 (60 * p + j) = ((n + 1 : Nat) : Int) := by rw [wa_rne (by omega)]; exact h98
  rw [pm6, pr6]
  refine l_bb (r_bb ?_)
  refine r_bnd (pk_mo (take_r (N := N) (W := W) hp1 x33 pl.2.2.1.2.1 (by omega)) (fun w4 r e => ?_))
  obtain ⟨rfl, rfl⟩ := e
  generalize hw3 : wa w1 92 p ((W : Nat) : Int) = w3 at pd g3 x33' x92' x112 h983
  generalize ht : m.2.2.2 (pq p 35) W = t at rt be
  generalize hx : w1.2.2.2 91 (46000 * p + W) = x at rt
  rw [be, bnd_so, show hm_Ma_atom N m 0 = some (m, mk 1 0) from rfl, bnd_so]
  -- it is set
  have sett : ∀ z : Int, (z = 0 ∨ z = 1) → ∀ zz : Int32, zz = I z → ∀ (G : MS → Option (MS × Unit)), (∀ u : MS, G u = hb_Ma_alone_216 N () u p p zz) → ∀ (G' : MS → Option (MS × Unit)), (∀ u : MS, G' u = fb_M_predefinedRun_251 N () u 112 (u.1 133) zz) → PP Q (bnd (bnd (hm_Ma_truth N m (m.1 (pq p 11))) (fun u6 r6 => bnd (hm_Ma_answer N u6 p 1 r6) (fun u7 _ => G u7))) (fun u _ => bnd (hb_Ma_predefined_146 N () u p) (fun u _ => K1 u))) (bnd (bnd (fm_M_truth N w3 (w3.2.2.1 112 p)) (fun u13 r13 => bnd (fm_M_put N u13 r13) (fun u14 _ => G' u14))) (fun u _ => K2 u)) := fun z hz zz hzz G hG G' hG' => by
    obtain ⟨v, hv, ev⟩ := truth_z (N := N) (z := m.1 (pq p 11))
    rw [x112, (ev m w3).1, bnd_so, (ev m w3).2, bnd_so]
    unfold hm_Ma_answer hb_Ma_answer_0
    rw [show (1 : Int32) = I 1 from rfl, drop_e (W := W + 1) (k := 1) (x := 1) pl.2.2.1.1 rfl (by omega), bnd_so, Nat.add_sub_cancel]
    simp only [bb_e, bnd_so]
    refine l_bnd (pk_mo (push_m (N := N) (t := mk 1 v) pd.2.2.1.1 (by rw [wi_ne (pq_inj (by omega))]; exact hl) (by omega) hl2.2) (fun m8 _ h => ?_))
    obtain ⟨h1, h2, h3⟩ := h
    refine r_bnd (pk_mo (put_r (N := N) (x := mk 1 v) hp1 x33' x92' (by omega)) (fun w8 _ h => ?_))
    subst h
    rw [hG, hG']
    unfold hb_Ma_alone_216 hb_Ma_alone_309 fb_M_predefinedRun_251 fb_M_predefinedRun_292
    refine lb_ck (fun _ => rb_ck (fun _ => rb_ck (fun _ => ?_)))
    have f8 : FGm p m m8 := FGm.tr FGm.drop (FGm.push h1)
    have g8 : FGw p j w (wa (wj w3 91 (46000 * p + W) (mk 1 v)) 92 p ((W + 1 : Nat) : Int)) := FGw.tr g3 (FGw.put (by omega))
    have pl8 := PLs_push pd (lit_b (b := b) (v := 1) (Or.inr (Or.inl rfl)) (z := v) (fun h => by omega) ⟨by omega, by omega⟩) h1 h2 h3
    have y33 : F (wa (wj w3 91 (46000 * p + W) (mk 1 v)) 92 p ((W + 1 : Nat) : Int)) 133 = ((p : Nat) : Int) := x33'
    have y98 : A (wa (wj w3 91 (46000 * p + W) (mk 1 v)) 92 p ((W + 1 : Nat) : Int)) 98 (60 * p + j) = ((n + 1 : Nat) : Int) := by rw [wa_rne (by omega), A_wj]; exact h983
    have nar : vp_nar .boolean zz = zz := by
      rw [hzz]
      rcases hz with rfl | rfl <;> rfl
    rw [nar, I_F' y33, tnI (n := p) rfl (by omega), hzz, wi_e, lt_e, wa_e, lt_e]
    generalize hw8 : wa (wj w3 91 (46000 * p + W) (mk 1 v)) 92 p ((W + 1 : Nat) : Int) = w8 at g8 pl8 y33 y98
    unfold hb_Ma_predefined_146 hb_Ma_predefined_163
    have e5 : F (wi m8 (pq p 11) z) 1105 = ((a : Nat) : Int) := by rw [wi_ne (pq_n (by omega)), FR.F h1 (by simp [pq_n]), wi_ne (pq_n (by omega))]; exact r2
    have e9 : F (wi m8 (pq p 11) z) 1109 = 0 := by rw [wi_ne (pq_n (by omega)), FR.F f8 (by simp; unfold pq; omega)]; exact r9
    rw [bnd_so, I_F' e9, show decide (I 0 = 0) = true from rfl, br_t, I_F' e5, show I ((a : Nat) : Int) + 2 = I ((a + 2 : Nat) : Int) from addN, wi_e, lt_e]
    show PP Q (K1 (wi (wi m8 (pq p 11) z) 1105 ((a + 2 : Nat) : Int))) (K2 (wa w8 112 p z))
    have ru8 : RUs (wi m8 1105 ((a + 2 : Nat) : Int)) w8 p j nb Hs Os y (a + 2) (n + 1) := RUs_mv ru (FGm.tr f8 FGm.pc) g8 (wi_sm (by omega) (by omega)) y98 cr
    obtain ⟨q1, ⟨q2, q3⟩, ⟨f9, q4⟩, ⟨q5, q6⟩, q7, ⟨q8, q9, q10⟩, q11, q12, q13⟩ := ru8
    have im : ∀ k, k ≠ pq p 11 → (wi (wi m8 (pq p 11) z) 1105 ((a + 2 : Nat) : Int)).1 k = (wi m8 1105 ((a + 2 : Nat) : Int)).1 k := fun k h => by
      by_cases c : k = 1105
      · subst c
        rw [wi_s1, wi_s1]
      · rw [wi_1 c, wi_1 c, wi_1 h]
    have fm : ∀ k, k ≠ pq p 11 → F (wi (wi m8 (pq p 11) z) 1105 ((a + 2 : Nat) : Int)) k = F (wi m8 1105 ((a + 2 : Nat) : Int)) k := fun k h => congrArg Int32.toInt (im k h)
    have np : ∀ k, k < 2000 → k ≠ pq p 11 := fun k h c => by unfold pq at c; omega
    have r21 : ∀ K, K ≠ 112 → (wa w8 112 p z).2.2.1 K = w8.2.2.1 K := fun K h => wa_21 h
    have s8 := SC_fg sc (FGm.tr f8 (FGm.pc (v := ((a + 2 : Nat) : Int)))) g8
    refine c _ _ ?_ ⟨FC_w q1 (fun k h => im _ (pq_inj (by omega))) (fun _ _ => rfl) rfl (fun K h => by rw [r21 K (by omega)]) (fun K r h1 h2 _ _ => by rw [r21 K (by omega)]) (fun K r h1 h2 _ => by rw [r21 K (by omega)]) (fun K h => r21 K (by unfold PRr at h; omega)) rfl, ⟨by rw [fm 1105 (np _ (by omega))]; exact q2, by rw [wa_rne (by omega)]; exact q3⟩, ⟨f9, by rw [ROs_eq (fun K h => r21 K (by unfold PRr at h; omega))]; exact q4⟩, ⟨by rw [fm _ (pq_inj (by omega))]; exact q5, by rw [wa_rne (by omega)]; exact q6⟩, GD_w q7 (im _ (pq_inj (by omega))) rfl rfl (fun k h1 h2 => im k (np k (by omega))) (fun _ _ => rfl) rfl (fun K h => r21 K (by unfold PRr at h; omega)) rfl, ⟨by rw [fm 1108 (np _ (by omega))]; exact q8, by rw [fm 1109 (np _ (by omega))]; exact q9, q10⟩, q11, by rw [im 1106 (np _ (by omega))]; exact q12, by rw [im 1107 (np _ (by omega))]; exact q13⟩ (GGm.tr (GGm.tr (GGm_fg f8) (GGm_own (by omega))) (GGm_reg (by omega))) (GGw.tr (GGw_fg g8 hj) (GGw_own (Or.inl ⟨by omega, rfl⟩))) ?_
    · refine PLs_cg (PLs_pc (z := ((a + 2 : Nat) : Int)) pl8) (fun k hk => im _ (pq_inj (by simp at hk; omega))) (fun _ _ => rfl) (fun _ _ => rfl) (fun _ _ => rfl) (fun _ _ => rfl) (fun k hk => by rw [r21 k (by simp at hk; omega)]) (fun _ _ => rfl) (fun _ _ => rfl) (fun _ _ => rfl) (fun _ _ => rfl)
    · obtain ⟨s1, s2, s3, s4, s5, s6⟩ := s8
      refine ⟨by rw [im _ (pq_inj (by omega)), r21 113 (by omega)]; exact s1, by rw [im _ (pq_inj (by omega)), r21 114 (by omega)]; exact s2, ?_, by rw [im _ (pq_inj (by omega)), r21 117 (by omega)]; exact s4, by rw [im _ (pq_inj (by omega)), r21 115 (by omega)]; exact s5, fun i hi => ?_⟩
      · rw [wa_s1, wi_1 (fun c => pq_n (by omega) c.symm), wi_s1]
      · rw [r21 116 (by omega)]
        exact s6 i (by rw [← fm _ (pq_inj (by omega))]; exact hi)
  have Ge : ∀ zz : Int32, (t = mk 1 0 ∧ zz = 1) ∨ (t ≠ mk 1 0 ∧ zz = 0) → ∀ u : MS, bnd (hm_Ma_atom N u 0) (fun u9 r9 => br (decide ((lg_cmp t r9) = 0)) (hb_Ma_alone_216 N () u9 p p (1)) (hb_Ma_alone_216 N () u9 p p (0))) = hb_Ma_alone_216 N () u p p zz := fun zz h u => by
    rw [show hm_Ma_atom N u 0 = some (u, mk 1 0) from rfl, bnd_so]
    rcases h with ⟨h, rfl⟩ | ⟨h, rfl⟩
    · rw [dec_lg h, br_t]
    · rw [dec_lg0 h, br_f]
  have Ge' : ∀ zz : Int32, (x = mk 1 0 ∧ zz = 1) ∨ (x ≠ mk 1 0 ∧ zz = 0) → ∀ u : MS, bnd (fm_M_truth N u 1) (fun u15 r15 => br (decide ((lg_cmp x r15) = 0)) (fb_M_predefinedRun_251 N () u15 (112) ((u.1 133)) (1)) (fb_M_predefinedRun_251 N () u15 (112) ((u.1 133)) (0))) = fb_M_predefinedRun_251 N () u 112 (u.1 133) zz := fun zz h u => by
    rw [truth1, bnd_so]
    rcases h with ⟨h, rfl⟩ | ⟨h, rfl⟩
    · rw [dec_lg h, br_t]
    · rw [dec_lg0 h, br_f]
  by_cases e0 : t = mk 1 0
  · have x0 := (RTb_at rt).mp e0
    rw [dec_lg e0, br_t, isTr_1 (Or.inl x0), bnd_so, show decide ((1 : Int32) = 0) = false from rfl, br_f]
    refine rb_ck (fun _ => ?_)
    rw [I_F' x33', tnI (n := p) rfl (by omega)]
    unfold hb_Ma_alone_183
    exact sett 1 (Or.inr rfl) 1 rfl _ (Ge 1 (Or.inl ⟨e0, rfl⟩)) _ (Ge' 1 (Or.inl ⟨x0, rfl⟩))
  · have x0 : x ≠ mk 1 0 := fun z => e0 ((RTb_at rt).mpr z)
    rw [dec_lg0 e0, br_f, show hm_Ma_atom N m 1 = some (m, mk 1 1) from rfl, bnd_so]
    by_cases e1 : t = mk 1 1
    · have x1 := (RTb_at rt).mp e1
      rw [dec_lg e1, br_t, isTr_1 (Or.inr x1), bnd_so, show decide ((1 : Int32) = 0) = false from rfl, br_f]
      refine rb_ck (fun _ => ?_)
      rw [I_F' x33', tnI (n := p) rfl (by omega)]
      unfold hb_Ma_alone_183
      exact sett 0 (Or.inl rfl) 0 rfl _ (Ge 0 (Or.inr ⟨e0, rfl⟩)) _ (Ge' 0 (Or.inr ⟨x0, rfl⟩))
    · have x1 : x ≠ mk 1 1 := fun z => e1 ((RTb_at rt).mpr z)
      rw [dec_lg0 e1, br_f, isTr_0 x0 x1, bnd_so, show decide ((0 : Int32) = 0) = true from rfl, br_t, wrong_e9, bnd_so, bnd_so, pre_tl ⟨by omega, by omega⟩ (by omega), bnd_so]
      refine r_bb ?_
      exact kX w3 pd g3 ⟨by rw [← hw3]; rfl, by rw [← hw3]; rfl⟩
end
