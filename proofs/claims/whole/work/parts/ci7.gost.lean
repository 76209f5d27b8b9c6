/-! a run, both sides, from its beginning -/
set_option maxRecDepth 100000
section
variable {T : TYc} {Fv Fv' : Int64 → Int64 → Prop} {P : Int64 → Prop} {AN : Nat} {TT : TY} {CC : CY} {pM pE : Nat → Nat} {ND CN PN SN UN FN N PR p b : Nat} {m w : MS}
theorem gwN_v (hp : p < 24) (hb : b ≤ 500) : (∀ K, K ≠ 109 → K ≠ 115 → (gwN w p b).2.2.1 K = w.2.2.1 K) ∧ (gwN w p b).2.2.2 = w.2.2.2 ∧ (gwN w p b).2.2.1 115 p = I 0 ∧ A (gwN w p b) 109 p = 0 ∧ (∀ k, k ∉ [3, 133, 151, 152, 164, 165] → (gwN w p b).1 k = w.1 k) ∧ (F (gwN w p b) 133 = ((p : Nat) : Int) ∧ F (gwN w p b) 164 = ((b : Nat) : Int) ∧ F (gwN w p b) 165 = 0 ∧ F (gwN w p b) 151 = 0 ∧ F (gwN w p b) 152 = 0) := by
  obtain ⟨f, v⟩ := gwR_v (w := w) (p := p) (b := b) hp hb
  refine ⟨fun K h1 h2 => ?_, rfl, ?_, ?_, fun k h => ?_, v⟩
  · unfold gwN gwA
    rw [wa_21 h1, wa_21 h2]
    exact f.2.2.1 K (by simp)
  · unfold gwN gwA
    rw [wa_21 (by omega), wa_s1]
  · unfold gwN
    rw [wa_sm (by omega) (by omega)]
  · exact f.1 k h
theorem gwA_v (hp : p < 24) (hb : b ≤ 500) : (∀ K, K ≠ 109 → K ≠ 115 → (gwA w p b).2.2.1 K = w.2.2.1 K) ∧ (gwA w p b).2.2.2 = w.2.2.2 ∧ (gwA w p b).2.2.1 115 p = I 0 ∧ A (gwA w p b) 109 p = A w 109 p ∧ (∀ k, k ∉ [3, 133, 151, 152, 164, 165] → (gwA w p b).1 k = w.1 k) ∧ (F (gwA w p b) 133 = ((p : Nat) : Int) ∧ F (gwA w p b) 164 = ((b : Nat) : Int) ∧ F (gwA w p b) 165 = 0 ∧ F (gwA w p b) 151 = 0 ∧ F (gwA w p b) 152 = 0) := by
  obtain ⟨f, v⟩ := gwR_v (w := w) (p := p) (b := b) hp hb
  refine ⟨fun K h1 h2 => ?_, rfl, ?_, ?_, fun k h => ?_, v⟩
  · unfold gwA
    rw [wa_21 h2]
    exact f.2.2.1 K (by simp)
  · unfold gwA
    rw [wa_s1]
  · unfold gwA
    rw [wa_rne (by omega)]
    rfl
  · exact f.1 k h
theorem go_st (hN : 700000000000000 < N) (hpr : p < PR) (hb : b ≤ 500) (W : WRD T Fv P PR m) (rest : REST Fv' AN TT ND UN FN PR w) (per : PER Fv' AN TT CC pM pE ND CN PN SN UN FN w) (fq : FQs WTr PR Fv P Fv' (PWs AN) m w) (tb : TBz m w) (hal : F m (pq p 9) ≠ 3) : PP (RQg Fv P Fv' AN p) (hm_Ma_goOn N m p (I ((b : Nat) : Int))) (fb_M_go_61 N (gg_M_go N N) w (I ((p : Nat) : Int)) (I ((b : Nat) : Int)) 0) := by
  obtain ⟨i, WL, h56, h49, cn, wt⟩ := fq
  have p24 : PR ≤ 24 := WL.1.1.1.1.1.2
  rcases id (WL.2.2.1 p hpr) with ⟨x1, x2, bb, U, B, W4, Y, pl, sc, j, nb, Hs, Os, fa, ct, a, ha, st⟩ | ⟨x1, -⟩
  rotate_left
  · exact absurd x1 hal
  obtain ⟨eq1, lp, ha2⟩ := go_mst (N := N) (a := a) (y := ((b : Nat) : Int)) W hpr hal ⟨by omega, by omega⟩ fa.1.1 ha
  rw [eq1, ← qgo_eq (Sf := SAf T Fv P p) (by omega) (fun PR c u v o h => ⟨PR, c, v, rfl, h, o⟩) N 600000000 PR 0 _ (by omega) lp]
  clear eq1
  have ba := go_bas (a := a) (y := ((b : Nat) : Int)) WL h56 h49 cn wt tb hpr x1 x2 hb
  obtain ⟨⟨v5, v6, v7⟩, ⟨v8, v9, v12⟩, vs, v29⟩ := gsM_v (m := m) (p := p) (a := a) (y := ((b : Nat) : Int)) (by omega) ⟨by omega, by omega⟩
  obtain ⟨⟨ow, kw, pt⟩, ⟨ow', kd', xc⟩, ⟨bW, bB, bY⟩, -⟩ := SF_al WL.1 hpr x1 pl
  have w92 := go_w92 hpr rest per x2
  have plg := PLs_gd pl xc
  have hj : j < 60 := fa.1.2.2
  have gmM : GGm p (gmR m a ((b : Nat) : Int)) (gsM m p a ((b : Nat) : Int)) := by
    unfold gsM
    exact GGm.tr (GGm_own (by omega)) (GGm_own (by omega))
  have scb : ∀ w2 : MS, (∀ K, K ≠ 109 → K ≠ 115 → w2.2.2.1 K = w.2.2.1 K) → w2.2.2.1 115 p = I 0 → SCs p (gmR m a ((b : Nat) : Int)) (gwR w p b) → SCs p (gsM m p a ((b : Nat) : Int)) w2 := fun w2 g h s => SC_gs s g h v29
  have m23 : A (gsM m p a ((b : Nat) : Int)) 23 = A m 23 := rfl
  have q8 : F (gsM m p a ((b : Nat) : Int)) (pq p 8) = F m (pq p 8) := congrArg Int32.toInt (gsM_q (by omega) (by omega))
  have l10 : (gsM m p a ((b : Nat) : Int)).2.1 = m.2.1 := rfl
  have mF : ∀ k, k < 1100 → (gsM m p a ((b : Nat) : Int)).1 k = m.1 k := fun k h => (gsM_g (by omega)).trans (gmR_fr.1 k (by simp; omega))
  have fcA := fun (w2 : MS) (g : ∀ K, K ≠ 109 → K ≠ 115 → w2.2.2.1 K = w.2.2.1 K) (e : w2.2.2.2 = w.2.2.2) => FC_gs (a := a) (y := ((b : Nat) : Int)) ⟨fa, ct⟩ g e
  have plA := fun (w2 : MS) (g : ∀ K, K ≠ 109 → K ≠ 115 → w2.2.2.1 K = w.2.2.1 K) (e : w2.2.2.2 = w.2.2.2) => PL_gs (a := a) (y := ((b : Nat) : Int)) plg g e
  have hb7 : ∀ w2 : MS, F w2 164 = ((b : Nat) : Int) → (gsM m p a ((b : Nat) : Int)).1 1107 = w2.1 164 := fun w2 e => by rw [v7, I_F' e]
  have hb6 : ∀ w2 : MS, F w2 165 = 0 → (gsM m p a ((b : Nat) : Int)).1 1106 = w2.1 165 := fun w2 e => by rw [v6, I_F' e]
  have hAN : F (gwR w p b) 14 = ((AN : Nat) : Int) := by
    rw [FR.F (gwR_v (w := w) (p := p) (b := b) (by omega) hb).1 (by simp)]
    exact per.2.2.2.1
  have sq := (W.1.2 p hpr).1.2
  have sq2 := sq.2 x1
  have fl := fa.2.1 j (Nat.le_refl _)
  have eB : B = nb j + (Hs j ++ Os j).length := by
    have h1 := pl.2.1.1
    have h2 := fa.2.2.2
    omega
  have hcl : m.1 944 = w.1 120 := tb.2.2.1.1.1
  refine go_wst hpr hb rest per x2 hN (fun h0 hal0 wd pr => ?_) (fun h1 q j' e95 e98 hq pr pk => ?_) (fun h5 c hc pr pk => ?_)
  · -- it goes on
    obtain ⟨mm, -, al⟩ := hal0
    obtain ⟨g1, g2, g3, g4, g5, g133, g164, g165, g151, g152⟩ := gwA_v (w := w) (p := p) (b := b) (by omega) hb
    have gwA' : GGw p (gwR w p b) (gwA w p b) := by
      unfold gwA
      exact GGw_own (Or.inl ⟨by omega, rfl⟩)
    obtain ⟨n, s3, f, s4⟩ : ∃ n : Nat, A w 98 (60 * p + j) = ((n : Nat) : Int) ∧ ∃ f, CRs (A m 23) (ROs w) (w.2.2.2 34) f none a n (Hs j) (Os j) := by
      rcases st with ⟨-, -, st⟩ | ⟨-, c, -⟩ | ⟨-, c, -⟩
      · exact st
      · omega
      · omega
    have ro : ROs (gwA w p b) = ROs w := ROs_eq (fun K h => g1 K (by unfold PRr at h; omega) (by unfold PRr at h; omega))
    have ru : RUs (gsM m p a ((b : Nat) : Int)) (gwA w p b) p j nb Hs Os none a n := ⟨fcA _ g1 g2, ⟨v5, by show ((gwA w p b).2.2.1 98 _).toInt = _; rw [g1 98 (by omega) (by omega)]; exact s3⟩, ⟨f, by rw [m23, ro, g2]; exact s4⟩, ⟨vs, by rw [g4]; exact h0⟩, Or.inl ⟨rfl, v12, g152⟩, ⟨v8, v9, g151⟩, g133, hb6 _ g165, hb7 _ g164⟩
    have plx := (plA _ g1 g2).1
    have scx := scb _ g1 g3
    generalize gwA w p b = wA at *
    generalize gsM m p a ((b : Nat) : Int) = m1 at *
    obtain ⟨-, W0, ⟨h955, h956⟩, ⟨g149, g150⟩, cn0, wt0, tb0, ⟨hal0, hal0'⟩, n1, n2⟩ := ba
    have dw := ALT_dw al
    have pb := PQ_b pr.2.2.2.2.1 dw.1.2
    have s3' : SFs Fv P Fv' (PWs AN) PR m1 wA := ⟨LPQ_dc lp, ⟨DW_mo PW_q dw, wd.1, wd.2.1⟩, PB_mo PW_q pb⟩
    have fi := gmM.2.2.2.2.2.2
    have fA := gmM.2.2.2.2.2.1
    have gi := gwA'.2.2.2.2.2.2
    have gA := gwA'.2.2.2.2.2.1
    have scp : SCs p (gmR m a ((b : Nat) : Int)) (gwR w p b) := by
      rcases W0.2.2.1 p hpr with ⟨-, -, _, _, _, _, _, _, s, -⟩ | ⟨x, -⟩
      · exact s
      · exact absurd x hal0
    refine goA (by omega) N N 0 m1 wA ⟨PR, 600000000, mm, hpr, ⟨by omega, lp⟩, ⟨al, wd, pr⟩, ⟨i, WL_q (WL_ownt W0 hpr hal0 hal0' s3' gmM gwA' plx (scx scp) ⟨by omega, by omega⟩) (fun _ => Or.inl ⟨j, nb, Hs, Os, none, a, n, ru⟩), ⟨?_, ?_⟩, ⟨?_, ?_⟩, CN_pg cn0 (PG0_gg gmM gwA') pr.2.2.1, WTs_st wt0 (fi 950 (by omega)) (fun k hk => fA k (by omega)) (gi 125 (by omega)) (fun k hk => gA k (by omega))⟩, TB_gg tb0 gmM gwA'⟩
    · rw [← h956]
      exact congrArg Int32.toInt gmM.2.2.2.2.1
    · rw [← h955]
      exact congrArg Int32.toInt gmM.2.2.1
    · rw [← h49.1]
      exact congrArg Int32.toInt (g5 149 (by simp))
    · rw [← g150]
      exact congrArg Int32.toInt gwA'.2.2.1
  · -- it has waited
    cases N with
    | zero => omega
    | succ M2 =>
    obtain ⟨g1, g2, g3, g4, g5, g133, g164, g165, g151, g152⟩ := gwN_v (w := w) (p := p) (b := b) (by omega) hb
    have gwN' : GGw p (gwR w p b) (gwN w p b) := by
      unfold gwN gwA
      exact GGw.tr (GGw_own (Or.inl ⟨by omega, rfl⟩)) (GGw_own (Or.inl ⟨by omega, rfl⟩))
    obtain ⟨s8, dl, n, s3, s23, s27, nd, g, rc⟩ : F m (pq p 8) = A w 110 p ∧ DLs (m.2.1 (pq p 10)) (w.2.2.2 111 p) ∧ ∃ n : Nat, A w 98 (60 * p + j) = ((n : Nat) : Int) ∧ A w 23 n = 27 ∧ A w 27 n = (((Os j).length : Nat) : Int) ∧ ((Hs j).Nodup ∧ (Os j).Nodup) ∧ ∃ g, RCs (A m 23) (ROs w) (w.2.2.2 34) (CRs (A m 23) (ROs w) (w.2.2.2 34) g) g a n (Hs j) (Os j) := by
      rcases st with ⟨-, c, -⟩ | ⟨-, c, -⟩ | ⟨-, -, -, st⟩
      · omega
      · omega
      · exact st
    have ej : j' = j := by
      have := fa.1.2.1
      omega
    subst ej
    have en : n = q := by omega
    subst en
    have ro : ROs (gwN w p b) = ROs w := ROs_eq (fun K h => g1 K (by unfold PRr at h; omega) (by unfold PRr at h; omega))
    have aN : ∀ K k, K ≠ 109 → K ≠ 115 → A (gwN w p b) K k = A w K k := fun K k h1 h2 => by
      show ((gwN w p b).2.2.1 K k).toInt = _
      rw [g1 K h1 h2]
      rfl
    have nND := per.1.1.1
    obtain ⟨t, ht⟩ : ∃ t : Nat, F m (pq p 8) = ((t : Nat) : Int) := ⟨(F m (pq p 8)).toNat, by omega⟩
    have eY : F m (pq p 7) = ((Y : Nat) : Int) := pl.2.2.2.1
    have fcx := fcA _ g1 g2
    have plx := plA _ g1 g2
    have scx := scb _ g1 g3
    have e944 := mF 944 (by omega)
    have e955 : F (gsM m p a ((b : Nat) : Int)) 955 = ((i : Nat) : Int) := (congrArg Int32.toInt (mF 955 (by omega))).trans h56.2
    have e956 : F (gsM m p a ((b : Nat) : Int)) 956 = ((i : Nat) : Int) := (congrArg Int32.toInt (mF 956 (by omega))).trans h56.1
    have h149 : F (gwN w p b) 149 = 0 := by
      rw [← h49.1]
      exact congrArg Int32.toInt (g5 149 (by simp))
    have h140 : F (gwN w p b) 140 = -1 := by
      rw [← WL.1.2.1.1.2.2.2.1]
      exact congrArg Int32.toInt (g5 140 (by simp))
    have e120 := g5 120 (by simp)
    have hpw : hp (gwN w p b) p = hp w p := by
      unfold hp
      rw [g2]
    have l111 : (gwN w p b).2.2.2 111 p = w.2.2.2 111 p := by rw [g2]
    have l34 : (gwN w p b).2.2.2 34 = w.2.2.2 34 := by rw [g2]
    have hb6' := hb6 _ g165
    have hb7' := hb7 _ g164
    refine go_kr pk pr (by omega) (by omega) ?_
    generalize gwN w p b = wN at *
    generalize gsM m p a ((b : Nat) : Int) = m1 at *
    refine goW_r (nbj := nb j') (hl := (Hs j').length) (ol := (Os j').length) (t := t) (by omega) g133 (by rw [aN 95 _ (by omega) (by omega)]; exact fa.1.2.1) hj (by omega) (by rw [aN 110 _ (by omega) (by omega)]; omega) (by rw [aN 99 _ (by omega) (by omega)]; exact fl.2.2.1.2) (by rw [aN 101 _ (by omega) (by omega)]; exact fl.2.2.2.2.1) (by rw [aN 27 _ (by omega) (by omega)]; exact s27) ?_
    have nx := NX_of (m := m1) (w := wN) (t := t) (n := n) (sc := a) fcx vs g4 v12 g152 v8 v9 g151 g133 hb6' hb7' v5 (by rw [q8]; exact ht) (by omega) (by omega) (by rw [List.length_append] at eB; omega) (by rw [l10, l111]; exact dl) (by rw [aN 23 _ (by omega) (by omega)]; exact s23) (by rw [aN 27 _ (by omega) (by omega)]; exact s27) ⟨nd.2, nd.1⟩ ⟨g, by rw [m23, ro, l34]; exact rc⟩
    have gw5 : GGw p wN (wi (wi (wi (wi (wi wN 159 ((n : Nat) : Int)) 158 ((t : Nat) : Int)) 153 3) 155 (A wN 25 n)) 156 ((nb j' + (Hs j').length + (Os j').length : Nat) : Int)) := GGw.tr (GGw.tr (GGw.tr (GGw.tr (GGw_reg (by omega) ⟨by omega, by omega, by omega⟩) (GGw_reg (by omega) ⟨by omega, by omega, by omega⟩)) (GGw_reg (by omega) ⟨by omega, by omega, by omega⟩)) (GGw_reg (by omega) ⟨by omega, by omega, by omega⟩)) (GGw_reg (by omega) ⟨by omega, by omega, by omega⟩)
    have lo : ∀ l, l ≠ 159 → l ≠ 158 → l ≠ 153 → l ≠ 155 → l ≠ 156 → (wi (wi (wi (wi (wi wN 159 ((n : Nat) : Int)) 158 ((t : Nat) : Int)) 153 3) 155 (A wN 25 n)) 156 ((nb j' + (Hs j').length + (Os j').length : Nat) : Int)).1 l = wN.1 l := fun l h1 h2 h3 h4 h5 => by rw [wi_1 h5, wi_1 h4, wi_1 h3, wi_1 h2, wi_1 h1]
    have f159 : F (wi (wi (wi (wi (wi wN 159 ((n : Nat) : Int)) 158 ((t : Nat) : Int)) 153 3) 155 (A wN 25 n)) 156 ((nb j' + (Hs j').length + (Os j').length : Nat) : Int)) 159 = ((n : Nat) : Int) := by rw [wi_ne (by omega), wi_ne (by omega), wi_ne (by omega), wi_ne (by omega), wi_sm (by omega) (by omega)]
    have pl5 : PLs (bGd bb U ow' kd') p m1 (wa (wi (wi (wi (wi (wi wN 159 ((n : Nat) : Int)) 158 ((t : Nat) : Int)) 153 3) 155 (A wN 25 n)) 156 ((nb j' + (Hs j').length + (Os j').length : Nat) : Int)) 94 p ((B : Nat) : Int)) U B W4 Y := plx.2
    have sc5 : SCs p (gmR m a ((b : Nat) : Int)) (gwR w p b) → SCs p m1 (wi (wi (wi (wi (wi wN 159 ((n : Nat) : Int)) 158 ((t : Nat) : Int)) 153 3) 155 (A wN 25 n)) 156 ((nb j' + (Hs j').length + (Os j').length : Nat) : Int)) := scx
    have hp5 : hp (wi (wi (wi (wi (wi wN 159 ((n : Nat) : Int)) 158 ((t : Nat) : Int)) 153 3) 155 (A wN 25 n)) 156 ((nb j' + (Hs j').length + (Os j').length : Nat) : Int)) p = hp w p := hpw
    have l88 : (wi (wi (wi (wi (wi wN 159 ((n : Nat) : Int)) 158 ((t : Nat) : Int)) 153 3) 155 (A wN 25 n)) 156 ((nb j' + (Hs j').length + (Os j').length : Nat) : Int)).2.2.2 88 = wN.2.2.2 88 := rfl
    have w140 : F (wi (wi (wi (wi (wi wN 159 ((n : Nat) : Int)) 158 ((t : Nat) : Int)) 153 3) 155 (A wN 25 n)) 156 ((nb j' + (Hs j').length + (Os j').length : Nat) : Int)) 140 = -1 := by
      rw [← h140]
      exact congrArg Int32.toInt (lo 140 (by omega) (by omega) (by omega) (by omega) (by omega))
    have w120 := lo 120 (by omega) (by omega) (by omega) (by omega) (by omega)
    obtain ⟨-, -, -, -, wft, i2, h, mm, L, x, wb, ti, e5, -, -, un⟩ := cl_fct lp nx.1 pl5
    have ei : a = i2 := by omega
    subst ei
    obtain ⟨⟨a1, -⟩, -, -, -, -, ins⟩ := wft _ _ _ _ _ _ ti
    have x0 : x = a := in_32 ins (by rw [m23]; exact rc.1)
    subst x0
    show PP _ (q67 (SAf T Fv P p) (M2 + 1) (qgo (SAf T Fv P p) (M2 + 1) M2) m1 p (I ((0 : Nat) : Int))) _
    generalize wi (wi (wi (wi (wi wN 159 ((n : Nat) : Int)) 158 ((t : Nat) : Int)) 153 3) 155 (A wN 25 n)) 156 ((nb j' + (Hs j').length + (Os j').length : Nat) : Int) = w5 at *
    have gwb : GGw p (gwR w p b) w5 := GGw.tr gwN' gw5
    have ih := goA (T := T) (Fv := Fv) (Fv' := Fv') (P := P) (AN := AN) (TT := TT) (CC := CC) (pM := pM) (pE := pE) (ND := ND) (CN := CN) (PN := PN) (SN := SN) (UN := UN) (FN := FN) (p := p) (N := M2 + 1) (by omega) (M2 + 1)
    refine recv_pp (t := t) (K2 := fun u => KRs Fv' AN TT CC ND CN UN FN (M2 + 1) p 600000000000000 (M2 + 1) wN u) (by omega) nx pl5 (by rw [List.length_append] at eB; omega) (by omega) bY (by rw [q8]; exact ht) (by omega) (by omega) (by omega) (by rw [e944, w120, e120]; exact hcl) (fun z => un (by omega) z) (fun n' hn => by omega) (fun M' vk' m3 w3 q1 q2 a1 a2 a3 a4 a5 => ?_) (fun M' vk' m3 w3 l2 q' q1 q2 a1 a2 a3 a4 a5 => ?_) (fun m3 w3 k q1 a1 a2 q3 a3 a4 a5 a6 => ?_)
    · exact (aft_gg (by omega) pr h149 ih ba (by omega) (GGm.tr gmM a3) (GGw.tr gwb a4) a2 (fun s => a5 (sc5 s)) (Or.inr (Or.inl ⟨j', nb, Hs, Os, x, a1⟩)) (by obtain ⟨y1, y2⟩ := a1.2.1; omega) a1.2.2.2.2.2.1.2.1).1
    · exact (aft_gg (by omega) pr h149 ih ba (by omega) (GGm.tr gmM a3) (GGw.tr gwb a4) a2 (fun s => a5 (sc5 s)) (Or.inl ⟨j', nb, Hs, Os, none, l2, q', a1⟩) (by obtain ⟨y1, y2⟩ := a1.2.2.2.1; omega) a1.2.2.2.2.2.1.2.1).1
    · have q5 : F m3 955 ≤ F m3 956 := by
        have y1 : F m3 955 = F m1 955 := congrArg Int32.toInt a3.2.2.1
        have y2 : F m3 956 = F m1 956 := congrArg Int32.toInt a3.2.2.2.2.1
        omega
      refine go195 a1.1.2.2.2.1.2.1 q5 (fun hs => ?_)
      have e : hp w3 p = hp w p := by
        rw [← hp5]
        unfold hp
        rw [a6.1]
      exact st_tr (M := M2 + 1) (d := 19) (by omega) (by omega) pr h149 hAN ih ba rfl (by omega) hs a1 a2 (by rw [e]; exact xc.2.1) ((congrArg Int32.toInt a6.2).trans w140) (by have := pl.2.2.1.2.1; omega) (GGm.tr gmM a3) (GGw.tr gwb a4) (fun s => a5 (sc5 s))
  · -- it is new
    cases N with
    | zero => omega
    | succ M2 =>
    obtain ⟨g1, g2, g3, g4, g5, g133, g164, g165, g151, g152⟩ := gwN_v (w := w) (p := p) (b := b) (by omega) hb
    have gwN' : GGw p (gwR w p b) (gwN w p b) := by
      unfold gwN gwA
      exact GGw.tr (GGw_own (Or.inl ⟨by omega, rfl⟩)) (GGw_own (Or.inl ⟨by omega, rfl⟩))
    obtain ⟨ej, eO, c', hc', nd, f, g, zr⟩ : j = 0 ∧ Os j = [] ∧ ∃ c : Nat, ((0 ≤ A w 96 (60 * p) ∧ A w 50 (A w 96 (60 * p)).toNat = ((c : Nat) : Int)) ∨ (A w 96 (60 * p) = -1 ∧ ∃ u : Nat, A w 170 p = ((u : Nat) : Int) ∧ A w 53 u = ((c : Nat) : Int))) ∧ ((Hs j).Nodup ∧ ∃ f g, ZRs (A m 23) (ROs w) (w.2.2.2 34) (CRs (A m 23) (ROs w) (w.2.2.2 34) f) 0 0 (Hs j) [] g a ((c : Nat) : Int)) := by
      rcases st with ⟨-, c, -⟩ | ⟨-, -, st⟩ | ⟨-, c, -⟩
      · omega
      · exact st
      · omega
    have ec : c' = c := by
      rcases hc with ⟨y1, y2⟩ | ⟨y1, u, y2, y3⟩
      · rcases hc' with ⟨z1, z2⟩ | ⟨z1, -⟩
        · omega
        · omega
      · rcases hc' with ⟨z1, z2⟩ | ⟨z1, u', z2, z3⟩
        · omega
        · have eu : u' = u := by omega
          subst eu
          omega
    subst ec
    subst ej
    have ro : ROs (gwN w p b) = ROs w := ROs_eq (fun K h => g1 K (by unfold PRr at h; omega) (by unfold PRr at h; omega))
    have aN : ∀ K k, K ≠ 109 → K ≠ 115 → A (gwN w p b) K k = A w K k := fun K k h1 h2 => by
      show ((gwN w p b).2.2.1 K k).toInt = _
      rw [g1 K h1 h2]
      rfl
    have fcx := fcA _ g1 g2
    have plx := plA _ g1 g2
    have scx := scb _ g1 g3
    have h149 : F (gwN w p b) 149 = 0 := by
      rw [← h49.1]
      exact congrArg Int32.toInt (g5 149 (by simp))
    have h140 : F (gwN w p b) 140 = -1 := by
      rw [← WL.1.2.1.1.2.2.2.1]
      exact congrArg Int32.toInt (g5 140 (by simp))
    have hpw : hp (gwN w p b) p = hp w p := by
      unfold hp
      rw [g2]
    have l34 : (gwN w p b).2.2.2 34 = w.2.2.2 34 := by rw [g2]
    have hb6' := hb6 _ g165
    have hb7' := hb7 _ g164
    have hc9 : c' < 100000 := by
      cases g with
      | zero => exact zr.elim
      | succ g =>
        rcases zr.2 with ⟨z, -⟩ | ⟨k0, ⟨z, z2⟩, -⟩
        · omega
        · omega
    refine go_kr pk pr (by omega) (by omega) ?_
    generalize gwN w p b = wN at *
    generalize gsM m p a ((b : Nat) : Int) = m1 at *
    rw [cof_e]
    refine clof_r (nbn := nb 0) (a := (Hs 0).length) (j := 0) (by omega) g133 (by rw [aN 95 _ (by omega) (by omega)]; exact fa.1.2.1) (by omega) (by rw [aN 99 _ (by omega) (by omega)]; exact fl.2.2.1.2) (by rw [aN 101 _ (by omega) (by omega)]; exact fl.2.2.2.2.1) ?_
    have gw4 : GGw p wN (wi (wi (wi (wi wN 153 0) 155 ((c' : Nat) : Int)) 154 ((c' : Nat) : Int)) 156 ((nb 0 + (Hs 0).length : Nat) : Int)) := GGw.tr (GGw.tr (GGw.tr (GGw_reg (by omega) ⟨by omega, by omega, by omega⟩) (GGw_reg (by omega) ⟨by omega, by omega, by omega⟩)) (GGw_reg (by omega) ⟨by omega, by omega, by omega⟩)) (GGw_reg (by omega) ⟨by omega, by omega, by omega⟩)
    have lo : ∀ l, l ≠ 154 → l ≠ 153 → l ≠ 155 → l ≠ 156 → (wi (wi (wi (wi wN 153 0) 155 ((c' : Nat) : Int)) 154 ((c' : Nat) : Int)) 156 ((nb 0 + (Hs 0).length : Nat) : Int)).1 l = wN.1 l := fun l h1 h2 h3 h4 => by rw [wi_1 h4, wi_1 h1, wi_1 h3, wi_1 h2]
    have lF : ∀ l, l ≠ 154 → l ≠ 153 → l ≠ 155 → l ≠ 156 → F (wi (wi (wi (wi wN 153 0) 155 ((c' : Nat) : Int)) 154 ((c' : Nat) : Int)) 156 ((nb 0 + (Hs 0).length : Nat) : Int)) l = F wN l := fun l h1 h2 h3 h4 => congrArg Int32.toInt (lo l h1 h2 h3 h4)
    have f153 : F (wi (wi (wi (wi wN 153 0) 155 ((c' : Nat) : Int)) 154 ((c' : Nat) : Int)) 156 ((nb 0 + (Hs 0).length : Nat) : Int)) 153 = ((0 : Nat) : Int) := by rw [wi_ne (by omega), wi_ne (by omega), wi_ne (by omega), wi_sm (by omega) (by omega)]; rfl
    have f154 : F (wi (wi (wi (wi wN 153 0) 155 ((c' : Nat) : Int)) 154 ((c' : Nat) : Int)) 156 ((nb 0 + (Hs 0).length : Nat) : Int)) 154 = ((c' : Nat) : Int) := by rw [wi_ne (by omega), wi_sm (by omega) (by omega)]
    have f156 : F (wi (wi (wi (wi wN 153 0) 155 ((c' : Nat) : Int)) 154 ((c' : Nat) : Int)) 156 ((nb 0 + (Hs 0).length : Nat) : Int)) 156 = ((nb 0 + (Hs 0).length + (Os 0).length : Nat) : Int) := by
      rw [eO, List.append_nil] at eB
      rw [wi_sm (by omega) (by omega), eO]
      rfl
    have rub : RUb m1 (wi (wi (wi (wi wN 153 0) 155 ((c' : Nat) : Int)) 154 ((c' : Nat) : Int)) 156 ((nb 0 + (Hs 0).length : Nat) : Int)) p 0 nb Hs Os none := ⟨fcx, ⟨vs, g4⟩, Or.inl ⟨rfl, v12, (lF 152 (by omega) (by omega) (by omega) (by omega)).trans g152⟩, ⟨v8, v9, (lF 151 (by omega) (by omega) (by omega) (by omega)).trans g151⟩, (lF 133 (by omega) (by omega) (by omega) (by omega)).trans g133, by rw [lo 165 (by omega) (by omega) (by omega) (by omega)]; exact hb6', by rw [lo 164 (by omega) (by omega) (by omega) (by omega)]; exact hb7'⟩
    have pl4 : PLs (bGd bb U ow' kd') p m1 (wa (wi (wi (wi (wi wN 153 0) 155 ((c' : Nat) : Int)) 154 ((c' : Nat) : Int)) 156 ((nb 0 + (Hs 0).length : Nat) : Int)) 94 p ((B : Nat) : Int)) U B W4 Y := plx.2
    have sc4 : SCs p (gmR m a ((b : Nat) : Int)) (gwR w p b) → SCs p m1 (wi (wi (wi (wi wN 153 0) 155 ((c' : Nat) : Int)) 154 ((c' : Nat) : Int)) 156 ((nb 0 + (Hs 0).length : Nat) : Int)) := scx
    have hp4 : hp (wi (wi (wi (wi wN 153 0) 155 ((c' : Nat) : Int)) 154 ((c' : Nat) : Int)) 156 ((nb 0 + (Hs 0).length : Nat) : Int)) p = hp w p := hpw
    have ro4 : ROs (wi (wi (wi (wi wN 153 0) 155 ((c' : Nat) : Int)) 154 ((c' : Nat) : Int)) 156 ((nb 0 + (Hs 0).length : Nat) : Int)) = ROs w := ro
    have j34 : (wi (wi (wi (wi wN 153 0) 155 ((c' : Nat) : Int)) 154 ((c' : Nat) : Int)) 156 ((nb 0 + (Hs 0).length : Nat) : Int)).2.2.2 34 = w.2.2.2 34 := l34
    have w140 : F (wi (wi (wi (wi wN 153 0) 155 ((c' : Nat) : Int)) 154 ((c' : Nat) : Int)) 156 ((nb 0 + (Hs 0).length : Nat) : Int)) 140 = -1 := (lF 140 (by omega) (by omega) (by omega) (by omega)).trans h140
    show PP _ (q67 (SAf T Fv P p) (M2 + 1) (qgo (SAf T Fv P p) (M2 + 1) M2) m1 p (I ((0 : Nat) : Int))) _
    generalize wi (wi (wi (wi wN 153 0) 155 ((c' : Nat) : Int)) 154 ((c' : Nat) : Int)) 156 ((nb 0 + (Hs 0).length : Nat) : Int) = w4 at *
    have tt : TRs m1 w4 p 0 nb Hs Os 0 0 a ((c' : Nat) : Int) := ⟨rub, v5, ⟨f153, f154, f156⟩, fun e => absurd e (by decide), ⟨by rw [eO]; exact List.nodup_nil, nd⟩, f, g, by rw [eO, m23, ro4, j34]; exact zr⟩
    have ih := goA (T := T) (Fv := Fv) (Fv' := Fv') (P := P) (AN := AN) (TT := TT) (CC := CC) (pM := pM) (pE := pE) (ND := ND) (CN := CN) (PN := PN) (SN := SN) (UN := UN) (FN := FN) (p := p) (N := M2 + 1) (by omega) (M2 + 1)
    exact tr_pp (by omega) (by omega) pr h149 hAN ih ba M2 (M2 + 1) 19 0 600000000 bb U B W4 Y 0 0 0 a nb Hs Os _ ow' kd' m1 w4 (by omega) lp tt pl4 eB (by rw [hp4]; exact xc.2.1) w140 (by have := pl.2.2.1.2.1; omega) gmM (GGw.tr gwN' gw4) sc4
end
