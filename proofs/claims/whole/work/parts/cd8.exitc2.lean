/-! exit, toward another that does not trap: the world, the answer -/
set_option maxRecDepth 100000
/-- what of the world's tables and numbers stays where one ENDS, there, here -/
def EGm (m m2 : MS) : Prop := (∀ K, K < 100 → K ≠ 54 → m2.2.2.1 K = m.2.2.1 K) ∧ ∀ k, k < 1100 ∨ k = 1106 ∨ k = 1107 → k ≠ 955 → m2.1 k = m.1 k
def EGw (w w2 : MS) : Prop := (∀ K, K < 88 ∨ (118 ≤ K ∧ K ≤ 130) → w2.2.2.1 K = w.2.2.1 K) ∧ ∀ k, k ≤ 132 ∨ k = 164 ∨ k = 165 → w2.1 k = w.1 k
section
variable {b : Int → Nat → Nat → Prop} {Fv Fv' : Int64 → Int64 → Prop} {P P' : Int64 → Prop} {N PR p q i j0 U B W Y j a n a2 n2 o : Nat} {m w m2 w8 mE wE m3 : MS} {nb : Nat → Nat} {Hs Os : Nat → List Nat} {y : Option (Nat × Nat × Nat)}
/-- q ENDS in a step of p: the world, the run -/
theorem exq_end (hpp : p < PR) (hq : q < PR) (hqp : q ≠ p) (hal : F m (pq q 9) ≠ 3) (wl : WLs (RRp p) PR Fv P Fv' P' none i j0 m w) (hq9 : F m 955 = ((i : Nat) : Int)) (ru : RUs m w p j nb Hs Os y a n) (sc : SCs p m w) (f1 : FGm p m m2) (g8 : FGw p j w w8) (Lm : ∀ d, d ≠ q → LOCm d m2 mE) (Lw : ∀ d, d ≠ q → d < 24 → LOCw d w8 wE)
    (em : (∀ k, k < 2000 → k ≠ 955 → mE.1 k = m2.1 k) ∧ (∀ k, k < 2000 → mE.2.1 k = m2.2.1 k) ∧ ∀ K, K < 2000 → K ≠ 54 → mE.2.2.1 K = m2.2.2.1 K) (ew : (∀ k, k ≠ 150 → k ≠ 136 → k ≠ 138 → k ≠ 140 → wE.1 k = w8.1 k) ∧ (∀ K, K < 88 ∨ (118 ≤ K ∧ K ≤ 130) → wE.2.2.1 K = w8.2.2.1 K) ∧ wE.2.2.2 34 = w8.2.2.2 34) (f3 : FGm p mE m3) (pl3 : PLs b p m3 wE U B W Y) (h05 : F m3 1105 = ((a2 : Nat) : Int)) (h98 : A wE 98 (60 * p + j) = ((n2 : Nat) : Int)) (cr : ∃ f, CRs (A m 23) (ROs w) (w.2.2.2 34) f y a2 n2 (Hs j) (Os j))
    (e1 : F mE 955 = ((i + 1 : Nat) : Int)) (e54 : A mE 54 i = ((q : Nat) : Int)) (e2 : F wE 150 = ((j0 + 1 : Nat) : Int)) (e145 : A wE 145 j0 = ((q : Nat) : Int)) (e146 : A wE 146 j0 = 0) (e147 : A wE 147 j0 = ((o : Nat) : Int)) (k9 : F mE (pq q 9) = 3 ∧ A wE 109 q = 3) (rq : RQs Fv P Fv' P' PR mE wE q 0 o (wE.2.2.2 148 j0)) (qe : QEs mE wE q) :
    RUs m3 wE p j nb Hs Os y a2 n2 ∧ (SFs Fv P Fv' P' PR m3 wE → WLs (RRp p) PR Fv P Fv' P' none i j0 m3 wE) ∧ EGm m m3 ∧ EGw w wE := by
  obtain ⟨⟨fa, -⟩, -, -, ⟨q9, q9w⟩, -, -, r11, -, -⟩ := id ru
  have hj : j < 60 := fa.1.2.2
  have p24 : PR ≤ 24 := wl.1.2.1.1.1.2
  obtain ⟨em1, em2, em3⟩ := em
  obtain ⟨ew1, ew2, ew3⟩ := ew
  have gm1 := GGm_fg f1
  have gm3 := GGm_fg f3
  have gw8 := GGw_fg g8 hj
  have eqm : EQm p m (swM p m mE) := swM_eq f1 (Lm p (Ne.symm hqp)) (em3 23 (by omega) (by omega))
  have eqw : EQw p w (swW p j w wE) := swW_eq g8 (Lw p (Ne.symm hqp) (by omega)) (fun K hK => ew2 K (by unfold PRr at hK; omega)) ew3
  have fB : FGm p (swM p m mE) m3 := FGm.tr swM_fg f3
  have gB : FGw p j (swW p j w wE) wE := swW_fg
  have s1 : ∀ k, k < 2000 → k ≠ 955 → (swM p m mE).1 k = m.1 k := fun k hk h => by
    show (if k = pq p 4 ∨ k = pq p 5 ∨ k = pq p 26 ∨ k = pq p 45 ∨ k = 1105 then m.1 k else mE.1 k) = _
    by_cases c : k = pq p 4 ∨ k = pq p 5 ∨ k = pq p 26 ∨ k = pq p 45 ∨ k = 1105
    · rw [if_pos c]
    · rw [if_neg c, em1 k hk h]
      exact f1.1 k (by simpa using c)
  have s2 : ∀ k, k < 2000 → (swM p m mE).2.1 k = m.2.1 k := fun k hk => (em2 k hk).trans (f1.2.1 k (by simp))
  have s3 : ∀ K, K < 2000 → K ≠ 54 → (swM p m mE).2.2.1 K = m.2.2.1 K := fun K hK h => (em3 K hK h).trans (f1.2.2.1 K (by simp))
  have bw : ∀ k, k ≠ 150 → k ≠ 136 → k ≠ 138 → k ≠ 140 → (swW p j w wE).1 k = w.1 k := fun k h0 h1 h2 h3 => by rw [swW_1 ⟨h1, h2, h3⟩, ew1 k h0 h1 h2 h3]; exact g8.1.1 k (by simp; omega)
  have bA : ∀ K, K < 88 ∨ (118 ≤ K ∧ K ≤ 130) → (swW p j w wE).2.2.1 K = w.2.2.1 K := fun K h => funext fun i => by rw [swW_A (fun c => by unfold owP at c; omega), ew2 K (by omega)]; exact congrFun (g8.1.2.2.1 K (by simp; omega)) i
  have pg : PGs m w (swM p m mE) (swW p j w wE) := ⟨⟨⟨s3 23 (by omega) (by omega), s1 22 (by omega) (by omega), ATc_eq (s3 2 (by omega) (by omega)) (s3 3 (by omega) (by omega))⟩, eqw.2.2.1, eqw.2.2.2, bA 12 (by omega), bA 13 (by omega), bw 14 (by omega) (by omega) (by omega) (by omega)⟩, fun k h1 h2 => ⟨s1 k (by omega) (by omega), s2 k (by omega)⟩, fun k h => bw k (by omega) (by omega) (by omega) (by omega)⟩
  have ruB := RUs_st ru eqm.n eqw.v pg
  have hb15 : F m (pq p 15) ≤ 24 := by
    rcases wl.2.2.1 p hpp with ⟨x1, x2, b', U', B', W', Y', pl', -⟩ | ⟨x1, -⟩
    · exact (SF_al wl.1 hpp x1 pl').2.2.2.2
    · rw [q9] at x1
      omega
  have scB := SC_eq sc hb15 eqm eqw
  have crB : ∃ f, CRs (A (swM p m mE) 23) (ROs (swW p j w wE)) ((swW p j w wE).2.2.2 34) f y a2 n2 (Hs j) (Os j) := by
    rw [show A (swM p m mE) 23 = A m 23 from by funext k; show ((swM p m mE).2.2.1 23 k).toInt = _; rw [s3 23 (by omega) (by omega)]; rfl, ROs_eq (w := w) eqw.2.2.1, eqw.2.2.2]
    exact cr
  have ru3 := RUs_mv (a2 := a2) (n2 := n2) ruB fB gB h05 h98 crB
  refine ⟨ru3, fun s3' => ?_, ⟨fun K h1 h2 => ?_, fun k h1 h2 => ?_⟩, fun K h => (ew2 K h).trans (gw8.2.2.2.2.2.1 K h), fun k h => (ew1 k (by omega) (by omega) (by omega) (by omega)).trans (gw8.2.2.2.2.2.2 k h)⟩
  · have f9 : ∀ d, d ≠ p → F m3 (pq d 9) = F mE (pq d 9) := fun d hd => congrArg Int32.toInt (gm3.1 d hd 9 (by omega)).1
    refine WL_endc (WL_t wl) (by rw [q9]; omega) hal hqp hq hq9 s3' (fun d h1 h2 => ⟨LOCm.tr (LOCm.tr (gm1.1 d h1) (Lm d h2)) (gm3.1 d h1), fun h3 => (gw8.1 d h1).tr2 (Lw d h2 (by omega))⟩) ?_ ?_ ?_ e2 e145 e146 e147 ⟨by rw [f9 q hqp]; exact k9.1, k9.2⟩ ?_ ?_ pl3 (SC_fg scB fB gB) ru3
    · exact ⟨⟨gm3.2.1.1.trans ((em3 23 (by omega) (by omega)).trans gm1.2.1.1), gm3.2.1.2.1.trans ((em1 22 (by omega) (by omega)).trans gm1.2.1.2.1), ATc_eq (gm3.2.1.2.2.1.trans ((em3 2 (by omega) (by omega)).trans gm1.2.1.2.2.1)) (gm3.2.1.2.2.2.trans ((em3 3 (by omega) (by omega)).trans gm1.2.1.2.2.2))⟩, fun K hK => (ew2 K (by unfold PRr at hK; omega)).trans (gw8.2.1.1 K hK), ew3.trans gw8.2.1.2.1, (ew2 12 (by omega)).trans gw8.2.1.2.2.1, (ew2 13 (by omega)).trans gw8.2.1.2.2.2.1, (ew1 14 (by omega) (by omega) (by omega) (by omega)).trans gw8.2.1.2.2.2.2⟩
    · rw [show F m3 955 = F mE 955 from congrArg Int32.toInt gm3.2.2.1]
      exact e1
    · rw [show A m3 54 i = A mE 54 i from congrArg Int32.toInt (congrFun gm3.2.2.2.1 i)]
      exact e54
    · have x9 : F mE (pq p 9) ≠ 3 := by
        rw [show F mE (pq p 9) = F m (pq p 9) from (congrArg Int32.toInt (Lm p (Ne.symm hqp) 9 (by omega)).1).trans (congrArg Int32.toInt (f1.1 _ (by simp; exact ⟨fun c => by have := (pq_e (by omega) (by omega) c).2; omega, fun c => by have := (pq_e (by omega) (by omega) c).2; omega, fun c => by have := (pq_e (by omega) (by omega) c).2; omega, fun c => by have := (pq_e (by omega) (by omega) c).2; omega, fun c => pq_n (by omega) c.symm⟩))), q9]
        omega
      exact RQs_st rq (gm3.1 q hqp 17 (by omega)).1 (gm3.1 q hqp 16 (by omega)).2.1 (fun d hd => ⟨by rw [f9 d (fun c => x9 (by rw [← c]; exact hd))]; exact hd, (gm3.1 d (fun c => x9 (by rw [← c]; exact hd)) 2 (by omega)).2.2.2⟩) (fun _ _ _ _ => rfl) (fun _ h => h) (fun _ _ => rfl)
    · exact QEs_st qe (gm3.1 q hqp) LOCw.rf
  · rw [gm3.2.2.2.2.2.1 K h1, em3 K (by omega) h2, gm1.2.2.2.2.2.1 K h1]
  · rw [gm3.2.2.2.2.2.2 k h1, em1 k (by omega) h2, gm1.2.2.2.2.2.2 k h1]
end
section
variable {α β : Type} {b : Int → Nat → Nat → Prop} {Fv Fv' : Int64 → Int64 → Prop} {P P' : Int64 → Prop} {N PR p q i j0 U B W Y l j a n s f f' : Nat} {ow kd ow' kd' : Nat → Nat} {m w m2 w2 : MS} {nb : Nat → Nat} {Hs Os : Nat → List Nat} {y : Option (Nat × Nat × Nat)} {Q : MS → α → MS → β → Prop} {K1 : MS → Option (MS × α)} {K2 : MS → Option (MS × β)}
/-- another, which does not trap, ENDS -/
theorem op_exitC (hpp : p < PR) (hq : q < PR) (hqp : q ≠ p) (hal : F m (pq q 9) ≠ 3) (h11 : F m (pq q 11) = 0) (wl : WLs (RRp p) PR Fv P Fv' P' none i j0 m w) (hq9 : F m 955 = ((i : Nat) : Int)) (ru : RUs m w p j nb Hs Os y a n) (sc : SCs p m w) (hW : W + 2 ≤ 46000) (hBY : B ≤ 2500 ∧ Y ≤ 30) (hl : F m2 (pq p 45) = ((l : Nat) : Int)) (hl2 : W + 2 ≤ l ∧ l ≤ 1000000) (pl : PLs b p m2 w2 U B (W + 2) Y) (pt : PTQ m2 p U ow kd Fv P B (W + 2) Y) (hF : FVc Fv) (xc : CX w2 p (hp w2 p) U ow' kd' Fv' P' (W + 2) B Y) (hs : s ≤ 500) (z1 : SZc (m2.2.2.2 (pq p 2)) U ow kd Fv P f (m2.2.2.2 (pq p 35) (W + 1)) s) (z2 : SZ (hp w2 p) U ow' kd' Fv' P' f' (w2.2.2.2 91 (46000 * p + (W + 1))) s) (hN : 3000 ≤ N) (f1 : FGm p m m2) (h05 : F m2 1105 = ((a : Nat) : Int)) (g1 : FGw p j w w2) (h98 : A w2 98 (60 * p + j) = ((n + 1 : Nat) : Int)) (cr : ∃ f, CRs (A m 23) (ROs w) (w.2.2.2 34) f y (a + 2) (n + 1) (Hs j) (Os j)) (h5 : m2.2.2.2 (pq p 35) (W + 1) ≠ mk 1 5) (h4 : m2.2.2.2 (pq p 35) (W + 1) ≠ mk 1 4)
    (c : ∀ m3 w3, (SFs Fv P Fv' P' PR m3 w3 → WLs (RRp p) PR Fv P Fv' P' none i j0 m3 w3) → PLs b p m3 w3 U B (W + 1) Y → RUs m3 w3 p j nb Hs Os y (a + 2) (n + 1) → EGm m m3 → EGw w w3 → PP Q (K1 m3) (K2 w3)) : PP Q (bnd (hb_Ma_toward_95 N () m2 p (I 29) 2 (some q)) (fun u _ => K1 u)) (bnd (fb_M_processRun_151 N () w2 (I 8) (w2.2.2.2 91 (46000 * p + (W + 1))) (I ((q : Nat) : Int)) 92 (I ((p : Nat) : Int)) (I ((W + 2 : Nat) : Int)) 2) (fun u _ => K2 u)) := by
  obtain ⟨⟨fa, -⟩, -, -, ⟨q9, q9w⟩, -, -, r11, -, -⟩ := id ru
  have hj : j < 60 := fa.1.2.2
  have p24 : PR ≤ 24 := wl.1.2.1.1.1.2
  have cb2 : a + 2 + 1 < 24000 := by
    obtain ⟨f9, cr9⟩ := cr
    exact (CR_b cr9).1
  have hU := pl.1.1.2.2
  have rt := pl.2.2.1.2.2 (W + 1) (by omega)
  have be0 : hm_Fr_below N m2 p 0 = some (m2, m2.2.2.2 (pq p 35) (W + 1)) := by
    have := below_e (N := N) (x := 0) (k := 0) (W := W + 2) (l := l) pl.2.2.1.1 hl hl2.1 hl2.2 rfl (by omega)
    rw [show W + 2 - 1 - 0 = W + 1 by omega] at this
    exact this
  have gm1 := GGm_fg f1
  have e9 : F m2 (pq q 9) = F m (pq q 9) := congrArg Int32.toInt (gm1.1 q hqp 9 (by omega)).1
  have e11 : F m2 (pq q 11) = F m (pq q 11) := congrArg Int32.toInt (gm1.1 q hqp 11 (by omega)).1
  have e9p : F m2 (pq p 9) = F m (pq p 9) := congrArg Int32.toInt (f1.1 _ (by simp; exact ⟨fun c => by have := (pq_e (by omega) (by omega) c).2; omega, fun c => by have := (pq_e (by omega) (by omega) c).2; omega, fun c => by have := (pq_e (by omega) (by omega) c).2; omega, fun c => by have := (pq_e (by omega) (by omega) c).2; omega, fun c => pq_n (by omega) c.symm⟩))
  obtain ⟨h9w, h112, sq, plq⟩ : A w 109 q ≠ 3 ∧ A w 112 q = 0 ∧ SCs q m w ∧ m.1 (pq q 5) = w.2.2.1 90 q := by
    rcases wl.2.2.1 q hq with ⟨x1, x2, b', U', B', W', Y', pl', sc', -⟩ | ⟨x1, -⟩
    · refine ⟨x2, ?_, sc', pl'.1.2.2⟩
      show (w.2.2.1 112 q).toInt = 0
      rw [← sc'.2.2.1]
      exact h11
    · exact absurd x1 hal
  have hb15 : 0 ≤ F m (pq q 15) ∧ F m (pq q 15) ≤ 24 := by
    rcases wl.2.2.1 q hq with ⟨x1, x2, b', U', B', W', Y', pl', -⟩ | ⟨x1, -⟩
    · exact (SF_al wl.1 hq x1 pl').2.2.2
    · exact absurd x1 hal
  obtain ⟨⟨e, he⟩, e', he'⟩ := SF_e wl.1 hq hal
  have ei : e = i := by
    have := he.1
    rw [hq9] at this
    omega
  subst ei
  obtain ⟨-, ⟨n0, q1, q2, -, -⟩, -, -⟩ := id wl
  have ej : e' = j0 := by
    rw [hq9] at q1
    have := he'.1
    rw [q2] at this
    omega
  subst ej
  have x33 : F w2 133 = ((p : Nat) : Int) := by rw [FR.F g1.1 (by simp)]; exact r11
  have zx5 : w2.2.2.2 91 (46000 * p + (W + 1)) ≠ mk 1 5 := fun c => h5 (by
    rcases rt with ⟨-, x, -⟩ | ⟨x1, x2, -⟩
    · rw [← x]; exact c
    · rw [c, so_mk (by omega) (by omega)] at x2
      unfold isH at x1
      omega)
  have zx4 : w2.2.2.2 91 (46000 * p + (W + 1)) ≠ mk 1 4 := fun c => h4 (by
    rcases rt with ⟨-, x, -⟩ | ⟨x1, x2, -⟩
    · rw [← x]; exact c
    · rw [c, so_mk (by omega) (by omega)] at x2
      unfold isH at x1
      omega)
  rw [tw95_29, be0, bnd_so, dec_ne h5, br_f, be0, bnd_so, oI, sig_c (by rw [e9]; exact hal) (by rw [e11]; exact h11) (by rw [e9p, q9]; omega) (Ne.symm hqp) h4, prr_8, sub2, tnI (n := p) rfl (by omega), wa_e]
  refine rb_ck (fun _ => rb_ck (fun _ => ?_))
  rw [lt_e, truth1, bnd_so]
  have y92 : A (wa w2 92 p ((W : Nat) : Int)) 92 p = ((W : Nat) : Int) := wa_sm (by omega) (by omega)
  have y33 : F (wa w2 92 p ((W : Nat) : Int)) 133 = ((p : Nat) : Int) := x33
  refine r_bb (r_bnd (pk_mo (put_r (N := N) (x := mk 1 0) (W := W) (by omega) y33 y92 (by omega)) (fun w8 _ e8 => ?_)))
  have g8 : FGw p j w w8 := by rw [e8]; exact FGw.tr (FGw.tr g1 FGw.w92) (FGw.put (by omega))
  have gw8 := GGw_fg g8 hj
  have k98 : A w8 98 (60 * p + j) = ((n + 1 : Nat) : Int) := by rw [e8, wa_rne (by omega), A_wj, wa_rne (by omega)]; exact h98
  have k33 : F w8 133 = ((p : Nat) : Int) := by rw [FR.F g8.1 (by simp)]; exact r11
  have eh : hp w8 p = hp w2 p := by rw [e8]; rfl
  refine r_bb (exr_c (p := p) (by omega) (by rw [FR.A g8.1 (by simp)]; exact h9w) (by rw [FR.A g8.1 (by simp)]; exact h112) k33 (by omega) (Ne.symm hqp) zx5 zx4 (r_bb (l_bb (l_bb (pp_bb (pp_mo (copy_pz (h := m2.2.2.2 (pq p 2)) (ns := U) (ns' := U) pt.1.2.2 hF rfl (by omega) (fun c => hqp ((pq_e (by omega) (by omega) c).1.symm)) (by rw [show hp (wa w8 89 24 0) p = hp w2 p from eh]; exact xc.2.1) (by omega) (by omega) (by omega) (by omega) (by rw [show hp (wa w8 89 24 0) p = hp w2 p from eh]; exact pl.1.2.1.w) rt z1 (by rw [show hp (wa w8 89 24 0) p = hp w2 p from eh]; exact z2) (wi_sm (by omega) (by omega)) (wa_sm (by omega) (by omega)) hs hN) (fun m4 r w9 r2 h => ?_)))))))
  obtain ⟨⟨b2, i2, rt2⟩, ⟨ow2, kd2, fz, hc, szc⟩, ⟨ow3, kd3, fz', hr, szr⟩, ⟨a1, a2⟩, c1, c2, c3⟩ := h
  -- both END
  have m4i : ∀ k, k ≠ pq q 4 → m4.1 k = m2.1 k := fun k hk => by rw [a1.1 k (by simpa using hk), wi_1 hk]
  have m4J : ∀ K, K ≠ pq q 2 → m4.2.2.2 K = m2.2.2.2 K := fun K hK => a1.2.2.2 K (by simpa using hK)
  have m4A : m4.2.2.1 = m2.2.2.1 := funext fun K => a1.2.2.1 K (by simp)
  have m4L : m4.2.1 = m2.2.1 := funext fun K => a1.2.1 K (by simp)
  have x9 : F m4 (pq q 9) ≠ 3 := by
    rw [show F m4 (pq q 9) = F m2 (pq q 9) from congrArg Int32.toInt (m4i _ (pq_inj (by omega))), e9]
    exact hal
  have x955 : F m4 955 = ((e : Nat) : Int) := by
    rw [show F m4 955 = F m2 955 from congrArg Int32.toInt (m4i _ (pq_n (by omega))), show F m2 955 = F m 955 from congrArg Int32.toInt gm1.2.2.1]
    exact he.1
  have y9 : A w9 109 q ≠ 3 := by
    rw [FR.A c1 (by simp)]
    show A (wa w8 89 24 0) 109 q ≠ 3
    rw [wa_rne (by omega), FR.A g8.1 (by simp)]
    exact h9w
  have y150 : F w9 150 = ((e' : Nat) : Int) := by
    rw [FR.F c1 (by simp)]
    show F w8 150 = _
    rw [FR.F g8.1 (by simp)]
    exact he'.1
  rw [endsW_e (e := e) x9 x955 he.2, willE_e (e := e') (by omega) y9 y150 he'.2 (by omega)]
  simp only [bb_e, bnd_so]
  have LM : ∀ d, d ≠ q → LOCm d m2 (enS m4 q r q e) := fun d hd => LOCm.tr (fun k hk => ⟨m4i _ (fun c => hd (pq_e hk (by omega) c).1), by rw [m4L], by rw [m4A], m4J _ (fun c => hd (pq_e hk (by omega) c).1)⟩) (LOCm_en hd)
  have LW : ∀ d, d ≠ q → d < 24 → LOCw d w8 (enR w9 q 0 ((24 : Nat) : Int) r2 e') := fun d hd h24 => ((w89_loc (show d ≠ 24 by omega)).tr2 (cp_loc2 (show d ≠ 24 by omega) c1 c2 c3)).tr2 (LOCw_en hd)
  have v := enS_v (m := m4) (q := q) (t := r) (hm := q) (e := e)
  have a9 := enR_9 (w := w9) (q := q) (wr := 0) (o := 24) (x := r2) (e := e')
  obtain ⟨u1, u2⟩ := enS_q (m := m4) (t := r) (hm := q) (show e < 1000 by omega) (show q < 1000 by omega)
  obtain ⟨v1, v2, v3, v4, v5⟩ := enR_q (w := w9) (x := r2) (wr := 0) (o := 24) (show e' < 10000 by omega) (show q < 1000 by omega) (by omega) ⟨by omega, by omega⟩
  have fr := enR_fr (w := w9) (q := q) (wr := 0) (o := 24) (x := r2) (e := e')
  have em : (∀ k, k < 2000 → k ≠ 955 → (enS m4 q r q e).1 k = m2.1 k) ∧ (∀ k, k < 2000 → (enS m4 q r q e).2.1 k = m2.2.1 k) ∧ ∀ K, K < 2000 → K ≠ 54 → (enS m4 q r q e).2.2.1 K = m2.2.2.1 K := ⟨fun k hk h => by rw [enS_1 (pq_n hk) (pq_n hk) h]; exact m4i k (pq_n hk), fun k hk => by rw [enS_2 (pq_n hk), m4L], fun K hK h => by rw [enS_3 h, m4A]⟩
  have w9A : ∀ K, K ≠ 89 → K ≠ 142 → w9.2.2.1 K = w8.2.2.1 K := fun K h1 h2 => by rw [c1.2.2.1 K (by simp; omega), wa_21 h1]
  have ew : (∀ k, k ≠ 150 → k ≠ 136 → k ≠ 138 → k ≠ 140 → (enR w9 q 0 ((24 : Nat) : Int) r2 e').1 k = w8.1 k) ∧ (∀ K, K < 88 ∨ (118 ≤ K ∧ K ≤ 130) → (enR w9 q 0 ((24 : Nat) : Int) r2 e').2.2.1 K = w8.2.2.1 K) ∧ (enR w9 q 0 ((24 : Nat) : Int) r2 e').2.2.2 34 = w8.2.2.2 34 := ⟨fun k h _ _ _ => (fr.1 k (by simpa using h)).trans (c1.1 k (by simp)), fun K h => (fr.2.2.1 K (by simp; omega)).trans (w9A K (by omega) (by omega)), (fr.2.2.2 34 (by simp)).trans (c1.2.2.2 34 (by simp))⟩
  have sqk : ∀ k, k = 5 ∨ k = 12 ∨ k = 13 ∨ k = 15 → (enS m4 q r q e).1 (pq q k) = m.1 (pq q k) := fun k hk => by
    rw [enS_1 (pq_inj (by omega)) (pq_inj (by omega)) (fun c => pq_n (by omega) c.symm), m4i _ (pq_inj (by omega))]
    exact (gm1.1 q hqp k (by omega)).1
  have qe : QEs (enS m4 q r q e) (enR w9 q 0 ((24 : Nat) : Int) r2 e') q := by
    refine QE_sc sq hb15 plq sqk ?_ (fun K hK => ?_) ?_ ?_
    · rw [enS_3 (fun c => pq_n (by omega) c.symm), m4A]
      exact (gm1.1 q hqp 14 (by omega)).2.2.1
    · rw [fr.2.2.1 K (by simp; omega), w9A K (by omega) (by omega)]
      rcases hK with rfl | rfl | rfl
      · exact (gw8.1 q hqp).2.1 90 (by omega)
      · rw [g8.1.2.2.1 113 (by simp)]
      · rw [g8.1.2.2.1 114 (by simp)]
    · rw [fr.2.2.1 116 (by simp), w9A 116 (by omega) (by omega), g8.1.2.2.1 116 (by simp)]
    · rw [fr.2.2.1 117 (by simp), w9A 117 (by omega) (by omega), g8.1.2.2.1 117 (by simp)]
  have ehE : hp (enR w9 q 0 ((24 : Nat) : Int) r2 e') 24 = hp w9 24 := by
    funext k
    exact congrFun (fr.2.2.2 88 (by simp)) _
  have x148 : (enR w9 q 0 ((24 : Nat) : Int) r2 e').2.2.2 148 e' = r2 := by
    rw [v5, if_pos rfl]
  have rq : RQs Fv P Fv' P' PR (enS m4 q r q e) (enR w9 q 0 ((24 : Nat) : Int) r2 e') q 0 24 ((enR w9 q 0 ((24 : Nat) : Int) r2 e').2.2.2 148 e') := by
    rw [x148]
    refine ⟨q, s, by rw [v.2.1]; exact rf_some (by omega), hq, v.1, Or.inl rfl, ?_, ?_⟩
    · rw [v.2.2]
      refine ⟨by omega, Or.inr ⟨q, b2, s, ow2, kd2, fz, s, ow3, kd3, fz', rfl, ⟨hc, by omega, fun c => by omega⟩, ⟨by rw [ehE]; exact hr, hs, fun c => by omega⟩, by rw [ehE]; exact i2.w, szc, Or.inl ⟨rfl, rt2, by rw [ehE]; exact szr⟩⟩⟩
    · by_cases zh : isH r2
      · refine Or.inr ⟨zh, Or.inl rfl, s, ow3, kd3, ?_, hs, by rw [ehE]; exact hr, SZ_gt szr⟩
        rw [FR.A fr (by simp), c2, if_pos rfl]
      · refine Or.inl ⟨zh, ?_⟩
        rcases SZ_gt szr with g | g
        · exact g.2
        · exact absurd g.1 zh
  have e1 : F (enS m4 q r q e) 955 = ((e + 1 : Nat) : Int) := u1
  have e54 : A (enS m4 q r q e) 54 e = ((q : Nat) : Int) := by rw [u2, if_pos rfl]
  have e145 : A (enR w9 q 0 ((24 : Nat) : Int) r2 e') 145 e' = ((q : Nat) : Int) := by rw [v2, if_pos rfl]
  have e146 : A (enR w9 q 0 ((24 : Nat) : Int) r2 e') 146 e' = 0 := by rw [v3, if_pos rfl]
  have e147 : A (enR w9 q 0 ((24 : Nat) : Int) r2 e') 147 e' = ((24 : Nat) : Int) := by rw [v4, if_pos rfl]
  have k109 : A (enR w9 q 0 ((24 : Nat) : Int) r2 e') 109 q = 3 := by rw [a9, if_pos rfl]
  have kk9 := v.1
  -- the answer
  have lp := LM p (Ne.symm hqp)
  have pl1 : PLs b p (enS m4 q r q e) w2 U B (W + 2) Y := PLs_cg pl (fun k hk => (lp k (by simp at hk; omega)).1) (fun i _ => by rw [(lp 2 (by omega)).2.2.2]) (fun i _ => by rw [(lp 33 (by omega)).2.2.2]) (fun i _ => by rw [(lp 35 (by omega)).2.2.2]) (fun i _ => by rw [(lp 6 (by omega)).2.2.2]) (fun _ _ => rfl) (fun _ _ => rfl) (fun _ _ => rfl) (fun _ _ => rfl) (fun _ _ => rfl)
  have f45 : F (enS m4 q r q e) (pq p 45) = ((l : Nat) : Int) := (congrArg Int32.toInt (lp 45 (by omega)).1).trans hl
  have f05 : F (enS m4 q r q e) 1105 = ((a : Nat) : Int) := (congrArg Int32.toInt (em.1 1105 (by omega) (by omega))).trans h05
  have lw := LW p (Ne.symm hqp) (by omega)
  have k98' : A (enR w9 q 0 ((24 : Nat) : Int) r2 e') 98 (60 * p + j) = ((n + 1 : Nat) : Int) := by
    rw [← k98]
    exact congrArg Int32.toInt (lw.1 98 _ (Or.inr (Or.inl ⟨⟨by omega, by omega⟩, by omega, by omega⟩)))
  have e2 : F (enR w9 q 0 ((24 : Nat) : Int) r2 e') 150 = ((e' + 1 : Nat) : Int) := v1
  generalize hmE : enS m4 q r q e = mE at LM em qe rq e1 e54 kk9 lp pl1 f45 f05
  generalize hwE : enR w9 q 0 ((24 : Nat) : Int) r2 e' = wE at LW ew qe rq e145 e146 e147 k109 lw k98' e2
  have pd := PLs_drop (k := 2) (W := W) pl1 (by omega)
  unfold hb_Ma_toward_335 hm_Ma_answer hb_Ma_answer_0
  rw [show (2 : Int32) = I 2 from rfl, drop_e (W := W + 2) (k := 2) (x := 2) pl1.2.2.1.1 rfl (by omega), bnd_so, show W + 2 - 2 = W by omega]
  simp only [bb_e, bnd_so]
  have e26' : F (wi mE (pq p 26) ((W : Nat) : Int)) (pq p 26) = ((W : Nat) : Int) := wi_sm (by omega) (by omega)
  have e45' : F (wi mE (pq p 26) ((W : Nat) : Int)) (pq p 45) = ((l : Nat) : Int) := by rw [wi_ne (pq_inj (by omega))]; exact f45
  refine l_bnd (pk_mo (push_m (N := N) (t := mk 1 0) e26' e45' (by omega) hl2.2) (fun m8 _ h => ?_))
  obtain ⟨y1, y2, y3⟩ := h
  have k05 : F m8 1105 = ((a : Nat) : Int) := by rw [FR.F y1 (by simp [pq_n]), wi_ne (pq_n (by omega))]; exact f05
  rw [I_F' k05, show I ((a : Nat) : Int) + I 2 = I ((a + 2 : Nat) : Int) from addN, wi_e]
  have n1 : ¬ isH (mk 1 0) := nh_mk (by omega)
  have n6 : so (mk 1 0) = 6 → va (mk 1 0) = 0 := fun c => by rw [so_mk (by omega) (by omega)] at c; omega
  have pl3 := PLs_pc (z := ((a + 2 : Nat) : Int)) (PLs_push (x := mk 1 0) pd (RTb_lit n1 n6) y1 y2 y3)
  rw [← e8] at pl3
  have pl4 : PLs b p (wi m8 1105 ((a + 2 : Nat) : Int)) wE U B (W + 1) Y := by
    refine PLs_cg pl3 (fun _ _ => rfl) (fun _ _ => rfl) (fun _ _ => rfl) (fun _ _ => rfl) (fun _ _ => rfl) (fun k hk => ?_) (fun i hi => lw.2.2.2.2.1 _ (by omega) (by omega)) (fun i hi => lw.2.2.2.2.2.2.1 _ (by omega) (by omega)) (fun i hi => lw.2.2.2.2.2.1 _ (by omega) (by omega)) (fun i hi => lw.2.2.2.2.2.2.2 _ (by omega) (by omega))
    simp only [List.mem_cons, List.not_mem_nil, or_false] at hk
    rcases hk with rfl | rfl | rfl | rfl | rfl
    · exact lw.2.1 89 (by omega)
    · exact lw.2.1 90 (by omega)
    · exact lw.1 92 p (Or.inl ⟨by omega, rfl⟩)
    · exact lw.1 94 p (Or.inl ⟨by omega, rfl⟩)
    · exact lw.2.1 108 (by omega)
  have f3 : FGm p mE (wi m8 1105 ((a + 2 : Nat) : Int)) := FGm.tr (FGm.tr FGm.drop (FGm.push y1)) FGm.pc
  obtain ⟨ru3, w3, g1', g2'⟩ := exq_end hpp hq hqp hal wl hq9 ru sc f1 g8 LM LW em ew f3 pl4 (wi_sm (by omega) (by omega)) k98' cr e1 e54 e2 e145 e146 e147 ⟨kk9, k109⟩ rq qe
  exact c _ _ w3 pl4 ru3 g1' g2'
end
