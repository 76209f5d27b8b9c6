/-! exit, toward another that traps: a message comes -/
set_option maxRecDepth 100000
section
variable {b b' : Int → Nat → Nat → Prop} {Fv Fv' : Int64 → Int64 → Prop} {P P' : Int64 → Prop} {N PR p q i j0 U B W Y U' B' W' Y' j jj a n a2 n2 o : Nat} {m w m2 w2 w8 mE wE m3 : MS} {nb : Nat → Nat} {Hs Os : Nat → List Nat} {y : Option (Nat × Nat × Nat)}
/-- the world behind a step of p in which something of q changes, where no end waits -/
theorem WL_livc (wl : WLs (RRt p) PR Fv P Fv' P' none i j m w) (hal : F m (pq p 9) ≠ 3) (halq : F m (pq q 9) ≠ 3) (hqp : q ≠ p) (hq : F m 955 = ((i : Nat) : Int)) (s2 : SFs Fv P Fv' P' PR m2 w2) (D : ∀ d, d ≠ p → d ≠ q → LOCm d m m2 ∧ (d < PR → LOCw d w w2)) (pg : PG0 m w m2 w2) (e1 : F m2 955 = ((i : Nat) : Int)) (e2 : F w2 150 = F w 150) (k9 : F m2 (pq q 9) ≠ 3 ∧ A w2 109 q ≠ 3) (alq : PLs b' q m2 w2 U' B' W' Y' ∧ SCs q m2 w2 ∧ WTr q m2 w2) (pl : PLs b p m2 w2 U B W Y) (sc2 : SCs p m2 w2) (ru : RUs m2 w2 p jj nb Hs Os y a n) : WLs (RRp p) PR Fv P Fv' P' none i j m2 w2 := by
  obtain ⟨sf, ⟨n0, q1, q2, -, -⟩, pr, -⟩ := id wl
  have hn0 : n0 = 0 := by
    rw [hq] at q1
    omega
  subst hn0
  have f9 : ∀ d, d ≠ p → d ≠ q → F m2 (pq d 9) = F m (pq d 9) := fun d hd h2 => congrArg Int32.toInt ((D d hd h2).1 9 (by omega)).1
  have a9 : ∀ d, d ≠ p → d ≠ q → d < PR → A w2 109 d = A w 109 d := fun d hd h2 h3 => congrArg Int32.toInt (((D d hd h2).2 h3).1 109 d (Or.inl ⟨by omega, rfl⟩))
  refine ⟨s2, ⟨0, by rw [e1]; rfl, by rw [e2]; exact q2, fun k hk => absurd hk (Nat.not_lt_zero k), fun k l hk hl _ => absurd hk (Nat.not_lt_zero k)⟩, fun r hr => ?_, RRp_stb⟩
  by_cases rn : r = q
  · subst rn
    exact Or.inl ⟨k9.1, k9.2, b', U', B', W', Y', alq.1, alq.2.1, Or.inr ⟨hqp, alq.2.2⟩⟩
  by_cases rq' : r = p
  · subst rq'
    exact Or.inl ⟨by rw [ru.2.2.2.1.1]; omega, by rw [ru.2.2.2.1.2]; omega, b, U, B, W, Y, pl, sc2, Or.inl ⟨rfl, jj, nb, Hs, Os, y, a, n, ru⟩⟩
  obtain ⟨l1, l2'⟩ := D r rq' rn
  have l2 := l2' hr
  rcases pr r hr with ⟨x1, x2, b', U', B', W', Y', pl', sc', rr⟩ | ⟨x1, x2, x⟩
  · obtain ⟨-, -, ⟨b1, b2, b3⟩, b4⟩ := SF_al sf hr x1 pl'
    have hU := pl'.1.1.2.2
    have rr2 : WTr r m w := by
      rcases rr with rr | rr
      · exact absurd rr rq'
      · exact rr
    obtain ⟨t1, t2, t3⟩ := AL_loc ⟨pl', sc', rr2⟩ ⟨hU, b1, b2, b3, b4.2⟩ pg l1 l2
    exact Or.inl ⟨by rw [f9 r rq' rn]; exact x1, by rw [a9 r rq' rn hr]; exact x2, b', U', B', W', Y', t1, t2, Or.inr ⟨rq', t3⟩⟩
  · refine Or.inr ⟨by rw [f9 r rq' rn]; exact x1, by rw [a9 r rq' rn hr]; exact x2, Or.inr (Or.inr ?_)⟩
    rcases x with x | ⟨k, k1, k2, -⟩ | x
    · cases x
    · rw [hq] at k2
      omega
    · refine DEs_st2 x pg l1 l2 (fun d hd h3 => ?_)
      have dp : d ≠ p := fun c => hal (by rw [← c]; exact h3)
      have dn : d ≠ q := fun c => halq (by rw [← c]; exact h3)
      exact ⟨by rw [f9 d dp dn]; exact h3, ((D d dp dn).1 2 (by omega)).2.2.2⟩
/-- something of q changes in a step of p, q lives on: the world, the run -/
theorem exq_liv (hpp : p < PR) (hq : q < PR) (hqp : q ≠ p) (hal : F m (pq q 9) ≠ 3) (wl : WLs (RRp p) PR Fv P Fv' P' none i j0 m w) (hq9 : F m 955 = ((i : Nat) : Int)) (ru : RUs m w p j nb Hs Os y a n) (sc : SCs p m w) (f1 : FGm p m m2) (g8 : FGw p j w w8) (Lm : ∀ d, d ≠ q → LOCm d m2 mE) (Lw : ∀ d, d ≠ q → d < 24 → LOCw d w8 wE)
    (em : (∀ k, k < 2000 → k ≠ 955 → mE.1 k = m2.1 k) ∧ (∀ k, k < 2000 → mE.2.1 k = m2.2.1 k) ∧ ∀ K, K < 2000 → K ≠ 54 → mE.2.2.1 K = m2.2.2.1 K) (ew : (∀ k, k ≠ 150 → k ≠ 136 → k ≠ 138 → k ≠ 140 → wE.1 k = w8.1 k) ∧ (∀ K, K < 88 ∨ (118 ≤ K ∧ K ≤ 130) → wE.2.2.1 K = w8.2.2.1 K) ∧ wE.2.2.2 34 = w8.2.2.2 34) (f3 : FGm p mE m3) (pl3 : PLs b p m3 wE U B W Y) (h05 : F m3 1105 = ((a2 : Nat) : Int)) (h98 : A wE 98 (60 * p + j) = ((n2 : Nat) : Int)) (cr : ∃ f, CRs (A m 23) (ROs w) (w.2.2.2 34) f y a2 n2 (Hs j) (Os j))
    (e1 : F mE 955 = F m2 955) (e2 : F wE 150 = F w8 150) (k9 : F mE (pq q 9) ≠ 3 ∧ A wE 109 q ≠ 3) (alq : PLs b' q mE wE U' B' W' Y' ∧ SCs q mE wE ∧ WTr q mE wE) (bq : W' ≤ 46000 ∧ B' ≤ 2500 ∧ Y' ≤ 30 ∧ F mE (pq q 15) ≤ 24) :
    RUs m3 wE p j nb Hs Os y a2 n2 ∧ (SFs Fv P Fv' P' PR m3 wE → WLs (RRp p) PR Fv P Fv' P' none i j0 m3 wE) ∧ EGm m m3 ∧ EGw w wE := by
  obtain ⟨⟨fa, -⟩, -, -, ⟨q9, q9w⟩, -, -, r11, -, -⟩ := id ru
  have hj : j < 60 := fa.1.2.2
  have p24 : PR ≤ 24 := wl.1.2.1.1.1.2
  obtain ⟨em1, em2, em3⟩ := em
  obtain ⟨ew1, ew2, ew3⟩ := ew
  have gm1 := GGm_fg f1
  have gm3 := GGm_fg f3
  have gw8 := GGw_fg g8 hj
  have eqm : EQm p m (swM p m mE) := swM_eq f1 (Lm p (Ne.symm hqp)) (em3 23 (by omega) (by omega))
  have eqw : EQw p w (swW p j w wE) := swW_eq g8 (Lw p (Ne.symm hqp) (by omega)) (fun K hK => ew2 K (by unfold PRr at hK; omega)) ew3
  have fB : FGm p (swM p m mE) m3 := FGm.tr swM_fg f3
  have gB : FGw p j (swW p j w wE) wE := swW_fg
  have s1 : ∀ k, k < 2000 → k ≠ 955 → (swM p m mE).1 k = m.1 k := fun k hk h => by
    show (if k = pq p 4 ∨ k = pq p 5 ∨ k = pq p 26 ∨ k = pq p 45 ∨ k = 1105 then m.1 k else mE.1 k) = _
    by_cases c : k = pq p 4 ∨ k = pq p 5 ∨ k = pq p 26 ∨ k = pq p 45 ∨ k = 1105
    · rw [if_pos c]
    · rw [if_neg c, em1 k hk h]
      exact f1.1 k (by simpa using c)
  have s2 : ∀ k, k < 2000 → (swM p m mE).2.1 k = m.2.1 k := fun k hk => (em2 k hk).trans (f1.2.1 k (by simp))
  have s3 : ∀ K, K < 2000 → K ≠ 54 → (swM p m mE).2.2.1 K = m.2.2.1 K := fun K hK h => (em3 K hK h).trans (f1.2.2.1 K (by simp))
  have bw : ∀ k, k ≠ 150 → k ≠ 136 → k ≠ 138 → k ≠ 140 → (swW p j w wE).1 k = w.1 k := fun k h0 h1 h2 h3 => by rw [swW_1 ⟨h1, h2, h3⟩, ew1 k h0 h1 h2 h3]; exact g8.1.1 k (by simp; omega)
  have bA : ∀ K, K < 88 ∨ (118 ≤ K ∧ K ≤ 130) → (swW p j w wE).2.2.1 K = w.2.2.1 K := fun K h => funext fun i => by rw [swW_A (fun c => by unfold owP at c; omega), ew2 K (by omega)]; exact congrFun (g8.1.2.2.1 K (by simp; omega)) i
  have pg : PGs m w (swM p m mE) (swW p j w wE) := ⟨⟨⟨s3 23 (by omega) (by omega), s1 22 (by omega) (by omega), ATc_eq (s3 2 (by omega) (by omega)) (s3 3 (by omega) (by omega))⟩, eqw.2.2.1, eqw.2.2.2, bA 12 (by omega), bA 13 (by omega), bw 14 (by omega) (by omega) (by omega) (by omega)⟩, fun k h1 h2 => ⟨s1 k (by omega) (by omega), s2 k (by omega)⟩, fun k h => bw k (by omega) (by omega) (by omega) (by omega)⟩
  have ruB := RUs_st ru eqm.n eqw.v pg
  have hb15 : F m (pq p 15) ≤ 24 := by
    rcases wl.2.2.1 p hpp with ⟨x1, x2, b', U', B', W', Y', pl', -⟩ | ⟨x1, -⟩
    · exact (SF_al wl.1 hpp x1 pl').2.2.2.2
    · rw [q9] at x1
      omega
  have scB := SC_eq sc hb15 eqm eqw
  have crB : ∃ f, CRs (A (swM p m mE) 23) (ROs (swW p j w wE)) ((swW p j w wE).2.2.2 34) f y a2 n2 (Hs j) (Os j) := by
    rw [show A (swM p m mE) 23 = A m 23 from by funext k; show ((swM p m mE).2.2.1 23 k).toInt = _; rw [s3 23 (by omega) (by omega)]; rfl, ROs_eq (w := w) eqw.2.2.1, eqw.2.2.2]
    exact cr
  have ru3 := RUs_mv (a2 := a2) (n2 := n2) ruB fB gB h05 h98 crB
  refine ⟨ru3, fun s3' => ?_, ⟨fun K h1 h2 => ?_, fun k h1 h2 => ?_⟩, fun K h => (ew2 K h).trans (gw8.2.2.2.2.2.1 K h), fun k h => (ew1 k (by omega) (by omega) (by omega) (by omega)).trans (gw8.2.2.2.2.2.2 k h)⟩
  · have f9 : ∀ d, d ≠ p → F m3 (pq d 9) = F mE (pq d 9) := fun d hd => congrArg Int32.toInt (gm3.1 d hd 9 (by omega)).1
    have pgE : PG0 mE wE m3 wE := ⟨⟨gm3.2.1.1, gm3.2.1.2.1, ATc_eq gm3.2.1.2.2.1 gm3.2.1.2.2.2⟩, fun _ _ => rfl, rfl, rfl, rfl, rfl⟩
    refine WL_livc (WL_t wl) (by rw [q9]; omega) hal hqp hq9 s3' (fun d h1 h2 => ⟨LOCm.tr (LOCm.tr (gm1.1 d h1) (Lm d h2)) (gm3.1 d h1), fun h3 => (gw8.1 d h1).tr2 (Lw d h2 (by omega))⟩) ?_ ?_ ?_ ⟨by rw [f9 q hqp]; exact k9.1, k9.2⟩ (AL_loc alq ⟨alq.1.1.1.2.2, bq⟩ pgE (gm3.1 q hqp) LOCw.rf) pl3 (SC_fg scB fB gB) ru3
    · exact ⟨⟨gm3.2.1.1.trans ((em3 23 (by omega) (by omega)).trans gm1.2.1.1), gm3.2.1.2.1.trans ((em1 22 (by omega) (by omega)).trans gm1.2.1.2.1), ATc_eq (gm3.2.1.2.2.1.trans ((em3 2 (by omega) (by omega)).trans gm1.2.1.2.2.1)) (gm3.2.1.2.2.2.trans ((em3 3 (by omega) (by omega)).trans gm1.2.1.2.2.2))⟩, fun K hK => (ew2 K (by unfold PRr at hK; omega)).trans (gw8.2.1.1 K hK), ew3.trans gw8.2.1.2.1, (ew2 12 (by omega)).trans gw8.2.1.2.2.1, (ew2 13 (by omega)).trans gw8.2.1.2.2.2.1, (ew1 14 (by omega) (by omega) (by omega) (by omega)).trans gw8.2.1.2.2.2.2⟩
    · rw [show F m3 955 = F mE 955 from congrArg Int32.toInt gm3.2.2.1, e1, show F m2 955 = F m 955 from congrArg Int32.toInt gm1.2.2.1]
      exact hq9
    · rw [e2, show F w8 150 = F w 150 from congrArg Int32.toInt gw8.2.2.1]
  · rw [gm3.2.2.2.2.2.1 K h1, em3 K (by omega) h2, gm1.2.2.2.2.2.1 K h1]
  · rw [gm3.2.2.2.2.2.2 k h1, em1 k (by omega) h2, gm1.2.2.2.2.2.2 k h1]
end
section
variable {α β : Type} {N p q : Nat} {m w : MS} {t x : Int64} {Q : MS → α → MS → β → Prop} {D : Option (MS × α)} {K : MS → Unit → Option (MS × β)}
/-- there -/
theorem sig_t (h9 : F m (pq q 9) ≠ 3) (h11 : F m (pq q 11) ≠ 0) {z : Int32} : hm_Wl_signal N m z q t (some p) = bnd (hm_Wl_post N m q 4 z 0 t (some p)) (fun u _ => some (u, ())) := by
  have r9 := F_r m (pq q 9)
  have r11 := F_r m (pq q 11)
  unfold hm_Wl_signal hb_Wl_signal_0
  rw [I_F (k := pq q 9), show decide (I (F m (pq q 9)) = 3) = false from by rw [show (3 : Int32) = I 3 from rfl, decE r9.1 r9.2 (by omega) (by omega)]; exact decide_eq_false h9, br_f, I_F (k := pq q 11), show decide (I (F m (pq q 11)) = 0) = false from by rw [show (0 : Int32) = I 0 from rfl, decE r11.1 r11.2 (by omega) (by omega)]; exact decide_eq_false h11, br_f]
/-- here -/
theorem exr_t (hq : q < 24) (h9 : A w 109 q ≠ 3) (h112 : A w 112 q ≠ 0) (x33 : F w 133 = ((p : Nat) : Int)) (h5 : x ≠ mk 1 5) (h : PP Q D (bnd (bnd (fm_M_message N w (I ((q : Nat) : Int)) (I ((0 : Nat) : Int)) (I 0) (I ((p : Nat) : Int)) (I 0) (I ((p : Nat) : Int)) x) (fun u _ => some (u, ()))) K)) : PP Q D (bnd (fm_M_exitRun N w (I ((q : Nat) : Int)) x) K) := by
  have r9 := A_r w 109 q
  have r112 := A_r w 112 q
  unfold fm_M_exitRun fb_M_exitRun_0 fb_M_exitRun_111
  refine rb_ck (fun _ => ?_)
  rw [tnI (n := q) rfl (by omega), I_A (k := 109), show decide (I (A w 109 q) = 3) = false from by rw [show (3 : Int32) = I 3 from rfl, decE r9.1 r9.2 (by omega) (by omega)]; exact decide_eq_false h9, br_f, show fm_M_term N w 1 5 = some (w, mk 1 5) from rfl, rb_bnd_so, dec_ne h5, br_f]
  refine rb_ck (fun _ => ?_)
  rw [I_A (k := 112), show decide (I (A w 112 q) = 0) = false from by rw [show (0 : Int32) = I 0 from rfl, decE r112.1 r112.2 (by omega) (by omega)]; exact decide_eq_false h112, br_f, I_F' x33]
  exact h
end
section
variable {α β : Type} {b : Int → Nat → Nat → Prop} {Fv Fv' : Int64 → Int64 → Prop} {P P' : Int64 → Prop} {N PR p q i j0 U B W Y l j a n s f f' : Nat} {ow kd ow' kd' : Nat → Nat} {m w m2 w2 : MS} {nb : Nat → Nat} {Hs Os : Nat → List Nat} {y : Option (Nat × Nat × Nat)} {Q : MS → α → MS → β → Prop} {K1 : MS → Option (MS × α)} {K2 : MS → Option (MS × β)}
/-- another, which traps, is told -/
theorem op_exitT (hpp : p < PR) (hq : q < PR) (hqp : q ≠ p) (hal : F m (pq q 9) ≠ 3) (h11 : F m (pq q 11) ≠ 0) (wl : WLs (RRp p) PR Fv P Fv' P' none i j0 m w) (hq9 : F m 955 = ((i : Nat) : Int)) (ru : RUs m w p j nb Hs Os y a n) (sc : SCs p m w) (hW : W + 2 ≤ 46000) (hBY : B ≤ 2500 ∧ Y ≤ 30) (hl : F m2 (pq p 45) = ((l : Nat) : Int)) (hl2 : W + 2 ≤ l ∧ l ≤ 1000000) (pl : PLs b p m2 w2 U B (W + 2) Y) (pt : PTQ m2 p U ow kd Fv P B (W + 2) Y) (hF : FVc Fv) (xc : CX w2 p (hp w2 p) U ow' kd' Fv' P' (W + 2) B Y) (sf2 : SFs Fv P Fv' P' PR m2 w2) (z1 : SZc (m2.2.2.2 (pq p 2)) U ow kd Fv P f (m2.2.2.2 (pq p 35) (W + 1)) s) (z2 : SZ (hp w2 p) U ow' kd' Fv' P' f' (w2.2.2.2 91 (46000 * p + (W + 1))) s) (hN : 3000000 ≤ N) (f1 : FGm p m m2) (h05 : F m2 1105 = ((a : Nat) : Int)) (g1 : FGw p j w w2) (h98 : A w2 98 (60 * p + j) = ((n + 1 : Nat) : Int)) (cr : ∃ f, CRs (A m 23) (ROs w) (w.2.2.2 34) f y (a + 2) (n + 1) (Hs j) (Os j)) (h5 : m2.2.2.2 (pq p 35) (W + 1) ≠ mk 1 5)
    (c : ∀ m3 w3, (SFs Fv P Fv' P' PR m3 w3 → WLs (RRp p) PR Fv P Fv' P' none i j0 m3 w3) → PLs b p m3 w3 U B (W + 1) Y → RUs m3 w3 p j nb Hs Os y (a + 2) (n + 1) → EGm m m3 → EGw w w3 → PP Q (K1 m3) (K2 w3)) : PP Q (bnd (hb_Ma_toward_95 N () m2 p (I 29) 2 (some q)) (fun u _ => K1 u)) (bnd (fb_M_processRun_151 N () w2 (I 8) (w2.2.2.2 91 (46000 * p + (W + 1))) (I ((q : Nat) : Int)) 92 (I ((p : Nat) : Int)) (I ((W + 2 : Nat) : Int)) 2) (fun u _ => K2 u)) := by
  obtain ⟨⟨fa, -⟩, -, -, ⟨q9, q9w⟩, -, -, r11, -, -⟩ := id ru
  have hj : j < 60 := fa.1.2.2
  have p24 : PR ≤ 24 := wl.1.2.1.1.1.2
  have cb2 : a + 2 + 1 < 24000 := by
    obtain ⟨f9, cr9⟩ := cr
    exact (CR_b cr9).1
  have hU := pl.1.1.2.2
  have rt := pl.2.2.1.2.2 (W + 1) (by omega)
  have be0 : hm_Fr_below N m2 p 0 = some (m2, m2.2.2.2 (pq p 35) (W + 1)) := by
    have := below_e (N := N) (x := 0) (k := 0) (W := W + 2) (l := l) pl.2.2.1.1 hl hl2.1 hl2.2 rfl (by omega)
    rw [show W + 2 - 1 - 0 = W + 1 by omega] at this
    exact this
  have gm1 := GGm_fg f1
  have e9 : F m2 (pq q 9) = F m (pq q 9) := congrArg Int32.toInt (gm1.1 q hqp 9 (by omega)).1
  have e11 : F m2 (pq q 11) = F m (pq q 11) := congrArg Int32.toInt (gm1.1 q hqp 11 (by omega)).1
  have p0q : p ≠ q := Ne.symm hqp
  have x33 : F w2 133 = ((p : Nat) : Int) := by rw [FR.F g1.1 (by simp)]; exact r11
  have zx5 : w2.2.2.2 91 (46000 * p + (W + 1)) ≠ mk 1 5 := fun c => h5 (by
    rcases rt with ⟨-, x, -⟩ | ⟨x1, x2, -⟩
    · rw [← x]; exact c
    · rw [c, so_mk (by omega) (by omega)] at x2
      unfold isH at x1
      omega)
  obtain ⟨⟨e, he⟩, e', he'⟩ := SF_e wl.1 hq hal
  have ei : e = i := by
    have := he.1
    rw [hq9] at this
    omega
  subst ei
  obtain ⟨-, ⟨n0, q1, q2, -, -⟩, -, -⟩ := id wl
  have ej : e' = j0 := by
    rw [hq9] at q1
    have := he'.1
    rw [q2] at this
    omega
  subst ej
  rw [tw95_29, be0, bnd_so, dec_ne h5, br_f, be0, bnd_so, oI, sig_t (by rw [e9]; exact hal) (by rw [e11]; exact h11), prr_8, sub2, tnI (n := p) rfl (by omega), wa_e]
  refine rb_ck (fun _ => rb_ck (fun _ => ?_))
  rw [lt_e, truth1, bnd_so]
  have y92 : A (wa w2 92 p ((W : Nat) : Int)) 92 p = ((W : Nat) : Int) := wa_sm (by omega) (by omega)
  have y33 : F (wa w2 92 p ((W : Nat) : Int)) 133 = ((p : Nat) : Int) := x33
  refine r_bb (r_bnd (pk_mo (put_r (N := N) (x := mk 1 0) (W := W) (by omega) y33 y92 (by omega)) (fun w8 _ e8 => ?_)))
  have g8 : FGw p j w w8 := by rw [e8]; exact FGw.tr (FGw.tr g1 FGw.w92) (FGw.put (by omega))
  have g28 : FGw p j w2 w8 := by rw [e8]; exact FGw.tr FGw.w92 (FGw.put (by omega))
  have gw8 := GGw_fg g8 hj
  have gw28 := GGw_fg g28 hj
  have k98 : A w8 98 (60 * p + j) = ((n + 1 : Nat) : Int) := by rw [e8, wa_rne (by omega), A_wj, wa_rne (by omega)]; exact h98
  have k33 : F w8 133 = ((p : Nat) : Int) := by rw [FR.F g8.1 (by simp)]; exact r11
  have eh : ∀ d, hp w8 d = hp w2 d := fun d => by rw [e8]; rfl
  -- q, as it was
  obtain ⟨h9w, h112, bq, Uq, Bq, Wq, Yq, plq, scq, wtq⟩ : A w 109 q ≠ 3 ∧ A w 112 q ≠ 0 ∧ ∃ bq Uq Bq Wq Yq, PLs bq q m w Uq Bq Wq Yq ∧ SCs q m w ∧ WTr q m w := by
    rcases wl.2.2.1 q hq with ⟨x1, x2, b', U', B', W', Y', pl', sc', rr⟩ | ⟨x1, -⟩
    · refine ⟨x2, ?_, b', U', B', W', Y', pl', sc', ?_⟩
      · show (w.2.2.1 112 q).toInt ≠ 0
        rw [← sc'.2.2.1]
        exact h11
      · rcases rr with ⟨c, -⟩ | ⟨-, rr⟩
        · exact absurd c hqp
        · exact rr
    · exact absurd x1 hal
  obtain ⟨-, -, ⟨b1, b2, b3⟩, b4⟩ := SF_al wl.1 hq hal plq
  have hUq := plq.1.1.2.2
  have al8 := AL_loc ⟨plq, scq, wtq⟩ ⟨hUq, b1, b2, b3, b4.2⟩ (PG0_gg gm1 gw8) (gm1.1 q hqp) (gw8.1 q hqp)
  have al2 := AL_loc ⟨plq, scq, wtq⟩ ⟨hUq, b1, b2, b3, b4.2⟩ (PG0_gg gm1 (GGw_fg g1 hj)) (gm1.1 q hqp) ((GGw_fg g1 hj).1 q hqp)
  obtain ⟨⟨owq, kdq, ptq⟩, ⟨owq', kdq', cwq⟩, -, b15⟩ := SF_al sf2 hq (by rw [e9]; exact hal) al2.1
  have cw8 : CX w8 q (hp w8 q) Uq owq' kdq' Fv' P' Wq Bq Yq := by
    obtain ⟨x1, x2, x3, x4, ⟨x5, x5'⟩, ⟨x6, x6'⟩, ⟨x7, x7'⟩, x8, x9, x10, x11⟩ := cwq
    have lq := gw28.1 q hqp
    refine ⟨rfl, by rw [eh q]; exact x2, x3, x4, ⟨?_, x5'⟩, ⟨?_, x6'⟩, ⟨?_, x7'⟩, fun i hi => ?_, fun i hi => ?_, fun i hi => ?_, fun c => ?_⟩
    · rw [← x5]; exact congrArg Int32.toInt (lq.1 92 q (Or.inl ⟨by omega, rfl⟩))
    · rw [← x6]; exact congrArg Int32.toInt (lq.1 94 q (Or.inl ⟨by omega, rfl⟩))
    · rw [← x7]; exact congrArg Int32.toInt (lq.2.1 108 (by omega))
    · rw [lq.2.2.2.2.2.1 _ (by omega) (by omega)]; exact x8 i hi
    · rw [lq.2.2.2.2.2.2.1 _ (by omega) (by omega)]; exact x9 i hi
    · rw [lq.2.2.2.2.2.2.2 _ (by omega) (by omega)]; exact x10 i hi
    · have e140 : F w8 140 = F w2 140 := by rw [e8]; rfl
      have e139 : w8.2.1 139 = w2.2.1 139 := by rw [e8]; rfl
      rw [e140] at c
      rw [e139]
      exact x11 c
  have cx2 : CTX Fv P m2 := sf2.1.2
  have srq : SRs Fv P Fv' P' m2 w8 q Uq (some p) (m2.2.2.2 (pq p 35) (W + 1)) 0 p (w2.2.2.2 91 (46000 * p + (W + 1))) s := ⟨by omega, Or.inr ⟨p, b, U, ow, kd, f, U, ow', kd', f', rfl, ⟨pt.1.2.2, by omega, fun c => absurd c p0q⟩, ⟨by rw [eh p]; exact xc.2.1, hU, fun c => absurd c p0q⟩, by rw [eh p]; exact pl.1.2.1.w, z1, Or.inl ⟨rfl, rt, by rw [eh p]; exact z2⟩⟩⟩
  have he2 : F m2 955 = ((e : Nat) : Int) ∧ e < 24 := ⟨(congrArg Int32.toInt gm1.2.2.1).trans he.1, he.2⟩
  have he8 : F w8 150 = ((e' : Nat) : Int) ∧ e' < 4000 := ⟨(congrArg Int32.toInt gw8.2.2.1).trans he'.1, he'.2⟩
  refine r_bb (exr_t (p := p) (by omega) (by rw [FR.A g8.1 (by simp)]; exact h9w) (by rw [FR.A g8.1 (by simp)]; exact h112) k33 zx5 (r_bb (l_bb (l_bb (pp_bb (pp_mo (post_pp (N := N) (a := 4) (sort := 0) (v3 := ((p : Nat) : Int)) (v4 := 0) (e := e) (e' := e') (Or.inr (Or.inl ⟨rfl, rfl⟩)) (by omega) (by rw [e9]; exact hal) (by rw [FR.A g8.1 (by simp)]; exact h9w) al8.1 ptq cx2 cw8 (Or.inl ⟨srq, fun c => p0q (by injection c), Or.inr p0q⟩) he2 he8 (by omega)) (fun m4 _ w9 _ h => ?_)))))))
  simp only [bnd_so]
  -- the answer, whatever came of it
  have fin : (∀ d, d ≠ q → LOCm d m2 m4) → (∀ d, d ≠ q → d < 24 → LOCw d w8 w9) → F m4 1105 = F m2 1105 → (∀ m3, FGm p m4 m3 → PLs b p m3 w9 U B (W + 1) Y → F m3 1105 = ((a + 2 : Nat) : Int) → A w9 98 (60 * p + j) = ((n + 1 : Nat) : Int) → RUs m3 w9 p j nb Hs Os y (a + 2) (n + 1) ∧ (SFs Fv P Fv' P' PR m3 w9 → WLs (RRp p) PR Fv P Fv' P' none e e' m3 w9) ∧ EGm m m3 ∧ EGw w w9) → PP Q (bnd (hb_Ma_toward_335 N () m4 p 2 (mk 1 0)) (fun u _ => K1 u)) (K2 w9) := fun LM LW k5 kk => by
    have lp := LM p p0q
    have lw := LW p p0q (by omega)
    have pl1 : PLs b p m4 w2 U B (W + 2) Y := PLs_cg pl (fun k hk => (lp k (by simp at hk; omega)).1) (fun i _ => by rw [(lp 2 (by omega)).2.2.2]) (fun i _ => by rw [(lp 33 (by omega)).2.2.2]) (fun i _ => by rw [(lp 35 (by omega)).2.2.2]) (fun i _ => by rw [(lp 6 (by omega)).2.2.2]) (fun _ _ => rfl) (fun _ _ => rfl) (fun _ _ => rfl) (fun _ _ => rfl) (fun _ _ => rfl)
    have f45 : F m4 (pq p 45) = ((l : Nat) : Int) := (congrArg Int32.toInt (lp 45 (by omega)).1).trans hl
    have f05 : F m4 1105 = ((a : Nat) : Int) := k5.trans h05
    have k98' : A w9 98 (60 * p + j) = ((n + 1 : Nat) : Int) := by
      rw [← k98]
      exact congrArg Int32.toInt (lw.1 98 _ (Or.inr (Or.inl ⟨⟨by omega, by omega⟩, by omega, by omega⟩)))
    have pd := PLs_drop (k := 2) (W := W) pl1 (by omega)
    unfold hb_Ma_toward_335 hm_Ma_answer hb_Ma_answer_0
    rw [show (2 : Int32) = I 2 from rfl, drop_e (W := W + 2) (k := 2) (x := 2) pl1.2.2.1.1 rfl (by omega), bnd_so, show W + 2 - 2 = W by omega]
    simp only [bb_e, bnd_so]
    have e26' : F (wi m4 (pq p 26) ((W : Nat) : Int)) (pq p 26) = ((W : Nat) : Int) := wi_sm (by omega) (by omega)
    have e45' : F (wi m4 (pq p 26) ((W : Nat) : Int)) (pq p 45) = ((l : Nat) : Int) := by rw [wi_ne (pq_inj (by omega))]; exact f45
    refine l_bnd (pk_mo (push_m (N := N) (t := mk 1 0) e26' e45' (by omega) hl2.2) (fun m8 _ h => ?_))
    obtain ⟨y1, y2, y3⟩ := h
    have k05 : F m8 1105 = ((a : Nat) : Int) := by rw [FR.F y1 (by simp [pq_n]), wi_ne (pq_n (by omega))]; exact f05
    rw [I_F' k05, show I ((a : Nat) : Int) + I 2 = I ((a + 2 : Nat) : Int) from addN, wi_e]
    have n1 : ¬ isH (mk 1 0) := nh_mk (by omega)
    have n6 : so (mk 1 0) = 6 → va (mk 1 0) = 0 := fun c => by rw [so_mk (by omega) (by omega)] at c; omega
    have pl3 := PLs_pc (z := ((a + 2 : Nat) : Int)) (PLs_push (x := mk 1 0) pd (RTb_lit n1 n6) y1 y2 y3)
    rw [← e8] at pl3
    have pl4 : PLs b p (wi m8 1105 ((a + 2 : Nat) : Int)) w9 U B (W + 1) Y := by
      refine PLs_cg pl3 (fun _ _ => rfl) (fun _ _ => rfl) (fun _ _ => rfl) (fun _ _ => rfl) (fun _ _ => rfl) (fun k hk => ?_) (fun i hi => lw.2.2.2.2.1 _ (by omega) (by omega)) (fun i hi => lw.2.2.2.2.2.2.1 _ (by omega) (by omega)) (fun i hi => lw.2.2.2.2.2.1 _ (by omega) (by omega)) (fun i hi => lw.2.2.2.2.2.2.2 _ (by omega) (by omega))
      simp only [List.mem_cons, List.not_mem_nil, or_false] at hk
      rcases hk with rfl | rfl | rfl | rfl | rfl
      · exact lw.2.1 89 (by omega)
      · exact lw.2.1 90 (by omega)
      · exact lw.1 92 p (Or.inl ⟨by omega, rfl⟩)
      · exact lw.1 94 p (Or.inl ⟨by omega, rfl⟩)
      · exact lw.2.1 108 (by omega)
    have f3 : FGm p m4 (wi m8 1105 ((a + 2 : Nat) : Int)) := FGm.tr (FGm.tr FGm.drop (FGm.push y1)) FGm.pc
    obtain ⟨ru3, w3, g1', g2'⟩ := kk _ f3 pl4 (wi_sm (by omega) (by omega)) k98'
    exact c _ _ w3 pl4 ru3 g1' g2'
  have e9w : A w8 109 q ≠ 3 := by rw [FR.A g8.1 (by simp)]; exact h9w
  rcases h with ⟨-, rfl, rfl⟩ | ⟨m1, w1, xm, xr, x5, rfl, rfl⟩ | ⟨hYq, U2, ⟨bq2, plq2⟩, xm, xr⟩
  · refine fin (fun _ _ => LOCm.rf) (fun _ _ _ => LOCw.rf) rfl (fun m3 f3 pl3 k5 k8 => ?_)
    exact exq_liv hpp hq hqp hal wl hq9 ru sc f1 g8 (fun _ _ => LOCm.rf) (fun _ _ _ => LOCw.rf) ⟨fun _ _ _ => rfl, fun _ _ => rfl, fun _ _ _ => rfl⟩ ⟨fun _ _ _ _ _ => rfl, fun _ _ => rfl, rfl⟩ f3 pl3 k5 k8 cr rfl rfl ⟨by rw [e9]; exact hal, e9w⟩ al8 ⟨b1, b2, b3, b15.2⟩
  · have v := enS_v (m := m1) (q := q) (t := mk 1 20) (hm := q) (e := e)
    have a9 := enR_9 (w := w1) (q := q) (wr := 0) (o := q) (x := mk 1 20) (e := e')
    obtain ⟨u1, u2⟩ := enS_q (m := m1) (t := mk 1 20) (hm := q) (show e < 1000 by omega) (show q < 1000 by omega)
    obtain ⟨v1, v2, v3, v4, v5⟩ := enR_q (w := w1) (x := mk 1 20) (wr := 0) (o := q) (show e' < 10000 by omega) (show q < 1000 by omega) (by omega) ⟨by omega, by omega⟩
    have fr := enR_fr (w := w1) (q := q) (wr := 0) (o := q) (x := mk 1 20) (e := e')
    have LM : ∀ d, d ≠ q → LOCm d m2 (enS m1 q (mk 1 20) q e) := fun d hd => LOCm.tr (LOCm_xm xm hd) (LOCm_en hd)
    have LW : ∀ d, d ≠ q → d < 24 → LOCw d w8 (enR w1 q 0 ((q : Nat) : Int) (mk 1 20) e') := fun d hd _ => LOCw.tr (LOCw_xm xr hd) (LOCw_en hd)
    have em : (∀ k, k < 2000 → k ≠ 955 → (enS m1 q (mk 1 20) q e).1 k = m2.1 k) ∧ (∀ k, k < 2000 → (enS m1 q (mk 1 20) q e).2.1 k = m2.2.1 k) ∧ ∀ K, K < 2000 → K ≠ 54 → (enS m1 q (mk 1 20) q e).2.2.1 K = m2.2.2.1 K := ⟨fun k hk h => by rw [enS_1 (pq_n hk) (pq_n hk) h]; exact xm.1 k (by simp; exact ⟨pq_n hk, pq_n hk, pq_n hk⟩), fun k hk => by rw [enS_2 (pq_n hk)]; exact xm.2.1 k (by simp), fun K hK h => by rw [enS_3 h]; exact xm.2.2.1 K (by simp)⟩
    have ew : (∀ k, k ≠ 150 → k ≠ 136 → k ≠ 138 → k ≠ 140 → (enR w1 q 0 ((q : Nat) : Int) (mk 1 20) e').1 k = w8.1 k) ∧ (∀ K, K < 88 ∨ (118 ≤ K ∧ K ≤ 130) → (enR w1 q 0 ((q : Nat) : Int) (mk 1 20) e').2.2.1 K = w8.2.2.1 K) ∧ (enR w1 q 0 ((q : Nat) : Int) (mk 1 20) e').2.2.2 34 = w8.2.2.2 34 := ⟨fun k h h1 h2 h3 => (fr.1 k (by simpa using h)).trans (xr.1.1 k (by simp; omega)), fun K h => (fr.2.2.1 K (by simp; omega)).trans (xr.1.2.2.1 K (by simp; omega)), (fr.2.2.2 34 (by simp)).trans (xr.1.2.2.2 34 (by simp))⟩
    have n1 : ¬ isH (mk 1 20) := nh_mk (by omega)
    have n6 : so (mk 1 20) = 6 → va (mk 1 20) = 0 := fun c => by rw [so_mk (by omega) (by omega)] at c; omega
    have hP : P (mk 1 20) := cx2.2.2.2.2.2.1 20 (by omega) (by have := cx2.2.2.2.1; omega)
    have hP' : P' (mk 1 20) := wl.1.2.2.1 20 (by omega) (by omega)
    have x148 : (enR w1 q 0 ((q : Nat) : Int) (mk 1 20) e').2.2.2 148 e' = mk 1 20 := by rw [v5, if_pos rfl]
    have rq : RQs Fv P Fv' P' PR (enS m1 q (mk 1 20) q e) (enR w1 q 0 ((q : Nat) : Int) (mk 1 20) e') q 0 q ((enR w1 q 0 ((q : Nat) : Int) (mk 1 20) e').2.2.2 148 e') := by
      rw [x148]
      refine ⟨q, 0, by rw [v.2.1]; exact rf_some (by omega), hq, v.1, Or.inr ⟨hq, by rw [a9, if_pos rfl]⟩, ?_, Or.inl ⟨n1, hP'⟩⟩
      rw [v.2.2]
      exact SRs_lit n1 n6 hP hP' (by omega) (by omega)
    have qe : QEs (enS m1 q (mk 1 20) q e) (enR w1 q 0 ((q : Nat) : Int) (mk 1 20) e') q := by
      obtain ⟨L, l1, l2⟩ := LS_of al8.2.1 b15
      have sk : ∀ k, k < 100 → k ≠ 4 → k ≠ 5 → k ≠ 7 → k ≠ 9 → k ≠ 17 → (enS m1 q (mk 1 20) q e).1 (pq q k) = m2.1 (pq q k) := fun k h0 h1 h2 h3 h4 h5 => by
        rw [enS_1 (pq_inj h4) (pq_inj h5) (fun c => pq_n (by omega) c.symm)]
        exact xm.1 _ (by simp; exact ⟨pq_inj h1, pq_inj h2, pq_inj h3⟩)
      have aw : ∀ K, K = 113 ∨ K = 114 ∨ K = 116 ∨ K = 117 → (enR w1 q 0 ((q : Nat) : Int) (mk 1 20) e').2.2.1 K = w8.2.2.1 K := fun K h => (fr.2.2.1 K (by simp; omega)).trans (xr.1.2.2.1 K (by simp; omega))
      exact ⟨by rw [sk 12 (by omega) (by omega) (by omega) (by omega) (by omega) (by omega), aw 113 (by omega)]; exact al8.2.1.1, by rw [sk 13 (by omega) (by omega) (by omega) (by omega) (by omega) (by omega), aw 114 (by omega)]; exact al8.2.1.2.1, by rw [enS_1 (pq_inj (by omega)) (pq_inj (by omega)) (fun c => pq_n (by omega) c.symm), fr.2.2.1 90 (by simp)]; exact x5, L, LSm_st l1 (sk 15 (by omega) (by omega) (by omega) (by omega) (by omega) (by omega)) (by rw [enS_3 (fun c => pq_n (by omega) c.symm)]; exact xm.2.2.1 _ (by simp)), LSw_fr l2 (aw 116 (by omega)) (aw 117 (by omega))⟩
    refine fin LM LW (congrArg Int32.toInt (em.1 1105 (by omega) (by omega))) (fun m3 f3 pl3 k5 k8 => ?_)
    exact exq_end hpp hq hqp hal wl hq9 ru sc f1 g8 LM LW em ew f3 pl3 k5 k8 cr u1 (by rw [u2, if_pos rfl]) v1 (by rw [v2, if_pos rfl]) (by rw [v3, if_pos rfl]) (by rw [v4, if_pos rfl]) ⟨v.1, by rw [a9, if_pos rfl]⟩ rq qe
  · have LM : ∀ d, d ≠ q → LOCm d m2 m4 := fun d hd => LOCm_xm xm hd
    have LW : ∀ d, d ≠ q → d < 24 → LOCw d w8 w9 := fun d hd _ => LOCw_xm xr hd
    have em : (∀ k, k < 2000 → k ≠ 955 → m4.1 k = m2.1 k) ∧ (∀ k, k < 2000 → m4.2.1 k = m2.2.1 k) ∧ ∀ K, K < 2000 → K ≠ 54 → m4.2.2.1 K = m2.2.2.1 K := ⟨fun k hk h => xm.1 k (by simp; exact ⟨pq_n hk, pq_n hk, pq_n hk⟩), fun k hk => xm.2.1 k (by simp), fun K hK h => xm.2.2.1 K (by simp)⟩
    have ew : (∀ k, k ≠ 150 → k ≠ 136 → k ≠ 138 → k ≠ 140 → w9.1 k = w8.1 k) ∧ (∀ K, K < 88 ∨ (118 ≤ K ∧ K ≤ 130) → w9.2.2.1 K = w8.2.2.1 K) ∧ w9.2.2.2 34 = w8.2.2.2 34 := ⟨fun k h h1 h2 h3 => xr.1.1 k (by simp; omega), fun K h => xr.1.2.2.1 K (by simp; omega), xr.1.2.2.2 34 (by simp)⟩
    have pg9 := PGs_xm xm xr
    have e15 : F m4 (pq q 15) = F m2 (pq q 15) := FR.F xm (by simp; exact ⟨pq_inj (by omega), pq_inj (by omega), pq_inj (by omega)⟩)
    have k94 : F m4 (pq q 9) = F m2 (pq q 9) := FR.F xm (by simp; exact ⟨pq_inj (by omega), pq_inj (by omega), pq_inj (by omega)⟩)
    refine fin LM LW (congrArg Int32.toInt (em.1 1105 (by omega) (by omega))) (fun m3 f3 pl3 k5 k8 => ?_)
    exact exq_liv hpp hq hqp hal wl hq9 ru sc f1 g8 LM LW em ew f3 pl3 k5 k8 cr (FR.F xm (by simp [pq_n])) (FR.F xr.1 (by simp)) ⟨by rw [k94, e9]; exact hal, by rw [FR.A xr.1 (by simp)]; exact e9w⟩ ⟨plq2, SC_eq al8.2.1 b15.2 (EQm.xm xm q) (EQw.xm xr q), WTr_st al8.2.2 (EQm.xm xm q).n (EQw.xm xr q).v⟩ ⟨b1, b2, by omega, by rw [e15]; exact b15.2⟩
end
