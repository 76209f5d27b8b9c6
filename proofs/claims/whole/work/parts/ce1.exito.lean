/-! exit, toward itself: it does not trap -/
set_option maxRecDepth 100000
section
variable {α β : Type} {N p : Nat} {m w : MS} {t x : Int64} {Q : MS → α → MS → β → Prop} {D : Option (MS × α)} {K : MS → Unit → Option (MS × β)}
/-- there -/
theorem sig_s (h9 : F m (pq p 9) ≠ 3) (h11 : F m (pq p 11) = 0) : hm_Wl_signal N m (I ((p : Nat) : Int)) p t (some p) = bnd (hm_Wl_endsWith N m p t p) (fun u _ => some (u, ())) := by
  have r9 := F_r m (pq p 9)
  have e59 : hb_Wl_signal_59 N () m p t (some p) = bnd (hm_Wl_endsWith N m p t p) (fun u _ => some (u, ())) := by
    unfold hb_Wl_signal_59 hb_Wl_signal_70 hb_Wl_signal_121
    rw [show decide ((some p : Option Nat) = none) = false from rfl, br_f, show decide ((some p : Option Nat) = some p) = true from decide_eq_true rfl, br_t]
  have e43 : ∀ z : Int32, hb_Wl_signal_43 N () m (I ((p : Nat) : Int)) p t (some p) z = hb_Wl_signal_59 N () m p t (some p) := fun z => by
    unfold hb_Wl_signal_43
    rw [oI, show decide (I ((p : Nat) : Int) = I ((p : Nat) : Int)) = true from decide_eq_true rfl, br_t]
    cases decide (z = 0) <;> rfl
  unfold hm_Wl_signal hb_Wl_signal_0
  rw [I_F (k := pq p 9), show decide (I (F m (pq p 9)) = 3) = false from by rw [show (3 : Int32) = I 3 from rfl, decE r9.1 r9.2 (by omega) (by omega)]; exact decide_eq_false h9, br_f, I_F (k := pq p 11), h11, show decide (I 0 = 0) = true from rfl, br_t, show hm_Te_make N m 1 4 = some (m, mk 1 4) from rfl, bnd_so, e43, e43, e59]
  cases decide (lg_cmp t (mk 1 4) = 0) <;> rfl
/-- here -/
theorem exr_s (hp1 : p < 24) (h9 : A w 109 p ≠ 3) (h112 : A w 112 p = 0) (x33 : F w 133 = ((p : Nat) : Int)) (h5 : x ≠ mk 1 5) (h : PP Q D (bnd (bnd (fm_M_copy N (wa w 89 24 0) (I ((p : Nat) : Int)) x (I ((24 : Nat) : Int))) (fun u2 r2 => bnd (fm_M_willEnd N u2 (I ((p : Nat) : Int)) (I 0) (I ((24 : Nat) : Int)) r2) (fun u3 _ => some (u3, ())))) K)) : PP Q D (bnd (fm_M_exitRun N w (I ((p : Nat) : Int)) x) K) := by
  have r9 := A_r w 109 p
  unfold fm_M_exitRun fb_M_exitRun_0 fb_M_exitRun_84 fb_M_exitRun_111
  refine rb_ck (fun _ => ?_)
  rw [tnI (n := p) rfl (by omega), I_A (k := 109), show decide (I (A w 109 p) = 3) = false from by rw [show (3 : Int32) = I 3 from rfl, decE r9.1 r9.2 (by omega) (by omega)]; exact decide_eq_false h9, br_f, show fm_M_term N w 1 5 = some (w, mk 1 5) from rfl, rb_bnd_so, dec_ne h5, br_f]
  refine rb_ck (fun _ => ?_)
  rw [I_A (k := 112), h112, show decide (I 0 = 0) = true from rfl, br_t, I_F' x33, show decide (I ((p : Nat) : Int) = I ((p : Nat) : Int)) = true from decide_eq_true rfl, br_t]
  refine rb_ck (fun _ => ?_)
  have e33 : F (wa w 89 24 0) 133 = ((p : Nat) : Int) := x33
  rw [show upA w 89 (upd (w.2.2.1 89) (24 : Int32).toNatClampNeg 0) = wa w 89 24 0 from rfl, lt_e, I_F' e33]
  exact h
end
section
variable {Fv Fv' : Int64 → Int64 → Prop} {P P' : Int64 → Prop} {PR p i j o : Nat} {m w m2 w2 : MS}
/-- the world behind p's own end, where no end waits, whatever cells are used -/
theorem WL_endp (wl : WLs (RRt p) PR Fv P Fv' P' none i j m w) (hal : F m (pq p 9) ≠ 3) (hpp : p < PR) (hq : F m 955 = ((i : Nat) : Int)) (s2 : SFs Fv P Fv' P' PR m2 w2) (D : ∀ d, d ≠ p → LOCm d m m2 ∧ (d < PR → LOCw d w w2)) (pg : PG0 m w m2 w2) (e1 : F m2 955 = ((i + 1 : Nat) : Int)) (e54 : A m2 54 i = ((p : Nat) : Int)) (e2 : F w2 150 = ((j + 1 : Nat) : Int)) (e145 : A w2 145 j = ((p : Nat) : Int)) (e146 : A w2 146 j = 0) (e147 : A w2 147 j = ((o : Nat) : Int)) (k9 : F m2 (pq p 9) = 3 ∧ A w2 109 p = 3) (rq : RQs Fv P Fv' P' PR m2 w2 p 0 o (w2.2.2.2 148 j)) (qe : QEs m2 w2 p) : WLs (RRt p) PR Fv P Fv' P' none i j m2 w2 := by
  obtain ⟨sf, ⟨n0, q1, q2, -, -⟩, pr, -⟩ := id wl
  have hn0 : n0 = 0 := by
    rw [hq] at q1
    omega
  subst hn0
  have f9 : ∀ d, d ≠ p → F m2 (pq d 9) = F m (pq d 9) := fun d hd => congrArg Int32.toInt ((D d hd).1 9 (by omega)).1
  have a9 : ∀ d, d ≠ p → d < PR → A w2 109 d = A w 109 d := fun d hd h3 => congrArg Int32.toInt (((D d hd).2 h3).1 109 d (Or.inl ⟨by omega, rfl⟩))
  refine ⟨s2, ⟨1, e1, e2, fun k hk => ?_, fun k l hk hl _ => by omega⟩, fun r hr => ?_, RRt_stb⟩
  · have k0 : k = 0 := by omega
    subst k0
    exact ⟨p, 0, o, ⟨hpp, fun c => (by cases c), k9.1⟩, e54, e145, e146, e147, rq, qe⟩
  by_cases rn : r = p
  · subst rn
    exact Or.inr ⟨k9.1, k9.2, Or.inr (Or.inl ⟨i, Nat.le_refl _, by rw [e1]; omega, e54⟩)⟩
  obtain ⟨l1, l2'⟩ := D r rn
  have l2 := l2' hr
  rcases pr r hr with ⟨x1, x2, b', U', B', W', Y', pl', sc', rr⟩ | ⟨x1, x2, x⟩
  · obtain ⟨-, -, ⟨b1, b2, b3⟩, b4⟩ := SF_al sf hr x1 pl'
    have hU := pl'.1.1.2.2
    have rr2 : WTr r m w := by
      rcases rr with rr | rr
      · exact absurd rr rn
      · exact rr
    obtain ⟨t1, t2, t3⟩ := AL_loc ⟨pl', sc', rr2⟩ ⟨hU, b1, b2, b3, b4.2⟩ pg l1 l2
    exact Or.inl ⟨by rw [f9 r rn]; exact x1, by rw [a9 r rn hr]; exact x2, b', U', B', W', Y', t1, t2, Or.inr t3⟩
  · refine Or.inr ⟨by rw [f9 r rn]; exact x1, by rw [a9 r rn hr]; exact x2, Or.inr (Or.inr ?_)⟩
    rcases x with x | ⟨k, k1, k2, -⟩ | x
    · cases x
    · rw [hq] at k2
      omega
    · refine DEs_st2 x pg l1 l2 (fun d hd h3 => ?_)
      have dp : d ≠ p := fun c => hal (by rw [← c]; exact h3)
      exact ⟨by rw [f9 d dp]; exact h3, ((D d dp).1 2 (by omega)).2.2.2⟩
end
section
variable {α β : Type} {b : Int → Nat → Nat → Prop} {Fv Fv' : Int64 → Int64 → Prop} {P P' : Int64 → Prop} {N PR p i j0 U B W Y l j a n s f f' : Nat} {ow kd ow' kd' : Nat → Nat} {m w m2 w2 : MS} {nb : Nat → Nat} {Hs Os : Nat → List Nat} {y : Option (Nat × Nat × Nat)} {Q : MS → α → MS → β → Prop} {K1 : MS → Option (MS × α)} {K2 : MS → Option (MS × β)}
theorem op_exitO (hpp : p < PR) (h11 : F m (pq p 11) = 0) (wl : WLs (RRp p) PR Fv P Fv' P' none i j0 m w) (hq9 : F m 955 = ((i : Nat) : Int)) (ru : RUs m w p j nb Hs Os y a n) (sc : SCs p m w) (hW : W + 2 ≤ 46000) (hl : F m2 (pq p 45) = ((l : Nat) : Int)) (hl2 : W + 2 ≤ l ∧ l ≤ 1000000) (pl : PLs b p m2 w2 U B (W + 2) Y) (pt : PTQ m2 p U ow kd Fv P B (W + 2) Y) (xc : CX w2 p (hp w2 p) U ow' kd' Fv' P' (W + 2) B Y) (hs : s ≤ 500) (z1 : SZc (m2.2.2.2 (pq p 2)) U ow kd Fv P f (m2.2.2.2 (pq p 35) (W + 1)) s) (z2 : SZ (hp w2 p) U ow' kd' Fv' P' f' (w2.2.2.2 91 (46000 * p + (W + 1))) s) (hN : 3000 ≤ N) (f1 : FGm p m m2) (h05 : F m2 1105 = ((a : Nat) : Int)) (ha : a + 2 < 24000) (g1 : FGw p j w w2) (h5 : m2.2.2.2 (pq p 35) (W + 1) ≠ mk 1 5)
    (c : ∀ m3 w3, (SFs Fv P Fv' P' PR m3 w3 → WLs (RRt p) PR Fv P Fv' P' none i j0 m3 w3) → F m3 (pq p 9) = 3 → A w3 109 p = 3 → EGm m m3 → EGw w w3 → (F m3 1109 = F m2 1109 ∧ F w3 133 = ((p : Nat) : Int)) → PP Q (K1 m3) (K2 w3)) : PP Q (bnd (hb_Ma_toward_95 N () m2 p (I 29) 2 (some p)) (fun u _ => K1 u)) (bnd (fb_M_processRun_151 N () w2 (I 8) (w2.2.2.2 91 (46000 * p + (W + 1))) (I ((p : Nat) : Int)) 92 (I ((p : Nat) : Int)) (I ((W + 2 : Nat) : Int)) 2) (fun u _ => K2 u)) := by
  obtain ⟨⟨fa, -⟩, -, -, ⟨q9, q9w⟩, -, -, r11, -, -⟩ := id ru
  have hj : j < 60 := fa.1.2.2
  have p24 : PR ≤ 24 := wl.1.2.1.1.1.2
  have hU := pl.1.1.2.2
  have rt := pl.2.2.1.2.2 (W + 1) (by omega)
  have be0 : hm_Fr_below N m2 p 0 = some (m2, m2.2.2.2 (pq p 35) (W + 1)) := by
    have := below_e (N := N) (x := 0) (k := 0) (W := W + 2) (l := l) pl.2.2.1.1 hl hl2.1 hl2.2 rfl (by omega)
    rw [show W + 2 - 1 - 0 = W + 1 by omega] at this
    exact this
  have hal : F m (pq p 9) ≠ 3 := by rw [q9]; omega
  have hal' : A w 109 p ≠ 3 := by rw [q9w]; omega
  have gm1 := GGm_fg f1
  have own : ∀ k, k < 100 → k ≠ 4 → k ≠ 5 → k ≠ 26 → k ≠ 45 → m2.1 (pq p k) = m.1 (pq p k) := fun k h0 h1 h2 h3 h4 => f1.1 _ (by simp; exact ⟨pq_inj h1, pq_inj h2, pq_inj h3, pq_inj h4, fun c => pq_n (by omega) c.symm⟩)
  have e9 : F m2 (pq p 9) = F m (pq p 9) := congrArg Int32.toInt (own 9 (by omega) (by omega) (by omega) (by omega) (by omega))
  have e11 : F m2 (pq p 11) = F m (pq p 11) := congrArg Int32.toInt (own 11 (by omega) (by omega) (by omega) (by omega) (by omega))
  obtain ⟨⟨e, he⟩, e', he'⟩ := SF_e wl.1 hpp hal
  have ei : e = i := by
    have := he.1
    rw [hq9] at this
    omega
  subst ei
  obtain ⟨-, ⟨n0, q1, q2, -, -⟩, -, -⟩ := id wl
  have ej : e' = j0 := by
    rw [hq9] at q1
    have := he'.1
    rw [q2] at this
    omega
  subst ej
  have e955 : F m2 955 = ((e : Nat) : Int) := (congrArg Int32.toInt gm1.2.2.1).trans he.1
  have x33 : F w2 133 = ((p : Nat) : Int) := by rw [FR.F g1.1 (by simp)]; exact r11
  have h112 : A w 112 p = 0 := by
    show (w.2.2.1 112 p).toInt = 0
    rw [← sc.2.2.1]
    exact h11
  have hb15 : 0 ≤ F m2 (pq p 15) ∧ F m2 (pq p 15) ≤ 24 := by
    have e15 : F m2 (pq p 15) = F m (pq p 15) := congrArg Int32.toInt (own 15 (by omega) (by omega) (by omega) (by omega) (by omega))
    rw [e15]
    rcases wl.2.2.1 p hpp with ⟨x1, x2, b', U', B', W', Y', pl', -⟩ | ⟨x1, -⟩
    · exact (SF_al wl.1 hpp x1 pl').2.2.2
    · exact absurd x1 hal
  have zx5 : w2.2.2.2 91 (46000 * p + (W + 1)) ≠ mk 1 5 := fun c => h5 (by
    rcases rt with ⟨-, x, -⟩ | ⟨x1, x2, -⟩
    · rw [← x]; exact c
    · rw [c, so_mk (by omega) (by omega)] at x2
      unfold isH at x1
      omega)
  rw [tw95_29, be0, bnd_so, dec_ne h5, br_f, be0, bnd_so, oI, sig_s (by rw [e9]; exact hal) (by rw [e11]; exact h11), endsW_e (e := e) (by rw [e9]; exact hal) e955 he.2, prr_8, sub2, tnI (n := p) rfl (by omega), wa_e]
  refine rb_ck (fun _ => rb_ck (fun _ => ?_))
  rw [lt_e, truth1, bnd_so]
  simp only [bb_e, bnd_so]
  have y92 : A (wa w2 92 p ((W : Nat) : Int)) 92 p = ((W : Nat) : Int) := wa_sm (by omega) (by omega)
  have y33 : F (wa w2 92 p ((W : Nat) : Int)) 133 = ((p : Nat) : Int) := x33
  refine r_bnd (pk_mo (put_r (N := N) (x := mk 1 0) (W := W) (by omega) y33 y92 (by omega)) (fun w8 _ e8 => ?_))
  have g8 : FGw p j w w8 := by rw [e8]; exact FGw.tr (FGw.tr g1 FGw.w92) (FGw.put (by omega))
  have gw8 := GGw_fg g8 hj
  have k33 : F w8 133 = ((p : Nat) : Int) := by rw [FR.F g8.1 (by simp)]; exact r11
  have k90 : w8.2.2.1 90 p = w2.2.2.1 90 p := by
    rw [e8, wa_21 (by omega)]
    show (wa w2 92 p ((W : Nat) : Int)).2.2.1 90 p = _
    rw [wa_21 (by omega)]
  have eh : hp w8 p = hp w2 p := by rw [e8]; rfl
  refine exr_s (by omega) (by rw [FR.A g8.1 (by simp)]; exact hal') (by rw [FR.A g8.1 (by simp)]; exact h112) k33 zx5 (r_bb (r_bnd (pk_mo (copy_o1 (h := m2.2.2.2 (pq p 2)) (ns := U) (ns' := U) (by rw [show hp (wa w8 89 24 0) p = hp w2 p from eh]; exact xc.2.1) (by omega) (by omega) (by omega) (by omega) (by rw [show hp (wa w8 89 24 0) p = hp w2 p from eh]; exact pl.1.2.1.w) rt (by rw [show hp (wa w8 89 24 0) p = hp w2 p from eh]; exact z2) (wa_sm (by omega) (by omega)) hs hN) (fun w9 r2 h => ?_))))
  obtain ⟨⟨b2, i2, rt2⟩, ⟨ow3, kd3, fz', hr, szr⟩, c1, c2, c3⟩ := h
  have w9A : ∀ K, K ≠ 89 → K ≠ 142 → w9.2.2.1 K = w8.2.2.1 K := fun K h1 h2 => by rw [c1.2.2.1 K (by simp; omega), wa_21 h1]
  have y9 : A w9 109 p ≠ 3 := by
    show (w9.2.2.1 109 p).toInt ≠ 3
    rw [w9A 109 (by omega) (by omega), g8.1.2.2.1 109 (by simp)]
    exact hal'
  have y150 : F w9 150 = ((e' : Nat) : Int) := by
    rw [FR.F c1 (by simp)]
    show F w8 150 = _
    rw [FR.F g8.1 (by simp)]
    exact he'.1
  rw [willE_e (e := e') (by omega) y9 y150 he'.2 (by omega)]
  simp only [bb_e, bnd_so]
  have v := enS_v (m := m2) (q := p) (t := m2.2.2.2 (pq p 35) (W + 1)) (hm := p) (e := e)
  have a9 := enR_9 (w := w9) (q := p) (wr := 0) (o := 24) (x := r2) (e := e')
  obtain ⟨u1, u2⟩ := enS_q (m := m2) (t := m2.2.2.2 (pq p 35) (W + 1)) (hm := p) (show e < 1000 by omega) (show p < 1000 by omega)
  obtain ⟨v1, v2, v3, v4, v5⟩ := enR_q (w := w9) (x := r2) (wr := 0) (o := 24) (show e' < 10000 by omega) (show p < 1000 by omega) (by omega) ⟨by omega, by omega⟩
  have fr := enR_fr (w := w9) (q := p) (wr := 0) (o := 24) (x := r2) (e := e')
  have LW : ∀ d, d ≠ p → d < 24 → LOCw d w (enR w9 p 0 ((24 : Nat) : Int) r2 e') := fun d hd h24 => (gw8.1 d hd).tr2 (((w89_loc (show d ≠ 24 by omega)).tr2 (cp_loc2 (show d ≠ 24 by omega) c1 c2 c3)).tr2 (LOCw_en hd))
  have aw : ∀ K, K < 88 ∨ (118 ≤ K ∧ K ≤ 130) ∨ K = 113 ∨ K = 114 ∨ K = 116 ∨ K = 117 ∨ K = 90 → (enR w9 p 0 ((24 : Nat) : Int) r2 e').2.2.1 K = w8.2.2.1 K := fun K h => (fr.2.2.1 K (by simp; omega)).trans (w9A K (by omega) (by omega))
  have ehE : hp (enR w9 p 0 ((24 : Nat) : Int) r2 e') 24 = hp w9 24 := by
    funext k
    exact congrFun (fr.2.2.2 88 (by simp)) _
  have x148 : (enR w9 p 0 ((24 : Nat) : Int) r2 e').2.2.2 148 e' = r2 := by rw [v5, if_pos rfl]
  have sc8 : SCs p m2 w8 := SC_fg sc f1 g8
  -- the answer, there
  have nk : ∀ k, k < 100 → k ≠ 9 → k ≠ 17 → (enS m2 p (m2.2.2.2 (pq p 35) (W + 1)) p e).1 (pq p k) = m2.1 (pq p k) := fun k h0 h1 h2 => enS_1 (pq_inj h1) (pq_inj h2) (fun c => pq_n (by omega) c.symm)
  have f26 : F (enS m2 p (m2.2.2.2 (pq p 35) (W + 1)) p e) (pq p 26) = ((W + 2 : Nat) : Int) := (congrArg Int32.toInt (nk 26 (by omega) (by omega) (by omega))).trans pl.2.2.1.1
  have f45 : F (enS m2 p (m2.2.2.2 (pq p 35) (W + 1)) p e) (pq p 45) = ((l : Nat) : Int) := (congrArg Int32.toInt (nk 45 (by omega) (by omega) (by omega))).trans hl
  have nE : ∀ k, k < 2000 → k ≠ 955 → (enS m2 p (m2.2.2.2 (pq p 35) (W + 1)) p e).1 k = m2.1 k := fun k hk h => enS_1 (pq_n hk) (pq_n hk) h
  have f05 : F (enS m2 p (m2.2.2.2 (pq p 35) (W + 1)) p e) 1105 = ((a : Nat) : Int) := (congrArg Int32.toInt (nE 1105 (by omega) (by omega))).trans h05
  have LM : ∀ d, d ≠ p → LOCm d m2 (enS m2 p (m2.2.2.2 (pq p 35) (W + 1)) p e) := fun d hd => LOCm_en hd
  have nA : ∀ K, K ≠ 54 → (enS m2 p (m2.2.2.2 (pq p 35) (W + 1)) p e).2.2.1 K = m2.2.2.1 K := fun K h => enS_3 h
  have nJ : (enS m2 p (m2.2.2.2 (pq p 35) (W + 1)) p e).2.2.2 = m2.2.2.2 := rfl
  have u2' : A (enS m2 p (m2.2.2.2 (pq p 35) (W + 1)) p e) 54 e = ((p : Nat) : Int) := by rw [u2, if_pos rfl]
  generalize hmE : enS m2 p (m2.2.2.2 (pq p 35) (W + 1)) p e = mE at v u1 u2' nk f26 f45 nE f05 LM nA nJ
  unfold hb_Ma_toward_335 hm_Ma_answer hb_Ma_answer_0
  rw [show (2 : Int32) = I 2 from rfl, drop_e (W := W + 2) (k := 2) (x := 2) f26 rfl (by omega), bnd_so, show W + 2 - 2 = W by omega]
  simp only [bb_e, bnd_so]
  have e26' : F (wi mE (pq p 26) ((W : Nat) : Int)) (pq p 26) = ((W : Nat) : Int) := wi_sm (by omega) (by omega)
  have e45' : F (wi mE (pq p 26) ((W : Nat) : Int)) (pq p 45) = ((l : Nat) : Int) := by rw [wi_ne (pq_inj (by omega))]; exact f45
  refine l_bnd (pk_mo (push_m (N := N) (t := mk 1 0) e26' e45' (by omega) hl2.2) (fun m8 _ h => ?_))
  obtain ⟨y1, y2, y3⟩ := h
  have k05 : F m8 1105 = ((a : Nat) : Int) := by rw [FR.F y1 (by simp [pq_n]), wi_ne (pq_n (by omega))]; exact f05
  rw [I_F' k05, show I ((a : Nat) : Int) + I 2 = I ((a + 2 : Nat) : Int) from addN, wi_e]
  have f3 : FGm p mE (wi m8 1105 ((a + 2 : Nat) : Int)) := FGm.tr (FGm.tr FGm.drop (FGm.push y1)) FGm.pc
  have h3k : ∀ k, k < 100 → k ≠ 26 → k ≠ 45 → (wi m8 1105 ((a + 2 : Nat) : Int)).1 (pq p k) = mE.1 (pq p k) := fun k h0 h1 h2 => by
    rw [wi_1 (fun c => pq_n (by omega) c.symm), y1.1 _ (by simp; exact ⟨pq_inj h1, pq_inj h2⟩), wi_1 (pq_inj h1)]
  have h3J : (wi m8 1105 ((a + 2 : Nat) : Int)).2.2.2 (pq p 2) = m2.2.2.2 (pq p 2) := by
    show m8.2.2.2 (pq p 2) = _
    rw [y1.2.2.2 _ (by simp; exact pq_inj (by omega)), ← nJ]
    rfl
  have h3L : ∀ k, (wi m8 1105 ((a + 2 : Nat) : Int)).2.1 k = mE.2.1 k := fun k => y1.2.1 k (by simp)
  have h3A : ∀ K, (wi m8 1105 ((a + 2 : Nat) : Int)).2.2.1 K = mE.2.2.1 K := fun K => y1.2.2.1 K (by simp)
  have gm3 := GGm_fg f3
  generalize wi m8 1105 ((a + 2 : Nat) : Int) = m3 at f3 h3k h3J h3L h3A gm3
  have k93 : F m3 (pq p 9) = 3 := (congrArg Int32.toInt (h3k 9 (by omega) (by omega) (by omega))).trans v.1
  have a9p : A (enR w9 p 0 ((24 : Nat) : Int) r2 e') 109 p = 3 := by rw [a9, if_pos rfl]
  have rq : RQs Fv P Fv' P' PR m3 (enR w9 p 0 ((24 : Nat) : Int) r2 e') p 0 24 ((enR w9 p 0 ((24 : Nat) : Int) r2 e').2.2.2 148 e') := by
    rw [x148]
    refine ⟨p, s, by rw [h3k 17 (by omega) (by omega) (by omega), v.2.1]; exact rf_some (by omega), hpp, k93, Or.inl rfl, ?_, ?_⟩
    · rw [h3L, v.2.2]
      refine ⟨by omega, Or.inr ⟨p, b2, U, ow, kd, f, s, ow3, kd3, fz', rfl, ⟨by rw [h3J]; exact pt.1.2.2, by omega, fun c => by omega⟩, ⟨by rw [ehE]; exact hr, hs, fun c => by omega⟩, by rw [ehE, h3J]; exact i2, by rw [h3J]; exact z1, Or.inl ⟨rfl, rt2, by rw [ehE]; exact szr⟩⟩⟩
    · by_cases zh : isH r2
      · refine Or.inr ⟨zh, Or.inl rfl, s, ow3, kd3, ?_, hs, by rw [ehE]; exact hr, SZ_gt szr⟩
        rw [FR.A fr (by simp), c2, if_pos rfl]
      · refine Or.inl ⟨zh, ?_⟩
        rcases SZ_gt szr with g | g
        · exact g.2
        · exact absurd g.1 zh
  have qe : QEs m3 (enR w9 p 0 ((24 : Nat) : Int) r2 e') p := by
    refine QE_sc sc8 hb15 (by rw [k90]; exact pl.1.2.2) (fun k hk => ?_) ?_ (fun K hK => ?_) ?_ ?_
    · rw [h3k k (by omega) (by omega) (by omega), nk k (by omega) (by omega) (by omega)]
    · rw [h3A, nA _ (fun c => pq_n (by omega) c.symm)]
    · rw [aw K (by omega)]
    · rw [aw 116 (by omega)]
    · rw [aw 117 (by omega)]
  have nW : ∀ k, k ≠ 150 → (enR w9 p 0 ((24 : Nat) : Int) r2 e').1 k = w8.1 k := fun k h => (fr.1 k (by simpa using h)).trans (c1.1 k (by simp))
  refine c m3 _ (fun s3 => ?_) k93 a9p ⟨fun K h1 h2 => ?_, fun k h1 h2 => ?_⟩ ⟨fun K h => (aw K (by omega)).trans (gw8.2.2.2.2.2.1 K h), fun k h => (nW k (by omega)).trans (gw8.2.2.2.2.2.2 k h)⟩ ⟨?_, ?_⟩
  · refine WL_endp (WL_t wl) hal hpp hq9 s3 (fun d hd => ⟨LOCm.tr (LOCm.tr (gm1.1 d hd) (LM d hd)) (gm3.1 d hd), fun h3 => LW d hd (by omega)⟩) ?_ ?_ ?_ v1 (by rw [v2, if_pos rfl]) (by rw [v3, if_pos rfl]) (by rw [v4, if_pos rfl]) ⟨k93, a9p⟩ rq qe
    · exact ⟨⟨gm3.2.1.1.trans ((nA 23 (by omega)).trans gm1.2.1.1), gm3.2.1.2.1.trans ((nE 22 (by omega) (by omega)).trans gm1.2.1.2.1), ATc_eq (gm3.2.1.2.2.1.trans ((nA 2 (by omega)).trans gm1.2.1.2.2.1)) (gm3.2.1.2.2.2.trans ((nA 3 (by omega)).trans gm1.2.1.2.2.2))⟩, fun K hK => (aw K (by unfold PRr at hK; omega)).trans (gw8.2.1.1 K hK), ((fr.2.2.2 34 (by simp)).trans (c1.2.2.2 34 (by simp))).trans gw8.2.1.2.1, (aw 12 (by omega)).trans gw8.2.1.2.2.1, (aw 13 (by omega)).trans gw8.2.1.2.2.2.1, (nW 14 (by omega)).trans gw8.2.1.2.2.2.2⟩
    · rw [show F m3 955 = F mE 955 from congrArg Int32.toInt gm3.2.2.1]
      exact u1
    · rw [show A m3 54 e = A mE 54 e from congrArg Int32.toInt (congrFun gm3.2.2.2.1 e)]
      exact u2'
  · rw [gm3.2.2.2.2.2.1 K h1, nA K h2, gm1.2.2.2.2.2.1 K h1]
  · rw [gm3.2.2.2.2.2.2 k h1, nE k (by omega) h2, gm1.2.2.2.2.2.2 k h1]
  · show (m3.1 1109).toInt = (m2.1 1109).toInt
    rw [f3.1 1109 (by simp [pq_n]), nE 1109 (by omega) (by omega)]
  · show ((enR w9 p 0 ((24 : Nat) : Int) r2 e').1 133).toInt = _
    rw [nW 133 (by omega)]
    exact k33
end
