/-! exit, toward a PROCESS: it kills itself -/
set_option maxRecDepth 100000
section
variable {α β : Type} {b : Int → Nat → Nat → Prop} {Fv Fv' : Int64 → Int64 → Prop} {P P' : Int64 → Prop} {N PR p i j0 U B W Y l j a n : Nat} {m w m2 w2 : MS} {nb : Nat → Nat} {Hs Os : Nat → List Nat} {y : Option (Nat × Nat × Nat)} {Q : MS → α → MS → β → Prop} {K1 : MS → Option (MS × α)} {K2 : MS → Option (MS × β)}
theorem op_exitS (hpp : p < PR) (wl : WLs (RRp p) PR Fv P Fv' P' none i j0 m w) (ru : RUs m w p j nb Hs Os y a n) (sc : SCs p m w) (hW : W + 2 ≤ 46000) (hl : F m2 (pq p 45) = ((l : Nat) : Int)) (hl2 : W + 2 ≤ l ∧ l ≤ 1000000) (pl : PLs b p m2 w2 U B (W + 2) Y) (f1 : FGm p m m2) (h05 : F m2 1105 = ((a : Nat) : Int)) (ha : a + 2 < 24000) (g1 : FGw p j w w2) (dc2 : DWc Fv P PR m2) (h5 : m2.2.2.2 (pq p 35) (W + 1) = mk 1 5)
    (c : ∀ m3 w8 e e', F m 955 = ((e : Nat) : Int) → F w 150 = ((e' : Nat) : Int) → FGm p (enS m2 p (mk 1 6) p e) m3 → FGw p j w w8 → (SFs Fv P Fv' P' PR m3 (enR w8 p 0 ((p : Nat) : Int) (mk 1 6) e') → WLs (RRt p) PR Fv P Fv' P' none i j0 m3 (enR w8 p 0 ((p : Nat) : Int) (mk 1 6) e')) → F m3 (pq p 9) = 3 → A (enR w8 p 0 ((p : Nat) : Int) (mk 1 6) e') 109 p = 3 → (F m3 1109 = F m2 1109 ∧ F (enR w8 p 0 ((p : Nat) : Int) (mk 1 6) e') 133 = ((p : Nat) : Int)) → PP Q (K1 m3) (K2 (enR w8 p 0 ((p : Nat) : Int) (mk 1 6) e'))) : PP Q (bnd (hb_Ma_toward_95 N () m2 p (I 29) 2 (some p)) (fun u _ => K1 u)) (bnd (fb_M_processRun_151 N () w2 (I 8) (w2.2.2.2 91 (46000 * p + (W + 1))) (I ((p : Nat) : Int)) 92 (I ((p : Nat) : Int)) (I ((W + 2 : Nat) : Int)) 2) (fun u _ => K2 u)) := by
  obtain ⟨⟨fa, -⟩, -, -, ⟨q9, q9w⟩, -, -, r11, -, -⟩ := id ru
  have hj : j < 60 := fa.1.2.2
  have p24 : PR ≤ 24 := wl.1.2.1.1.1.2
  have rt := pl.2.2.1.2.2 (W + 1) (by omega)
  have xt : w2.2.2.2 91 (46000 * p + (W + 1)) = mk 1 5 := by
    rw [h5] at rt
    exact RTb_n rt (nh_mk (by omega))
  have be0 : hm_Fr_below N m2 p 0 = some (m2, m2.2.2.2 (pq p 35) (W + 1)) := by
    have := below_e (N := N) (x := 0) (k := 0) (W := W + 2) (l := l) pl.2.2.1.1 hl hl2.1 hl2.2 rfl (by omega)
    rw [show W + 2 - 1 - 0 = W + 1 by omega] at this
    exact this
  have hal : F m (pq p 9) ≠ 3 := by rw [q9]; omega
  have hal' : A w 109 p ≠ 3 := by rw [q9w]; omega
  have gm1 := GGm_fg f1
  have e9 : F m2 (pq p 9) = F m (pq p 9) := congrArg Int32.toInt (f1.1 _ (by simp; exact ⟨fun c => by have := (pq_e (by omega) (by omega) c).2; omega, fun c => by have := (pq_e (by omega) (by omega) c).2; omega, fun c => by have := (pq_e (by omega) (by omega) c).2; omega, fun c => by have := (pq_e (by omega) (by omega) c).2; omega, fun c => pq_n (by omega) c.symm⟩))
  obtain ⟨⟨e, he⟩, e', he'⟩ := SF_e wl.1 hpp hal
  have e955 : F m2 955 = ((e : Nat) : Int) := (congrArg Int32.toInt gm1.2.2.1).trans he.1
  have x33 : F w2 133 = ((p : Nat) : Int) := by rw [FR.F g1.1 (by simp)]; exact r11
  have hb15 : 0 ≤ F m2 (pq p 15) ∧ F m2 (pq p 15) ≤ 24 := by
    have e15 : F m2 (pq p 15) = F m (pq p 15) := congrArg Int32.toInt (f1.1 _ (by simp; exact ⟨fun c => by have := (pq_e (by omega) (by omega) c).2; omega, fun c => by have := (pq_e (by omega) (by omega) c).2; omega, fun c => by have := (pq_e (by omega) (by omega) c).2; omega, fun c => by have := (pq_e (by omega) (by omega) c).2; omega, fun c => pq_n (by omega) c.symm⟩))
    rw [e15]
    rcases wl.2.2.1 p hpp with ⟨x1, x2, b', U', B', W', Y', pl', -⟩ | ⟨x1, -⟩
    · exact (SF_al wl.1 hpp x1 pl').2.2.2
    · exact absurd x1 hal
  have cx := wl.1.1.2
  have cx2 : CTX Fv P m2 := CTX_fr cx gm1.2.1.2.1 gm1.2.1.2.2.2
  have n1 : ¬ isH (mk 1 6) := nh_mk (by omega)
  have n6 : so (mk 1 6) = 6 → va (mk 1 6) = 0 := fun c => by rw [so_mk (by omega) (by omega)] at c; omega
  have hP : P (mk 1 6) := cx.2.2.2.2.2.1 6 (by omega) (by have := cx.2.2.2.1; omega)
  have hP' : P' (mk 1 6) := wl.1.2.2.1 6 (by omega) (by omega)
  have ek := endB_k (N := N) (q := p) (e := e) (m := m2) (by rw [e9]; exact hal) e955 he.2
  have c1 := pk_ok (endsBy_ok (N := N) (a := 6) dc2 cx2 hpp (by rw [e9]; exact hal) (by omega)) _ () ek
  have cxE : CTX Fv P (enS m2 p (mk 1 6) p e) := CTX_fr cx2 (c1.2.1.2.1 22 (by omega) (by simp)) (c1.2.1.2.2.2.1 3 (by omega) (by simp))
  rw [tw95_29, be0, bnd_so, h5, show decide (lg_cmp (mk 1 5) (mk 1 5) = 0) = true from decide_eq_true ((lgc_eq _ _).mpr rfl), br_t, ek, bnd_so, prr_8, sub2, tnI (n := p) rfl (by omega), wa_e, xt]
  refine rb_ck (fun _ => rb_ck (fun _ => ?_))
  rw [lt_e, truth1, bnd_so]
  have y92 : A (wa w2 92 p ((W : Nat) : Int)) 92 p = ((W : Nat) : Int) := wa_sm (by omega) (by omega)
  have y33 : F (wa w2 92 p ((W : Nat) : Int)) 133 = ((p : Nat) : Int) := x33
  refine r_bb (r_bnd (pk_mo (put_r (N := N) (x := mk 1 0) (W := W) (by omega) y33 y92 (by omega)) (fun w8 _ e8 => ?_)))
  have g8 : FGw p j w w8 := by rw [e8]; exact FGw.tr (FGw.tr g1 FGw.w92) (FGw.put (by omega))
  have k90 : w8.2.2.1 90 p = w2.2.2.1 90 p := by
    rw [e8, wa_21 (by omega)]
    show (wa w2 92 p ((W : Nat) : Int)).2.2.1 90 p = _
    rw [wa_21 (by omega)]
  have k33 : F w8 133 = ((p : Nat) : Int) := by rw [FR.F g8.1 (by simp)]; exact r11
  refine rb_bnd (pk_mo (exr_k (N := N) (q := p) (e' := e') (by omega) (by rw [FR.A g8.1 (by simp)]; exact hal') (by rw [FR.F g8.1 (by simp)]; exact he'.1) he'.2) (fun w9 _ e99 => ?_))
  subst e99
  rw [bnd_so]
  have v := enS_v (m := m2) (q := p) (t := mk 1 6) (hm := p) (e := e)
  have a9 := enR_9 (w := w8) (q := p) (wr := 0) (o := p) (x := mk 1 6) (e := e')
  have a9p : A (enR w8 p 0 ((p : Nat) : Int) (mk 1 6) e') 109 p = 3 := by rw [a9, if_pos rfl]
  have k133 : F (enR w8 p 0 ((p : Nat) : Int) (mk 1 6) e') 133 = ((p : Nat) : Int) := by
    show (if (133 : Nat) = 150 then I ((e' + 1 : Nat) : Int) else w8.1 133).toInt = _
    rw [if_neg (by omega)]
    exact k33
  have W1 : ESI Fv' P' PR (enR w8 p 0 ((p : Nat) : Int) (mk 1 6) e') ∧ PB P' PR → WLs (RRt p) PR Fv P Fv' P' none i j0 (enS m2 p (mk 1 6) p e) (enR w8 p 0 ((p : Nat) : Int) (mk 1 6) e') := fun s3 => by
    refine WL_end2 (WL_t wl) hpp ⟨hal, hal'⟩ (fun c => by cases c) gm1 (GGw_fg g8 hj) (SC_fg sc f1 g8) hb15 (by rw [k90]; exact pl.1.2.2) he he' ⟨by omega, by omega⟩ (by omega) ⟨⟨c1.1, cxE⟩, s3.1, s3.2⟩ ⟨p, 0, by rw [v.2.1]; exact rf_some (by omega), hpp, v.1, Or.inr ⟨hpp, a9p⟩, ?_, Or.inl ⟨n1, hP'⟩⟩
    rw [v.2.2]
    exact SRs_lit n1 n6 hP hP' (by omega) (by omega)
  have f26 : F (enS m2 p (mk 1 6) p e) (pq p 26) = ((W + 2 : Nat) : Int) := (congrArg Int32.toInt (enS_i (pq_inj (by omega)) (pq_inj (by omega)) (fun c => pq_n (by omega) c.symm))).trans pl.2.2.1.1
  have f45 : F (enS m2 p (mk 1 6) p e) (pq p 45) = ((l : Nat) : Int) := (congrArg Int32.toInt (enS_i (pq_inj (by omega)) (pq_inj (by omega)) (fun c => pq_n (by omega) c.symm))).trans hl
  have f05 : F (enS m2 p (mk 1 6) p e) 1105 = ((a : Nat) : Int) := (congrArg Int32.toInt (enS_i (pq_n (by omega)) (pq_n (by omega)) (by omega))).trans h05
  have f09 : F (enS m2 p (mk 1 6) p e) 1109 = F m2 1109 := congrArg Int32.toInt (enS_i (pq_n (by omega)) (pq_n (by omega)) (by omega))
  have v1 := v.1
  have cc := c (e := e) (e' := e')
  generalize enS m2 p (mk 1 6) p e = mE at W1 f26 f45 f05 f09 v1 cc
  unfold hb_Ma_toward_335 hm_Ma_answer hb_Ma_answer_0
  rw [show (2 : Int32) = I 2 from rfl, drop_e (W := W + 2) (k := 2) (x := 2) f26 rfl (by omega), bnd_so, show W + 2 - 2 = W by omega]
  refine l_bb (l_bb ?_)
  have e26' : F (wi mE (pq p 26) ((W : Nat) : Int)) (pq p 26) = ((W : Nat) : Int) := wi_sm (by omega) (by omega)
  have e45' : F (wi mE (pq p 26) ((W : Nat) : Int)) (pq p 45) = ((l : Nat) : Int) := by rw [wi_ne (pq_inj (by omega))]; exact f45
  refine l_bnd (pk_mo (push_m (N := N) (t := mk 1 0) e26' e45' (by omega) hl2.2) (fun m8 _ h => ?_))
  obtain ⟨z1, z2, z3⟩ := h
  have k05 : F m8 1105 = ((a : Nat) : Int) := by rw [FR.F z1 (by simp [pq_n]), wi_ne (pq_n (by omega))]; exact f05
  rw [bnd_so, I_F' k05, show I ((a : Nat) : Int) + I 2 = I ((a + 2 : Nat) : Int) from addN, wi_e]
  show PP Q (K1 (wi m8 1105 ((a + 2 : Nat) : Int))) (K2 (enR w8 p 0 ((p : Nat) : Int) (mk 1 6) e'))
  have f3 : FGm p mE (wi m8 1105 ((a + 2 : Nat) : Int)) := FGm.tr (FGm.tr FGm.drop (FGm.push z1)) FGm.pc
  refine cc _ w8 he.1 he'.1 f3 g8 (fun s3 => WL_gone (p := p) (fun _ _ _ _ _ h h1 h2 => RRt_st h h1 h2) (W1 ⟨s3.2.1, s3.2.2⟩) s3 v1 a9p (by omega) (FR.wi (FR.tr (FR.wi FR.rf (by simp)) (FR.mo z1 (by simp) (by simp) (by simp) (by simp))) (by simp)) FR.rf (fun _ _ => rfl) (fun _ _ => rfl) (fun _ _ => rfl)) ?_ a9p ⟨?_, k133⟩
  · show ((wi m8 1105 ((a + 2 : Nat) : Int)).1 (pq p 9)).toInt = _
    rw [wi_1 (fun c => pq_n (by omega) c.symm), z1.1 _ (by simp; exact ⟨pq_inj (by omega), pq_inj (by omega)⟩), wi_1 (pq_inj (by omega))]
    exact v1
  · rw [wi_ne (by omega), FR.F z1 (by simp [pq_n]), wi_ne (pq_n (by omega))]
    exact f09
end
