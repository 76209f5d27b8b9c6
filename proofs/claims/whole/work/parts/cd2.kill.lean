/-! exit, toward a PROCESS: kill -/
set_option maxRecDepth 100000
section
variable {is ls as js : List Nat} {u v w w2 m m2 : MS} {k i p q j e : Nat} {x wr o : Int} {t : Int64}
/-- the same is written on both sides -/
theorem FR_cwa (f : FR is ls as js u v) : FR is ls as js (wa u k i x) (wa v k i x) := ⟨f.1, f.2.1, fun K hK => by
  show (if K = k then upd (v.2.2.1 k) i (I x) else v.2.2.1 K) = (if K = k then upd (u.2.2.1 k) i (I x) else u.2.2.1 K)
  by_cases c : K = k
  · subst c
    rw [if_pos rfl, if_pos rfl, f.2.2.1 K hK]
  · rw [if_neg c, if_neg c, f.2.2.1 K hK], f.2.2.2⟩
theorem FR_cwj (f : FR is ls as js u v) : FR is ls as js (wj u k i t) (wj v k i t) := ⟨f.1, f.2.1, f.2.2.1, fun K hK => by
  show (if K = k then vp_updL (v.2.2.2 k) i t else v.2.2.2 K) = (if K = k then vp_updL (u.2.2.2 k) i t else u.2.2.2 K)
  by_cases c : K = k
  · subst c
    rw [if_pos rfl, if_pos rfl, f.2.2.2 K hK]
  · rw [if_neg c, if_neg c, f.2.2.2 K hK]⟩
theorem FR_cup {z : Int32} (f : FR is ls as js u v) : FR is ls as js (upI u k z) (upI v k z) := ⟨fun K hK => by
  show (if K = k then z else v.1 K) = (if K = k then z else u.1 K)
  by_cases c : K = k
  · rw [if_pos c, if_pos c]
  · rw [if_neg c, if_neg c, f.1 K hK], f.2.1, f.2.2.1, f.2.2.2⟩
theorem FR_cwi (f : FR is ls as js u v) : FR is ls as js (wi u k x) (wi v k x) := FR_cup f
theorem FR_cwl (f : FR is ls as js u v) : FR is ls as js (wl u k t) (wl v k t) := ⟨f.1, fun K hK => by
  show (if K = k then t else v.2.1 K) = (if K = k then t else u.2.1 K)
  by_cases c : K = k
  · rw [if_pos c, if_pos c]
  · rw [if_neg c, if_neg c, f.2.1 K hK], f.2.2.1, f.2.2.2⟩
theorem enS_i {hm : Nat} (h1 : k ≠ pq q 9) (h2 : k ≠ pq q 17) (h3 : k ≠ 955) : (enS m q t hm e).1 k = m.1 k := by
  show (if k = 955 then I ((e + 1 : Nat) : Int) else if k = pq q 17 then fr (some hm) else if k = pq q 9 then I 3 else m.1 k) = _
  rw [if_neg h3, if_neg h2, if_neg h1]
/-- one ENDS, on both sides of a step -/
theorem FGm_en {hm : Nat} (f : FGm p m m2) : FGm p (enS m q t hm e) (enS m2 q t hm e) := FR_cwi (FR_cwa (FR_cup (FR_cwl (FR_cwi f))))
theorem FGw_en (g : FGw p j w w2) : FGw p j (enR w q wr o t e) (enR w2 q wr o t e) := by
  obtain ⟨g1, g2, g3, g4⟩ := g
  have eA : ∀ (s : MS) (K : Nat), K ≠ 109 → K ≠ 145 → K ≠ 146 → K ≠ 147 → (enR s q wr o t e).2.2.1 K = s.2.2.1 K := fun s K h1 h2 h3 h4 => by
    show (wa (wa (wa (wa s 109 q 3) 145 e ((q : Nat) : Int)) 146 e wr) 147 e o).2.2.1 K = _
    rw [wa_21 h4, wa_21 h3, wa_21 h2, wa_21 h1]
  have eJ : ∀ (s : MS) (K : Nat), K ≠ 148 → (enR s q wr o t e).2.2.2 K = s.2.2.2 K := fun s K h => if_neg h
  refine ⟨FR_cwi (FR_cwj (FR_cwa (FR_cwa (FR_cwa (FR_cwa g1))))), fun k hk => ?_, fun k hk => ?_, ?_⟩
  · show ((enR w2 q wr o t e).2.2.1 89 k).toInt = ((enR w q wr o t e).2.2.1 89 k).toInt ∧ (enR w2 q wr o t e).2.2.1 90 k = (enR w q wr o t e).2.2.1 90 k ∧ ((enR w2 q wr o t e).2.2.1 92 k).toInt = ((enR w q wr o t e).2.2.1 92 k).toInt
    rw [eA w2 89 (by omega) (by omega) (by omega) (by omega), eA w 89 (by omega) (by omega) (by omega) (by omega), eA w2 90 (by omega) (by omega) (by omega) (by omega), eA w 90 (by omega) (by omega) (by omega) (by omega), eA w2 92 (by omega) (by omega) (by omega) (by omega), eA w 92 (by omega) (by omega) (by omega) (by omega)]
    exact g2 k hk
  · show ((enR w2 q wr o t e).2.2.1 98 k).toInt = ((enR w q wr o t e).2.2.1 98 k).toInt
    rw [eA w2 98 (by omega) (by omega) (by omega) (by omega), eA w 98 (by omega) (by omega) (by omega) (by omega)]
    exact g3 k hk
  · rw [eJ w2 88 (by omega), eJ w 88 (by omega), eJ w2 91 (by omega), eJ w 91 (by omega), eJ w2 93 (by omega), eJ w 93 (by omega), eJ w2 107 (by omega), eJ w 107 (by omega)]
    exact g4
end
section
variable {Fv Fv' : Int64 → Int64 → Prop} {P P' : Int64 → Prop} {N PR q i j e e' : Nat} {m w : MS} {RR : Nat → MS → MS → Prop}
/-- there: endsBy 6 -/
theorem endB_k (h9 : F m (pq q 9) ≠ 3) (he : F m 955 = ((e : Nat) : Int)) (hl : e < 24) : hm_Wl_endsBy N m q 6 = some (enS m q (mk 1 6) q e, ()) := by
  unfold hm_Wl_endsBy hb_Wl_endsBy_0
  rw [show (1 : Int32) = I 1 from rfl, show (6 : Int32) = I 6 from rfl, e_make, bnd_so, endsW_e (e := e) h9 he hl, bnd_so]
/-- here: exitRun with kill -/
theorem exr_k (hq : q < 24) (h9 : A w 109 q ≠ 3) (he : F w 150 = ((e' : Nat) : Int)) (hl : e' < 4000) : PK (fun w2 (_ : Unit) => w2 = enR w q 0 ((q : Nat) : Int) (mk 1 6) e') (fm_M_exitRun N w (I ((q : Nat) : Int)) (mk 1 5)) := by
  have r9 := A_r w 109 q
  unfold fm_M_exitRun fb_M_exitRun_0 fb_M_exitRun_111
  refine pk_ck (fun _ => ?_)
  rw [tnI (n := q) rfl (by omega), I_A (k := 109), show decide (I (A w 109 q) = 3) = false from by rw [show (3 : Int32) = I 3 from rfl, decE r9.1 r9.2 (by omega) (by omega)]; exact decide_eq_false h9, br_f, show fm_M_term N w 1 5 = some (w, mk 1 5) from rfl, bnd_so, show decide (lg_cmp (mk 1 5) (mk 1 5) = 0) = true from decide_eq_true ((lgc_eq _ _).mpr rfl), br_t, show fm_M_term N w 1 6 = some (w, mk 1 6) from rfl, bnd_so, show (0 : Int32) = I 0 from rfl, willE_e (e := e') (by omega) h9 he hl (by omega), bnd_so]
  exact pk_some rfl
/-- the world, when q is killed -/
theorem wl_kil (W : WLs RR PR Fv P Fv' P' none i j m w) (hq : q < PR) (hal : F m (pq q 9) ≠ 3) (he : F m 955 = ((e : Nat) : Int) ∧ e < 24) (he' : F w 150 = ((e' : Nat) : Int) ∧ e' < 4000) : WLs RR PR Fv P Fv' P' none i j (enS m q (mk 1 6) q e) (enR w q 0 ((q : Nat) : Int) (mk 1 6) e') ∧ MVs m w (enS m q (mk 1 6) q e) (enR w q 0 ((q : Nat) : Int) (mk 1 6) e') ∧ ∀ d, d ≠ q → LOCm d m (enS m q (mk 1 6) q e) ∧ LOCw d w (enR w q 0 ((q : Nat) : Int) (mk 1 6) e') := by
  have W0 := W
  obtain ⟨sf, -, pr, hR⟩ := W
  obtain ⟨⟨d, cx⟩, ⟨dw, lk, wt⟩, pb⟩ := sf
  have p24 := dw.1.2
  obtain ⟨h9, al⟩ : A w 109 q ≠ 3 ∧ ALr RR m w q := by
    rcases pr q hq with h | h
    · exact h.2
    · exact absurd h.1 hal
  obtain ⟨b, U, B, Wt, Y, pl, rs⟩ := al
  have n1 : ¬ isH (mk 1 6) := nh_mk (by omega)
  have n6 : so (mk 1 6) = 6 → va (mk 1 6) = 0 := fun c => by rw [so_mk (by omega) (by omega)] at c; omega
  have hP : P (mk 1 6) := cx.2.2.2.2.2.1 6 (by omega) (by have := cx.2.2.2.1; omega)
  have hP' : P' (mk 1 6) := pb.1 6 (by omega) (by omega)
  have c1 := pk_ok (endsBy_ok (N := 0) (a := 6) d cx hq hal (by omega)) _ () (endB_k (N := 0) hal he.1 he.2)
  have c2 := pk_ok (willEnd_ok (N := 0) (p := q) (o := q) (wr := 0) (t := mk 1 6) dw hq (by omega) (by omega) (Or.inl ⟨n1, hP'⟩)) _ () (willE_e (N := 0) (e := e') (by omega) h9 he'.1 he'.2 (by omega))
  have sf2 : SFs Fv P Fv' P' PR (enS m q (mk 1 6) q e) (enR w q 0 ((q : Nat) : Int) (mk 1 6) e') := ⟨⟨c1.1, CTX_fr cx (c1.2.1.2.1 22 (by omega) (by simp)) (c1.2.1.2.2.2.1 3 (by omega) (by simp))⟩, ⟨c2.1, LK_fr lk c2.2.1 (by simp) (by simp), WTQ_fr wt c2.2.1 (by simp) (by simp) (by simp)⟩, pb⟩
  have v := enS_v (m := m) (q := q) (t := mk 1 6) (hm := q) (e := e)
  have a9 := enR_9 (w := w) (q := q) (wr := 0) (o := q) (x := mk 1 6) (e := e')
  refine wl_end W0 hq ⟨hal, h9⟩ (fun c => by cases c) FR.rf XMr.rf he he' pl.1.2.2 ⟨by omega, by omega⟩ (by omega) sf2 ⟨q, 0, by rw [v.2.1]; exact rf_some (by omega), hq, v.1, Or.inr ⟨hq, by rw [a9, if_pos rfl]⟩, ?_, Or.inl ⟨n1, hP'⟩⟩
  rw [v.2.2]
  exact SRs_lit n1 n6 hP hP' (by omega) (by omega)
end
section
variable {α β : Type} {b : Int → Nat → Nat → Prop} {Fv Fv' : Int64 → Int64 → Prop} {P P' : Int64 → Prop} {N PR p q i j0 U B W Y l j a n : Nat} {m w m2 w2 : MS} {nb : Nat → Nat} {Hs Os : Nat → List Nat} {y : Option (Nat × Nat × Nat)} {Q : MS → α → MS → β → Prop} {K1 : MS → Option (MS × α)} {K2 : MS → Option (MS × β)}
/-- another is killed -/
theorem op_exitK (hpp : p < PR) (hq : q < PR) (hqp : q ≠ p) (hal : F m (pq q 9) ≠ 3) (wl : WLs (RRp p) PR Fv P Fv' P' none i j0 m w) (ru : RUs m w p j nb Hs Os y a n) (sc : SCs p m w) (hW : W + 2 ≤ 46000) (hBY : B ≤ 2500 ∧ Y ≤ 30) (hl : F m2 (pq p 45) = ((l : Nat) : Int)) (hl2 : W + 2 ≤ l ∧ l ≤ 1000000) (pl : PLs b p m2 w2 U B (W + 2) Y) (f1 : FGm p m m2) (h05 : F m2 1105 = ((a : Nat) : Int)) (g1 : FGw p j w w2) (h98 : A w2 98 (60 * p + j) = ((n + 1 : Nat) : Int)) (cr : ∃ f, CRs (A m 23) (ROs w) (w.2.2.2 34) f y (a + 2) (n + 1) (Hs j) (Os j)) (h5 : m2.2.2.2 (pq p 35) (W + 1) = mk 1 5)
    (c : ∀ mB wB m3 w3, (SFs Fv P Fv' P' PR m3 w3 → WLs (RRp p) PR Fv P Fv' P' none i j0 m3 w3) → PLs b p m3 w3 U B (W + 1) Y → RUs m3 w3 p j nb Hs Os y (a + 2) (n + 1) → MVs m w mB wB → FGm p mB m3 → FGw p j wB w3 → (∃ e e' : Nat, mB = enS m q (mk 1 6) q e ∧ wB = enR w q 0 ((q : Nat) : Int) (mk 1 6) e') → PP Q (K1 m3) (K2 w3)) : PP Q (bnd (hb_Ma_toward_95 N () m2 p (I 29) 2 (some q)) (fun u _ => K1 u)) (bnd (fb_M_processRun_151 N () w2 (I 8) (w2.2.2.2 91 (46000 * p + (W + 1))) (I ((q : Nat) : Int)) 92 (I ((p : Nat) : Int)) (I ((W + 2 : Nat) : Int)) 2) (fun u _ => K2 u)) := by
  obtain ⟨⟨fa, -⟩, -, -, ⟨q9, q9w⟩, -, -, r11, -, -⟩ := id ru
  have hj : j < 60 := fa.1.2.2
  have p24 : PR ≤ 24 := wl.1.2.1.1.1.2
  have cb2 : a + 2 + 1 < 24000 := by
    obtain ⟨f9, cr9⟩ := cr
    exact (CR_b cr9).1
  have hU := pl.1.1.2.2
  have rt := pl.2.2.1.2.2 (W + 1) (by omega)
  have xt : w2.2.2.2 91 (46000 * p + (W + 1)) = mk 1 5 := by
    rw [h5] at rt
    exact RTb_n rt (nh_mk (by omega))
  have be0 : hm_Fr_below N m2 p 0 = some (m2, m2.2.2.2 (pq p 35) (W + 1)) := by
    have := below_e (N := N) (x := 0) (k := 0) (W := W + 2) (l := l) pl.2.2.1.1 hl hl2.1 hl2.2 rfl (by omega)
    rw [show W + 2 - 1 - 0 = W + 1 by omega] at this
    exact this
  have gm1 := GGm_fg f1
  have gw1 := GGw_fg g1 hj
  have e9 : F m2 (pq q 9) = F m (pq q 9) := congrArg Int32.toInt (gm1.1 q hqp 9 (by omega)).1
  have h9w : A w 109 q ≠ 3 := by
    rcases wl.2.2.1 q hq with ⟨-, x2, -⟩ | ⟨x1, -⟩
    · exact x2
    · exact absurd x1 hal
  obtain ⟨⟨e, he⟩, e', he'⟩ := SF_e wl.1 hq hal
  obtain ⟨WB, mv, loc⟩ := wl_kil wl hq hal he he'
  obtain ⟨lm, lw⟩ := loc p (Ne.symm hqp)
  have em := EQm_loc mv.1.1 lm
  have ew := EQw_loc mv.1.1 lw
  have hb15 : F m (pq p 15) ≤ 24 := by
    rcases wl.2.2.1 p hpp with ⟨x1, x2, b', U', B', W', Y', pl', -⟩ | ⟨x1, -⟩
    · exact (SF_al wl.1 hpp x1 pl').2.2.2.2
    · rw [q9] at x1
      omega
  have ruB := RUs_st ru em.n ew.v mv.1
  have scB := SC_eq sc hb15 em ew
  have crB : ∃ f, CRs (A (enS m q (mk 1 6) q e) 23) (ROs (enR w q 0 ((q : Nat) : Int) (mk 1 6) e')) ((enR w q 0 ((q : Nat) : Int) (mk 1 6) e').2.2.2 34) f y (a + 2) (n + 1) (Hs j) (Os j) := by
    rw [show A (enS m q (mk 1 6) q e) 23 = A m 23 from by funext k; show ((enS m q (mk 1 6) q e).2.2.1 23 k).toInt = _; rw [em.2.2.2]; rfl, ROs_eq (w := w) ew.2.2.1, ew.2.2.2]
    exact cr
  have e955 : F m2 955 = ((e : Nat) : Int) := (congrArg Int32.toInt gm1.2.2.1).trans he.1
  have x33 : F w2 133 = ((p : Nat) : Int) := by rw [FR.F g1.1 (by simp)]; exact r11
  rw [tw95_29, be0, bnd_so, h5, show decide (lg_cmp (mk 1 5) (mk 1 5) = 0) = true from decide_eq_true ((lgc_eq _ _).mpr rfl), br_t, endB_k (e := e) (by rw [e9]; exact hal) e955 he.2, bnd_so, prr_8, sub2, tnI (n := p) rfl (by omega), wa_e, xt]
  refine rb_ck (fun _ => rb_ck (fun _ => ?_))
  rw [lt_e, truth1, bnd_so]
  have y92 : A (wa w2 92 p ((W : Nat) : Int)) 92 p = ((W : Nat) : Int) := wa_sm (by omega) (by omega)
  have y33 : F (wa w2 92 p ((W : Nat) : Int)) 133 = ((p : Nat) : Int) := x33
  refine r_bb (r_bnd (pk_mo (put_r (N := N) (x := mk 1 0) (W := W) (by omega) y33 y92 (by omega)) (fun w8 _ e8 => ?_)))
  have g8 : FGw p j w w8 := by rw [e8]; exact FGw.tr (FGw.tr g1 FGw.w92) (FGw.put (by omega))
  have k98 : A w8 98 (60 * p + j) = ((n + 1 : Nat) : Int) := by rw [e8, wa_rne (by omega), A_wj, wa_rne (by omega)]; exact h98
  refine rb_bnd (pk_mo (exr_k (N := N) (q := q) (e' := e') (by omega) (by rw [FR.A g8.1 (by simp)]; exact h9w) (by rw [FR.F g8.1 (by simp)]; exact he'.1) he'.2) (fun w9 _ e99 => ?_))
  subst e99
  rw [bnd_so]
  -- the answer
  have sq : ∀ k, k < 100 → (enS m2 q (mk 1 6) q e).1 (pq p k) = m2.1 (pq p k) := fun k hk => enS_i (fun c => hqp (pq_e hk (by omega) c).1.symm) (fun c => hqp (pq_e hk (by omega) c).1.symm) (fun c => pq_n (by omega) c.symm)
  have s05 : (enS m2 q (mk 1 6) q e).1 1105 = m2.1 1105 := enS_i (pq_n (by omega)) (pq_n (by omega)) (by omega)
  have sJ : (enS m2 q (mk 1 6) q e).2.2.2 = m2.2.2.2 := rfl
  have fE : FGm p (enS m q (mk 1 6) q e) (enS m2 q (mk 1 6) q e) := FGm_en f1
  have pl1 : PLs b p (enS m2 q (mk 1 6) q e) w2 U B (W + 2) Y := PLs_cg pl (fun k hk => sq k (by simp at hk; omega)) (fun _ _ => rfl) (fun _ _ => rfl) (fun _ _ => rfl) (fun _ _ => rfl) (fun _ _ => rfl) (fun _ _ => rfl) (fun _ _ => rfl) (fun _ _ => rfl) (fun _ _ => rfl)
  have f45 : F (enS m2 q (mk 1 6) q e) (pq p 45) = ((l : Nat) : Int) := (congrArg Int32.toInt (sq 45 (by omega))).trans hl
  have f05 : F (enS m2 q (mk 1 6) q e) 1105 = ((a : Nat) : Int) := (congrArg Int32.toInt s05).trans h05
  generalize enS m2 q (mk 1 6) q e = mE at pl1 f45 f05 fE
  have pd := PLs_drop (k := 2) (W := W) pl1 (by omega)
  unfold hb_Ma_toward_335 hm_Ma_answer hb_Ma_answer_0
  rw [show (2 : Int32) = I 2 from rfl, drop_e (W := W + 2) (k := 2) (x := 2) pl1.2.2.1.1 rfl (by omega), bnd_so, show W + 2 - 2 = W by omega]
  refine l_bb (l_bb ?_)
  have e26' : F (wi mE (pq p 26) ((W : Nat) : Int)) (pq p 26) = ((W : Nat) : Int) := wi_sm (by omega) (by omega)
  have e45' : F (wi mE (pq p 26) ((W : Nat) : Int)) (pq p 45) = ((l : Nat) : Int) := by rw [wi_ne (pq_inj (by omega))]; exact f45
  refine l_bnd (pk_mo (push_m (N := N) (t := mk 1 0) e26' e45' (by omega) hl2.2) (fun m8 _ h => ?_))
  obtain ⟨z1, z2, z3⟩ := h
  have k05 : F m8 1105 = ((a : Nat) : Int) := by rw [FR.F z1 (by simp [pq_n]), wi_ne (pq_n (by omega))]; exact f05
  rw [bnd_so, I_F' k05, show I ((a : Nat) : Int) + I 2 = I ((a + 2 : Nat) : Int) from addN, wi_e]
  show PP Q (K1 (wi m8 1105 ((a + 2 : Nat) : Int))) (K2 (enR w8 q 0 ((q : Nat) : Int) (mk 1 6) e'))
  have n1 : ¬ isH (mk 1 0) := nh_mk (by omega)
  have n6 : so (mk 1 0) = 6 → va (mk 1 0) = 0 := fun c => by rw [so_mk (by omega) (by omega)] at c; omega
  have pl3 := PLs_pc (z := ((a + 2 : Nat) : Int)) (PLs_push (x := mk 1 0) pd (RTb_lit n1 n6) z1 z2 z3)
  rw [← e8] at pl3
  have eA : ∀ (K : Nat), K ≠ 109 → K ≠ 145 → K ≠ 146 → K ≠ 147 → (enR w8 q 0 ((q : Nat) : Int) (mk 1 6) e').2.2.1 K = w8.2.2.1 K := fun K h1 h2 h3 h4 => by
    show (wa (wa (wa (wa w8 109 q 3) 145 e' ((q : Nat) : Int)) 146 e' 0) 147 e' ((q : Nat) : Int)).2.2.1 K = _
    rw [wa_21 h4, wa_21 h3, wa_21 h2, wa_21 h1]
  have eJ : ∀ (K : Nat), K ≠ 148 → (enR w8 q 0 ((q : Nat) : Int) (mk 1 6) e').2.2.2 K = w8.2.2.2 K := fun K h => if_neg h
  have pl4 : PLs b p (wi m8 1105 ((a + 2 : Nat) : Int)) (enR w8 q 0 ((q : Nat) : Int) (mk 1 6) e') U B (W + 1) Y := PLs_cg pl3 (fun _ _ => rfl) (fun _ _ => rfl) (fun _ _ => rfl) (fun _ _ => rfl) (fun _ _ => rfl) (fun k hk => by rw [eA k (by simp at hk; omega) (by simp at hk; omega) (by simp at hk; omega) (by simp at hk; omega)]) (fun i _ => by rw [eJ 88 (by omega)]) (fun i _ => by rw [eJ 93 (by omega)]) (fun i _ => by rw [eJ 91 (by omega)]) (fun i _ => by rw [eJ 107 (by omega)])
  have f3 : FGm p (enS m q (mk 1 6) q e) (wi m8 1105 ((a + 2 : Nat) : Int)) := FGm.tr (FGm.tr (FGm.tr fE FGm.drop) (FGm.push z1)) FGm.pc
  have g3 : FGw p j (enR w q 0 ((q : Nat) : Int) (mk 1 6) e') (enR w8 q 0 ((q : Nat) : Int) (mk 1 6) e') := FGw_en g8
  have k98' : A (enR w8 q 0 ((q : Nat) : Int) (mk 1 6) e') 98 (60 * p + j) = ((n + 1 : Nat) : Int) := by
    show ((enR w8 q 0 ((q : Nat) : Int) (mk 1 6) e').2.2.1 98 (60 * p + j)).toInt = _
    rw [eA 98 (by omega) (by omega) (by omega) (by omega)]
    exact k98
  have ru3 := RUs_mv (a2 := a + 2) (n2 := n + 1) ruB f3 g3 (wi_sm (by omega) (by omega)) k98' crB
  exact c _ _ _ _ (fun s3 => WL_own (WL_t WB) hpp (by rw [ruB.2.2.2.1.1]; omega) (by rw [ruB.2.2.2.1.2]; omega) s3 (GGm_fg f3) (GGw_fg g3 hj) pl4 (SC_fg scB f3 g3) ru3) pl4 ru3 mv f3 g3 ⟨e, e', rfl, rfl⟩
end
