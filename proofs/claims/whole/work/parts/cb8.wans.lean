/-! a literal is told to the one that goes, by one that has ENDED; the answer comes behind it -/
set_option maxRecDepth 100000
section
variable {b : Int → Nat → Nat → Prop} {Fv Fv' : Int64 → Int64 → Prop} {P P' : Int64 → Prop} {N PR q p i j : Nat} {m w : MS} {t : Int64} {v4 : Int} {RR : Nat → MS → MS → Prop}
theorem wl_lit {a sort : Nat} (hz : (a = 0 ∧ sort = 2) ∨ (a = 4 ∧ sort = 0) ∨ (a = 5 ∧ sort = 1)) (W : WLs RR PR Fv P Fv' P' none i j m w) (hp : p < PR) (hal : F m (pq p 9) ≠ 3) (hq : q < PR) (h1 : ¬ isH t) (h6 : so t = 6 → va t = 0) (hP : P t) (hP' : P' t) (h4 : RG v4) (hN : 3000000 ≤ N) : PP (fun m2 (_ : Unit) w2 (_ : Unit) => WLs RR PR Fv P Fv' P' none i j m2 w2 ∧ MVs m w m2 w2 ∧ ∀ d, d ≠ p → LOCm d m m2 ∧ LOCw d w w2) (hm_Wl_post N m p (I ((a : Nat) : Int)) (I ((q : Nat) : Int)) (I v4) t none) (fm_M_message N w (I ((p : Nat) : Int)) (I ((sort : Nat) : Int)) (I v4) (I ((q : Nat) : Int)) (I 0) (I ((q : Nat) : Int)) t) := by
  have W0 := W
  obtain ⟨sf, -, pr, hR⟩ := W
  have p24 := sf.2.1.1.1.2
  obtain ⟨h9, al⟩ : A w 109 p ≠ 3 ∧ ALr RR m w p := by
    rcases pr p hp with h | h
    · exact h.2
    · exact absurd h.1 hal
  obtain ⟨b, U, B, Wt, Y, pl, rs⟩ := al
  obtain ⟨⟨ow, kd, pt⟩, ⟨ow', kd', cw⟩, bd, b4⟩ := SF_al sf hp hal pl
  exact wl_msg hz W0 hp hal h9 (fun c => by cases c) pl rs pt cw (Or.inl ⟨⟨by omega, Or.inl ⟨rfl, rfl, h1, rfl, h6, hP', rfl⟩⟩, (fun c => by cases c), Or.inl rfl⟩) (Or.inl ⟨rfl, h1, hP⟩) (Or.inl ⟨by omega, h1, hP'⟩) ⟨by omega, by omega⟩ (by omega) (fun _ => hq) h4 hN
/-- a signal: 'no such PROCESS' -/
theorem wl_sgl (W : WLs RR PR Fv P Fv' P' none i j m w) (hp : p < PR) (hal : F m (pq p 9) ≠ 3) (hq : q < PR) (hqd : F m (pq q 9) = 3) (hqd' : A w 109 q = 3) (hN : 3000000 ≤ N) : PP (fun m2 (_ : Unit) w2 (_ : Unit) => WLs RR PR Fv P Fv' P' none i j m2 w2 ∧ MVs m w m2 w2) (hm_Wl_signal N m (I ((q : Nat) : Int)) p (mk 1 3) none) (fm_M_signal N w (I ((p : Nat) : Int)) (I ((q : Nat) : Int)) (I 0) (I ((q : Nat) : Int)) (mk 1 3)) := by
  have W0 := W
  obtain ⟨sf, -, pr, hR⟩ := W
  have sf0 := sf
  obtain ⟨⟨d, cx⟩, ⟨dw, lk, wt⟩, pb⟩ := sf
  have p24 := dw.1.2
  obtain ⟨h9, al⟩ : A w 109 p ≠ 3 ∧ ALr RR m w p := by
    rcases pr p hp with h | h
    · exact h.2
    · exact absurd h.1 hal
  obtain ⟨b, U, B, Wt, Y, pl, rs⟩ := al
  obtain ⟨⟨e, he⟩, e', he'⟩ := SF_e sf0 hp hal
  have qp : q ≠ p := fun c => hal (by rw [← c]; exact hqd)
  have n1 : ¬ isH (mk 1 3) := nh_mk (by omega)
  have n6 : so (mk 1 3) = 6 → va (mk 1 3) = 0 := fun c => by rw [so_mk (by omega) (by omega)] at c; omega
  have hP : P (mk 1 3) := cx.2.2.2.2.2.1 3 (by omega) (by have := cx.2.2.2.1; omega)
  have hP' : P' (mk 1 3) := pb.1 3 (by omega) (by omega)
  have n34 : mk 1 3 ≠ mk 1 4 := fun c => by
    have := congrArg va c
    rw [va_mk (by omega) (by omega), va_mk (by omega) (by omega)] at this
    omega
  have raw : PP (fun m2 (_ : Unit) w2 (_ : Unit) => (WLs RR PR Fv P Fv' P' none i j m2 w2 ∧ MVs m w m2 w2) ∨ (m2 = enS m p (mk 1 3) p e ∧ w2 = enR w p 0 ((q : Nat) : Int) (mk 1 3) e')) (hm_Wl_signal N m (I ((q : Nat) : Int)) p (mk 1 3) none) (fm_M_signal N w (I ((p : Nat) : Int)) (I ((q : Nat) : Int)) (I 0) (I ((q : Nat) : Int)) (mk 1 3)) := by
    have n3 : ¬ m.1 (pq p 9) = 3 := fun z => hal (by show (m.1 (pq p 9)).toInt = 3; rw [z]; rfl)
    have n3' : ¬ w.2.2.1 109 p = 3 := fun z => h9 (by show (w.2.2.1 109 p).toInt = 3; rw [z]; rfl)
    unfold hm_Wl_signal hb_Wl_signal_0 fm_M_signal fb_M_signal_0 fb_M_signal_61 fb_M_signal_51
    refine r_ck (fun _ => ?_)
    rw [tnI (n := p) rfl (by omega), decide_eq_false n3, br_f, decide_eq_false n3', br_f]
    refine r_ck (fun _ => ?_)
    rw [← rs.1.2.2.1]
    by_cases tr : m.1 (pq p 11) = 0
    · rw [decide_eq_true tr, br_t, br_t, lit1, show (4 : Int32) = I 4 from rfl, e_make, bnd_so, term_e, bnd_so, ← lit1, dec_lg0 n34, br_f, show decide (I 0 = 0) = true from rfl, br_t, br_f]
      unfold hb_Wl_signal_43 hb_Wl_signal_59 hb_Wl_signal_70 hb_Wl_signal_121
      rw [show decide ((0 : Int32) = 0) = true from rfl, br_t, show decide ((none : Option Nat) = none) = true from rfl, br_t, endsW_e (e := e) hal he.1 he.2, bnd_so, willE_e (e := e') (by omega) h9 he'.1 he'.2 (by omega), bnd_so]
      exact pp_end (Or.inr ⟨rfl, rfl⟩)
    · rw [decide_eq_false tr, br_f, br_f]
      exact pp_bb (pp_mo (wl_lit (a := 4) (sort := 0) (v4 := 0) (Or.inr (Or.inl ⟨rfl, rfl⟩)) W0 hp hal hq n1 n6 hP hP' ⟨by omega, by omega⟩ hN) (fun m2 _ w2 _ h => pp_end (Or.inl ⟨h.1, h.2.1⟩)))
  have hpq := pp_pr (pp_pl raw (pk_ok (signalc_ok (N := N) (x := ((q : Nat) : Int)) d cx hp ⟨by omega, by omega⟩ (src := none) (fun _ => Or.inl ⟨rfl, n1, hP⟩) (fun _ jx ej hj => by cases ej) (by omega)))) (pk_ok (signal_ok (N := N) (p := q) dw hp hq pb (show 0 ≤ (0 : Int) ∧ (0 : Int) ≤ 2 by omega) (show q ≤ 24 by omega) (Or.inl ⟨n1, hP'⟩) (by omega)))
  refine pp_mo hpq (fun m2 _ w2 _ h => ?_)
  obtain ⟨⟨h | ⟨rfl, rfl⟩, ⟨dc2, wf, st⟩, e956⟩, dw2, ev, kp⟩ := h
  · exact h
  · have sf2 : SFs Fv P Fv' P' PR (enS m p (mk 1 3) p e) (enR w p 0 ((q : Nat) : Int) (mk 1 3) e') := ⟨⟨dc2, CTX_fr cx (wf.2.1 22 (by omega) (by simp)) (wf.2.2.2.1 3 (by omega) (by simp))⟩, ⟨dw2, LK_fr lk ev.1 (by simp) (by simp), WTQ_fr wt ev.1 (by simp) (by simp) (by simp)⟩, pb⟩
    have v := enS_v (m := m) (q := p) (t := mk 1 3) (hm := p) (e := e)
    have a9 := enR_9 (w := w) (q := p) (wr := 0) (o := q) (x := mk 1 3) (e := e')
    refine (fun h => ⟨h.1, h.2.1⟩) (wl_end W0 hp ⟨hal, h9⟩ (fun c => by cases c) FR.rf XMr.rf he he' pl.1.2.2 ⟨by omega, by omega⟩ (by omega) sf2 ⟨p, 0, by rw [v.2.1]; exact rf_some (by omega), hp, v.1, Or.inr ⟨hq, by rw [a9, if_neg qp]; exact hqd'⟩, ?_, Or.inl ⟨n1, hP'⟩⟩)
    rw [v.2.2]
    exact SRs_lit n1 n6 hP hP' (by omega) (by omega)
end
section
variable {w : MS} {p W j : Nat} {x : Int64}
/-- a literal instead of another, here: as it was put -/
theorem zp_put (h : A w 92 p = ((W + 1 : Nat) : Int)) : wa (wj (wa w 92 p ((W : Nat) : Int)) 91 (46000 * p + W) x) 92 p ((W + 1 : Nat) : Int) = Zp p W x w := by
  refine Prod.ext rfl (Prod.ext rfl (Prod.ext (funext (fun K => ?_)) rfl))
  by_cases c : K = 92
  · subst c
    funext k
    show (wa (wj (wa w 92 p ((W : Nat) : Int)) 91 (46000 * p + W) x) 92 p ((W + 1 : Nat) : Int)).2.2.1 92 k = w.2.2.1 92 k
    by_cases ck' : k = p
    · subst ck'
      rw [wa_s1]
      exact (I_A' h).symm
    · rw [wa_at (fun z => ck' z.2)]
      show (wa w 92 p ((W : Nat) : Int)).2.2.1 92 k = _
      rw [wa_at (fun z => ck' z.2)]
  · rw [wa_21 c]
    show (wa w 92 p ((W : Nat) : Int)).2.2.1 K = w.2.2.1 K
    rw [wa_21 c]
theorem FGw_zp (hW : W < 46000) : FGw p j w (Zp p W x w) := FGw.w91 hW
end
section
variable {α β : Type} {b : Int → Nat → Nat → Prop} {Fv Fv' : Int64 → Int64 → Prop} {P P' : Int64 → Prop} {N PR p i j0 j U B W Y a n l : Nat} {m2 w3 : MS} {x : Int64} {nb : Nat → Nat} {Hs Os : Nat → List Nat} {y : Option (Nat × Nat × Nat)} {Q : MS → α → MS → β → Prop} {K1 : MS → Option (MS × α)} {K2 : MS → Option (MS × β)}
/-- the answer behind it: there it comes now, here it has come -/
theorem wans (hpp : p < PR) (W2 : WLs (RRx p (RUv p j nb Hs Os y a (n + 1) B (W + 1) l)) PR Fv P Fv' P' none i j0 m2 w3) (hW : W + 1 ≤ 46000) (hl2 : W + 1 ≤ l ∧ l ≤ 1000000) (f26 : F m2 (pq p 26) = ((W + 1 : Nat) : Int)) (f45 : F m2 (pq p 45) = ((l : Nat) : Int)) (f05 : F m2 1105 = ((a : Nat) : Int)) (f09 : F m2 1109 = 0) (g33 : F w3 133 = ((p : Nat) : Int)) (ha : a + 2 < 24000) (n1 : ¬ isH x) (n6 : so x = 6 → va x = 0) (cr : ∃ f, CRs (A m2 23) (ROs w3) (w3.2.2.2 34) f y (a + 2) (n + 1) (Hs j) (Os j))
    (kA : ∀ b3 U3 Y3 m3 w4, (SFs Fv P Fv' P' PR m3 w4 → WLs (RRp p) PR Fv P Fv' P' none i j0 m3 w4) → PLs b3 p m3 w4 U3 B (W + 1) Y3 → RUs m3 w4 p j nb Hs Os y (a + 2) (n + 1) → FGm p m2 m3 → FGw p j w3 w4 → PP Q (K1 m3) (K2 w4))
    (kD : ∀ m3 w4, (SFs Fv P Fv' P' PR m3 w4 → WLs (RRt p) PR Fv P Fv' P' none i j0 m3 w4) → F m3 (pq p 9) = 3 → A w4 109 p = 3 → FGm p m2 m3 → FGw p j w3 w4 → (F m3 1109 = 0 ∧ F w4 133 = ((p : Nat) : Int)) → PP Q (K1 m3) (K2 w4)) : PP Q (bnd (hb_Ma_toward_335 N () m2 p 1 x) (fun u _ => K1 u)) (K2 (Zp p W x w3)) := by
  have p24 : PR ≤ 24 := W2.1.2.1.1.1.2
  unfold hb_Ma_toward_335 hm_Ma_answer hb_Ma_answer_0
  rw [show (1 : Int32) = I 1 from rfl, drop_e (W := W + 1) (k := 1) (x := 1) f26 rfl (by omega), bnd_so, Nat.add_sub_cancel]
  refine l_bb (l_bb ?_)
  have e26' : F (wi m2 (pq p 26) ((W : Nat) : Int)) (pq p 26) = ((W : Nat) : Int) := wi_sm (by omega) (by omega)
  have e45' : F (wi m2 (pq p 26) ((W : Nat) : Int)) (pq p 45) = ((l : Nat) : Int) := by rw [wi_ne (pq_inj (by omega))]; exact f45
  refine l_bnd (pk_mo (push_m (N := N) (t := x) e26' e45' (by omega) hl2.2) (fun m8 _ h => ?_))
  obtain ⟨z1, z2, z3⟩ := h
  have h05 : F m8 1105 = ((a : Nat) : Int) := by rw [FR.F z1 (by simp [pq_n]), wi_ne (pq_n (by omega))]; exact f05
  rw [bnd_so, I_F' h05, show I ((a : Nat) : Int) + 2 = I ((a + 2 : Nat) : Int) from addN, wi_e]
  show PP Q (K1 (wi m8 1105 ((a + 2 : Nat) : Int))) (K2 (Zp p W x w3))
  have fm3 : FGm p m2 (wi m8 1105 ((a + 2 : Nat) : Int)) := FGm.tr (FGm.tr FGm.drop (FGm.push z1)) FGm.pc
  have fw3 : FGw p j w3 (Zp p W x w3) := FGw_zp (by omega)
  have rv0 : ∀ b' U' Y' B' W', PLs b' p m2 w3 U' B' W' Y' → W' = W + 1 := fun b' U' Y' B' W' pl' => by
    have h1 := pl'.2.2.1.1
    rw [f26] at h1
    omega
  rcases W2.2.2.1 p hpp with ⟨x1, x2, b', U', B', W', Y', pl', sc', rr⟩ | ⟨x1, x2, -⟩
  · have rv : RUv p j nb Hs Os y a (n + 1) B (W + 1) l m2 w3 := by
      rcases rr with ⟨-, rr⟩ | ⟨c, -⟩
      · exact rr
      · exact absurd rfl c
    have hj : j < 60 := rv.1.1.1.1.2.2
    have eW : W' = W + 1 := rv0 _ _ _ _ _ pl'
    have eB : B' = B := by
      have h1 := pl'.2.1.1
      have h2 := rv.2.2.1
      omega
    subst eW eB
    have pl3 := PLs_pc (z := ((a + 2 : Nat) : Int)) (PLs_push (x := x) (PLs_drop (k := 1) (W := W) pl' (by omega)) (RTb_lit n1 n6) z1 z2 z3)
    rw [zp_put pl'.2.2.1.2.1] at pl3
    obtain ⟨q1, ⟨q5, q6⟩, q7, ⟨q8, q9, q10⟩, q11, q12, q13⟩ := rv.1
    have ru3 := RUs_mk (a2 := a + 2) (n2 := n + 1) q1 q5 q6 q7 q8 q9 q10 q11 q12 q13 fm3 fw3 (wi_sm (by omega) (by omega)) rv.2.1.2 cr
    exact kA b' U' Y' _ _ (fun s3 => WL_own (WL_vt W2) hpp x1 x2 s3 (GGm_fg fm3) (GGw_fg fw3 hj) pl3 (SC_fg sc' fm3 fw3) ru3) pl3 ru3 fm3 fw3
  · refine kD _ _ (fun s3 => WL_gone (fun _ _ _ _ _ h h1 h2 => RRt_st h h1 h2) (WL_vt W2) s3 x1 x2 (by omega) (FR.wi (FR.tr (FR.wi FR.rf (by simp)) (FR.mo z1 (by simp) (by simp) (by simp) (by simp))) (by simp)) ⟨fun _ _ => rfl, fun _ _ => rfl, fun _ _ => rfl, fun K h => if_neg (by simpa using h)⟩ (fun k _ => rfl) (fun k _ => rfl) (fun k hk => fw3.2.2.2.2.1 k hk)) ?_ x2 fm3 fw3 ⟨?_, g33⟩
    · show ((wi m8 1105 ((a + 2 : Nat) : Int)).1 (pq p 9)).toInt = _
      rw [wi_1 (fun c => pq_n (by omega) c.symm), z1.1 _ (by simp; exact ⟨pq_inj (by omega), pq_inj (by omega)⟩), wi_1 (pq_inj (by omega))]
      exact x1
    · rw [wi_ne (by omega), FR.F z1 (by simp [pq_n]), wi_ne (pq_n (by omega))]
      exact f09
end
