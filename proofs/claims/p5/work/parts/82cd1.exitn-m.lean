section
set_option maxRecDepth 100000
section
variable {N p q W l : Nat} {u w m : MS} {x t v2 : Int64} {v7 t1 t2 : Int32}
theorem tw95_29 : hb_Ma_toward_95 N () u p (I 29) 2 (some q) = bnd (hm_Fr_below N u p 0) (fun u43 r43 => br (decide ((lg_cmp r43 (mk 1 5)) = 0)) (bnd (hm_Wl_endsBy N u43 q 6) (fun u57 _ => hb_Ma_toward_335 N () u57 p 2 (mk 1 0))) (bnd (hm_Fr_below N u43 p 0) (fun u51 r51 => bnd (hm_Wl_signal N u51 (Int32.ofNat p) q r51 (some p)) (fun u54 _ => hb_Ma_toward_335 N () u54 p 2 (mk 1 0))))) := rfl
theorem prr_8 : fb_M_processRun_151 N () w (I 8) v2 v7 92 t1 t2 2 = ck (isK 92 4) (ck (inb t1 (ln 92)) (lt (upA w 92 (upd (w.2.2.1 92) t1.toNatClampNeg (t2 - 2))) (fun w3 => bnd (fm_M_truth N w3 1) (fun u4 r4 => bnd (fm_M_put N u4 r4) (fun u5 _ => bnd (fm_M_exitRun N u5 v7 v2) (fun u15 _ => some (u15, ()))))))) := rfl
theorem sub2 : I ((W + 2 : Nat) : Int) - 2 = I ((W : Nat) : Int) := by
  rw [show (2 : Int32) = I 2 from rfl, I_sub]
  congr 1
  omega
theorem endB_d (h : F m (pq q 9) = 3) : hm_Wl_endsBy N m q 6 = some (m, ()) := by
  unfold hm_Wl_endsBy hb_Wl_endsBy_0 hm_Wl_endsWith hb_Wl_endsWith_0
  rw [show (1 : Int32) = I 1 from rfl, show (6 : Int32) = I 6 from rfl, e_make, bnd_so, I_F (k := pq q 9), h]
  rfl
theorem sig_d {v1 : Int32} {v5 : Option Nat} (h : F m (pq q 9) = 3) : hm_Wl_signal N m v1 q t v5 = some (m, ()) := by
  unfold hm_Wl_signal hb_Wl_signal_0
  rw [I_F (k := pq q 9), h]
  rfl
theorem sig_n {v5 : Option Nat} (h9 : F m (pq q 9) ≠ 3) (h11 : F m (pq q 11) = 0) (hpq : p ≠ q) (hp1 : p < 1000) (hq1 : q < 1000) : hm_Wl_signal N m (I ((p : Nat) : Int)) q (mk 1 4) v5 = some (m, ()) := by
  have r9 := F_r m (pq q 9)
  unfold hm_Wl_signal hb_Wl_signal_0 hb_Wl_signal_43
  rw [I_F (k := pq q 9), show decide (I (F m (pq q 9)) = 3) = false from by rw [show (3 : Int32) = I 3 from rfl, decE r9.1 r9.2 (by omega) (by omega)]; exact decide_eq_false h9, br_fq, I_F (k := pq q 11), h11, show decide (I 0 = 0) = true from rfl, br_tq, show (1 : Int32) = I 1 from rfl, show (4 : Int32) = I 4 from rfl, e_make, bnd_so, show decide (lg_cmp (mk 1 4) (mk 1 4) = 0) = true from decide_eq_true ((lgc_eq _ _).mpr rfl), br_tq, show decide (I 1 = 0) = false from rfl, br_fq, oI, show decide (I ((p : Nat) : Int) = I ((q : Nat) : Int)) = false from by rw [decE (by omega) (by omega) (by omega) (by omega)]; exact decide_eq_false (by omega), br_fq]
theorem exr_d (hq : q < 24) (h : A w 109 q = 3) : PK (fun w2 (_ : Unit) => w2 = w) (fm_M_exitRun N w (I ((q : Nat) : Int)) x) := by
  unfold fm_M_exitRun fb_M_exitRun_0
  refine pk_ck (fun _ => ?_)
  rw [tnI (n := q) rfl (by omega), I_A (k := 109), h, show decide (I 3 = 3) = true from rfl, br_tq]
  exact pk_some rfl
theorem exr_n (hq : q < 24) (h9 : A w 109 q ≠ 3) (h112 : A w 112 q = 0) (x33 : F w 133 = ((p : Nat) : Int)) (hp1 : p < 24) (hpq : p ≠ q) : PK (fun w2 (_ : Unit) => w2 = w) (fm_M_exitRun N w (I ((q : Nat) : Int)) (mk 1 4)) := by
  have r9 := A_r w 109 q
  unfold fm_M_exitRun fb_M_exitRun_0 fb_M_exitRun_111
  refine pk_ck (fun _ => ?_)
  rw [tnI (n := q) rfl (by omega), I_A (k := 109), show decide (I (A w 109 q) = 3) = false from by rw [show (3 : Int32) = I 3 from rfl, decE r9.1 r9.2 (by omega) (by omega)]; exact decide_eq_false h9, br_fq, show (1 : Int32) = I 1 from rfl, show (5 : Int32) = I 5 from rfl, term_e, bnd_so, show decide (lg_cmp (mk 1 4) (mk 1 5) = 0) = false from decide_eq_false (fun c => absurd ((lgc_eq _ _).mp c) (by decide)), br_fq]
  refine pk_ck (fun _ => ?_)
  rw [I_A (k := 112), h112, show decide (I 0 = 0) = true from rfl, br_tq, I_F' x33, show decide (I ((q : Nat) : Int) = I ((p : Nat) : Int)) = false from by rw [decE (by omega) (by omega) (by omega) (by omega)]; exact decide_eq_false (by omega), br_fq, show (4 : Int32) = I 4 from rfl, term_e, bnd_so, show decide (lg_cmp (mk 1 4) (mk 1 4) = 0) = true from decide_eq_true ((lgc_eq _ _).mpr rfl), br_tq]
  exact pk_some rfl
end
section
variable {α β : Type} {b : Int → Nat → Nat → Prop} {Fv Fv' : Int64 → Int64 → Prop} {P P' : Int64 → Prop} {N PR p q i j0 U B W Y l j a n : Nat} {m w m2 w2 : MS} {nb : Nat → Nat} {Hs Os : Nat → List Nat} {y : Option (Nat × Nat × Nat)} {Q : MS → α → MS → β → Prop} {K1 : MS → Option (MS × α)} {K2 : MS → Option (MS × β)}
theorem ext_ans {KK : MS → Unit → Option (MS × β)} (hp1 : p < 24) (ru : RUs m w p j nb Hs Os y a n) (hW : W + 2 ≤ 46000) (hl : F m2 (pq p 45) = ((l : Nat) : Int)) (hl2 : W + 2 ≤ l ∧ l ≤ 1000000) (pl : PLs b p m2 w2 U B (W + 2) Y) (f1 : FGm p m m2) (h05 : F m2 1105 = ((a : Nat) : Int)) (g1 : FGw p j w w2) (h98 : A w2 98 (60 * p + j) = ((n + 1 : Nat) : Int)) (cr : ∃ f, CRs (A m 23) (ROs w) (w.2.2.2 34) f y (a + 2) (n + 1) (Hs j) (Os j))
    (c : ∀ m8 w8, PLs b p m8 w8 U B (W + 1) Y → RUs m8 w8 p j nb Hs Os y (a + 2) (n + 1) → FGm p m m8 → FGw p j w w8 → F w8 133 = ((p : Nat) : Int) → PP Q (K1 m8) (KK w8 ())) : PP Q (bnd (hb_Ma_toward_335 N () m2 p 2 (mk 1 0)) (fun u _ => K1 u)) (bnd (fm_M_put N (wa w2 92 p ((W : Nat) : Int)) (mk 1 0)) KK) := by
  have cb2 : a + 2 + 1 < 24000 := by
    obtain ⟨f9, cr9⟩ := cr
    exact (CR_b cr9).1
  have pd := PLs_drop (k := 2) (W := W) pl (by omega)
  have g3 : FGw p j w (wa w2 92 p ((W : Nat) : Int)) := FGw.tr g1 FGw.w92
  have h983 : A (wa w2 92 p ((W : Nat) : Int)) 98 (60 * p + j) = ((n + 1 : Nat) : Int) := by rw [wa_rne (by omega)]; exact h98
  unfold hb_Ma_toward_335 hm_Ma_answer hb_Ma_answer_0
  rw [show (2 : Int32) = I 2 from rfl, drop_e (W := W + 2) (k := 2) (x := 2) pl.2.2.1.1 rfl (by omega), bnd_so, show W + 2 - 2 = W by omega]
  simp only [bb_e, bnd_so]
  exact pre_pt (K2 := fun u => KK u ()) (l := l) hp1 ru (by omega) ⟨by omega, hl2.2⟩ (lit_b (b := b) (v := 1) (Or.inr (Or.inl rfl)) (z := 0) (fun h => by omega) ⟨by omega, by omega⟩) (FGm.tr f1 FGm.drop) g3 pd (by rw [wi_ne (pq_inj (by omega))]; exact hl) h983 (by rw [wi_ne (pq_n (by omega))]; exact h05) (by omega) cr c
theorem op_exitN (hpp : p < PR) (hq : q < PR) (wl : WLs (RRp p) PR Fv P Fv' P' none i j0 m w) (ru : RUs m w p j nb Hs Os y a n) (sc : SCs p m w) (hW : W + 2 ≤ 46000) (hl : F m2 (pq p 45) = ((l : Nat) : Int)) (hl2 : W + 2 ≤ l ∧ l ≤ 1000000) (pl : PLs b p m2 w2 U B (W + 2) Y) (f1 : FGm p m m2) (h05 : F m2 1105 = ((a : Nat) : Int)) (g1 : FGw p j w w2) (h98 : A w2 98 (60 * p + j) = ((n + 1 : Nat) : Int)) (cr : ∃ f, CRs (A m 23) (ROs w) (w.2.2.2 34) f y (a + 2) (n + 1) (Hs j) (Os j))
    (hz : F m (pq q 9) = 3 ∨ (m2.2.2.2 (pq p 35) (W + 1) = mk 1 4 ∧ F m (pq q 9) ≠ 3 ∧ F m (pq q 11) = 0 ∧ q ≠ p))
    (c : ∀ m3 w3, (SFs Fv P Fv' P' PR m3 w3 → WLs (RRp p) PR Fv P Fv' P' none i j0 m3 w3) → PLs b p m3 w3 U B (W + 1) Y → RUs m3 w3 p j nb Hs Os y (a + 2) (n + 1) → FGm p m m3 → FGw p j w w3 → PP Q (K1 m3) (K2 w3)) : PP Q (bnd (hb_Ma_toward_95 N () m2 p (I 29) 2 (some q)) (fun u _ => K1 u)) (bnd (fb_M_processRun_151 N () w2 (I 8) (w2.2.2.2 91 (46000 * p + (W + 1))) (I ((q : Nat) : Int)) 92 (I ((p : Nat) : Int)) (I ((W + 2 : Nat) : Int)) 2) (fun u _ => K2 u)) := by
  obtain ⟨⟨fa, -⟩, -, -, ⟨q9, q9w⟩, -, -, r11, -, -⟩ := id ru
  have hj : j < 60 := fa.1.2.2
  have p24 : PR ≤ 24 := wl.1.2.1.1.1.2
  have rt := pl.2.2.1.2.2 (W + 1) (by omega)
  have be0 : hm_Fr_below N m2 p 0 = some (m2, m2.2.2.2 (pq p 35) (W + 1)) := by
    have := below_e (N := N) (x := 0) (k := 0) (W := W + 2) (l := l) pl.2.2.1.1 hl hl2.1 hl2.2 rfl (by omega)
    rw [show W + 2 - 1 - 0 = W + 1 by omega] at this
    exact this
  have e9 : F m2 (pq q 9) = F m (pq q 9) := congrArg Int32.toInt (f1.1 _ (by simp; exact ⟨fun c => by have := (pq_e (by omega) (by omega) c).2; omega, fun c => by have := (pq_e (by omega) (by omega) c).2; omega, fun c => by have := (pq_e (by omega) (by omega) c).2; omega, fun c => by have := (pq_e (by omega) (by omega) c).2; omega, fun c => pq_n (by omega) c.symm⟩))
  have e11 : F m2 (pq q 11) = F m (pq q 11) := congrArg Int32.toInt (f1.1 _ (by simp; exact ⟨fun c => by have := (pq_e (by omega) (by omega) c).2; omega, fun c => by have := (pq_e (by omega) (by omega) c).2; omega, fun c => by have := (pq_e (by omega) (by omega) c).2; omega, fun c => by have := (pq_e (by omega) (by omega) c).2; omega, fun c => pq_n (by omega) c.symm⟩))
  have lf : hb_Ma_toward_95 N () m2 p (I 29) 2 (some q) = hb_Ma_toward_335 N () m2 p 2 (mk 1 0) := by
    rw [tw95_29, be0, bnd_so]
    rcases hz with h | ⟨h4, h9, h11, hqp⟩
    · rw [endB_d (by rw [e9]; exact h), bnd_so, be0, bnd_so, sig_d (by rw [e9]; exact h), bnd_so]
      cases decide (lg_cmp (m2.2.2.2 (pq p 35) (W + 1)) (mk 1 5) = 0) <;> rfl
    · rw [h4, show decide (lg_cmp (mk 1 4) (mk 1 5) = 0) = false from decide_eq_false (fun c => absurd ((lgc_eq _ _).mp c) (by decide)), br_fq, be0, bnd_so, h4, oI, sig_n (p := p) (by rw [e9]; exact h9) (by rw [e11]; exact h11) (Ne.symm hqp) (by omega) (by omega), bnd_so]
  rw [lf, prr_8, sub2, tnI (n := p) rfl (by omega), wa_e]
  refine rb_ck (fun _ => rb_ck (fun _ => ?_))
  rw [lt_e, truth1, bnd_so]
  refine r_bb ?_
  refine ext_ans (by omega) ru hW hl hl2 pl f1 h05 g1 h98 cr (fun m8 w8 pl8 ru8 f8 g8 x33 => ?_)
  have fin : PP Q (K1 m8) (K2 w8) := c m8 w8 (fun s2 => WL_own (WL_t wl) hpp (by rw [q9]; omega) (by rw [q9w]; omega) s2 (GGm_fg f8) (GGw_fg g8 hj) pl8 (SC_fg sc f8 g8) ru8) pl8 ru8 f8 g8
  have er : PK (fun w9 (_ : Unit) => w9 = w8) (fm_M_exitRun N w8 (I ((q : Nat) : Int)) (w2.2.2.2 91 (46000 * p + (W + 1)))) := by
    rcases hz with h | ⟨h4, h9, h11, hqp⟩
    · exact exr_d (by omega) (by rw [FR.A g8.1 (by simp)]; exact dead_w wl hq h)
    · have xt : w2.2.2.2 91 (46000 * p + (W + 1)) = mk 1 4 := by
        rw [h4] at rt
        exact RTb_n rt (nh_mk (by omega))
      rw [xt]
      have h9w : A w 109 q ≠ 3 ∧ A w 112 q = 0 := by
        rcases wl.2.2.1 q hq with ⟨x1, x2, b', U', B', W', Y', pl', sc', -⟩ | ⟨x1, -⟩
        · refine ⟨x2, ?_⟩
          show (w.2.2.1 112 q).toInt = 0
          rw [← sc'.2.2.1]
          exact h11
        · exact absurd x1 h9
      exact exr_n (by omega) (by rw [FR.A g8.1 (by simp)]; exact h9w.1) (by rw [FR.A g8.1 (by simp)]; exact h9w.2) x33 (by omega) (Ne.symm hqp)
  refine rb_bnd (pk_mo er (fun w9 _ e => ?_))
  subst e
  exact fin
end
end
section
set_option maxRecDepth 100000
section
variable {is ls as js : List Nat} {u v w w2 m m2 : MS} {k i p q j e : Nat} {x wr o : Int} {t : Int64}
theorem FR_cwa (f : FR is ls as js u v) : FR is ls as js (wa u k i x) (wa v k i x) := ⟨f.1, f.2.1, fun K hK => by
  show (if K = k then upd (v.2.2.1 k) i (I x) else v.2.2.1 K) = (if K = k then upd (u.2.2.1 k) i (I x) else u.2.2.1 K)
  by_cases c : K = k
  · subst c
    rw [if_pos rfl, if_pos rfl, f.2.2.1 K hK]
  · rw [if_neg c, if_neg c, f.2.2.1 K hK], f.2.2.2⟩
theorem FR_cwj (f : FR is ls as js u v) : FR is ls as js (wj u k i t) (wj v k i t) := ⟨f.1, f.2.1, f.2.2.1, fun K hK => by
  show (if K = k then vp_updL (v.2.2.2 k) i t else v.2.2.2 K) = (if K = k then vp_updL (u.2.2.2 k) i t else u.2.2.2 K)
  by_cases c : K = k
  · subst c
    rw [if_pos rfl, if_pos rfl, f.2.2.2 K hK]
  · rw [if_neg c, if_neg c, f.2.2.2 K hK]⟩
theorem FR_cup {z : Int32} (f : FR is ls as js u v) : FR is ls as js (upI u k z) (upI v k z) := ⟨fun K hK => by
  show (if K = k then z else v.1 K) = (if K = k then z else u.1 K)
  by_cases c : K = k
  · rw [if_pos c, if_pos c]
  · rw [if_neg c, if_neg c, f.1 K hK], f.2.1, f.2.2.1, f.2.2.2⟩
theorem FR_cwi (f : FR is ls as js u v) : FR is ls as js (wi u k x) (wi v k x) := FR_cup f
theorem FR_cwl (f : FR is ls as js u v) : FR is ls as js (wl u k t) (wl v k t) := ⟨f.1, fun K hK => by
  show (if K = k then t else v.2.1 K) = (if K = k then t else u.2.1 K)
  by_cases c : K = k
  · rw [if_pos c, if_pos c]
  · rw [if_neg c, if_neg c, f.2.1 K hK], f.2.2.1, f.2.2.2⟩
theorem enS_i {hm : Nat} (h1 : k ≠ pq q 9) (h2 : k ≠ pq q 17) (h3 : k ≠ 955) : (enS m q t hm e).1 k = m.1 k := by
  show (if k = 955 then I ((e + 1 : Nat) : Int) else if k = pq q 17 then fr (some hm) else if k = pq q 9 then I 3 else m.1 k) = _
  rw [if_neg h3, if_neg h2, if_neg h1]
theorem FGm_en {hm : Nat} (f : FGm p m m2) : FGm p (enS m q t hm e) (enS m2 q t hm e) := FR_cwi (FR_cwa (FR_cup (FR_cwl (FR_cwi f))))
theorem FGw_en (g : FGw p j w w2) : FGw p j (enR w q wr o t e) (enR w2 q wr o t e) := by
  obtain ⟨g1, g2, g3, g4⟩ := g
  have eA : ∀ (s : MS) (K : Nat), K ≠ 109 → K ≠ 145 → K ≠ 146 → K ≠ 147 → (enR s q wr o t e).2.2.1 K = s.2.2.1 K := fun s K h1 h2 h3 h4 => by
    show (wa (wa (wa (wa s 109 q 3) 145 e ((q : Nat) : Int)) 146 e wr) 147 e o).2.2.1 K = _
    rw [wa_21 h4, wa_21 h3, wa_21 h2, wa_21 h1]
  have eJ : ∀ (s : MS) (K : Nat), K ≠ 148 → (enR s q wr o t e).2.2.2 K = s.2.2.2 K := fun s K h => if_neg h
  refine ⟨FR_cwi (FR_cwj (FR_cwa (FR_cwa (FR_cwa (FR_cwa g1))))), fun k hk => ?_, fun k hk => ?_, ?_⟩
  · show ((enR w2 q wr o t e).2.2.1 89 k).toInt = ((enR w q wr o t e).2.2.1 89 k).toInt ∧ (enR w2 q wr o t e).2.2.1 90 k = (enR w q wr o t e).2.2.1 90 k ∧ ((enR w2 q wr o t e).2.2.1 92 k).toInt = ((enR w q wr o t e).2.2.1 92 k).toInt
    rw [eA w2 89 (by omega) (by omega) (by omega) (by omega), eA w 89 (by omega) (by omega) (by omega) (by omega), eA w2 90 (by omega) (by omega) (by omega) (by omega), eA w 90 (by omega) (by omega) (by omega) (by omega), eA w2 92 (by omega) (by omega) (by omega) (by omega), eA w 92 (by omega) (by omega) (by omega) (by omega)]
    exact g2 k hk
  · show ((enR w2 q wr o t e).2.2.1 98 k).toInt = ((enR w q wr o t e).2.2.1 98 k).toInt
    rw [eA w2 98 (by omega) (by omega) (by omega) (by omega), eA w 98 (by omega) (by omega) (by omega) (by omega)]
    exact g3 k hk
  · rw [eJ w2 88 (by omega), eJ w 88 (by omega), eJ w2 91 (by omega), eJ w 91 (by omega), eJ w2 93 (by omega), eJ w 93 (by omega), eJ w2 107 (by omega), eJ w 107 (by omega)]
    exact g4
end
section
variable {Fv Fv' : Int64 → Int64 → Prop} {P P' : Int64 → Prop} {N PR q i j e e' : Nat} {m w : MS} {RR : Nat → MS → MS → Prop}
theorem endB_k (h9 : F m (pq q 9) ≠ 3) (he : F m 955 = ((e : Nat) : Int)) (hl : e < 24) : hm_Wl_endsBy N m q 6 = some (enS m q (mk 1 6) q e, ()) := by
  unfold hm_Wl_endsBy hb_Wl_endsBy_0
  rw [show (1 : Int32) = I 1 from rfl, show (6 : Int32) = I 6 from rfl, e_make, bnd_so, endsW_e (e := e) h9 he hl, bnd_so]
theorem exr_k (hq : q < 24) (h9 : A w 109 q ≠ 3) (he : F w 150 = ((e' : Nat) : Int)) (hl : e' < 4000) : PK (fun w2 (_ : Unit) => w2 = enR w q 0 ((q : Nat) : Int) (mk 1 6) e') (fm_M_exitRun N w (I ((q : Nat) : Int)) (mk 1 5)) := by
  have r9 := A_r w 109 q
  unfold fm_M_exitRun fb_M_exitRun_0 fb_M_exitRun_111
  refine pk_ck (fun _ => ?_)
  rw [tnI (n := q) rfl (by omega), I_A (k := 109), show decide (I (A w 109 q) = 3) = false from by rw [show (3 : Int32) = I 3 from rfl, decE r9.1 r9.2 (by omega) (by omega)]; exact decide_eq_false h9, br_fq, show fm_M_term N w 1 5 = some (w, mk 1 5) from rfl, bnd_so, show decide (lg_cmp (mk 1 5) (mk 1 5) = 0) = true from decide_eq_true ((lgc_eq _ _).mpr rfl), br_tq, show fm_M_term N w 1 6 = some (w, mk 1 6) from rfl, bnd_so, show (0 : Int32) = I 0 from rfl, willE_e (e := e') (by omega) h9 he hl (by omega), bnd_so]
  exact pk_some rfl
theorem wl_kil (W : WLs RR PR Fv P Fv' P' none i j m w) (hq : q < PR) (hal : F m (pq q 9) ≠ 3) (he : F m 955 = ((e : Nat) : Int) ∧ e < 24) (he' : F w 150 = ((e' : Nat) : Int) ∧ e' < 4000) : WLs RR PR Fv P Fv' P' none i j (enS m q (mk 1 6) q e) (enR w q 0 ((q : Nat) : Int) (mk 1 6) e') ∧ MVs m w (enS m q (mk 1 6) q e) (enR w q 0 ((q : Nat) : Int) (mk 1 6) e') ∧ ∀ d, d ≠ q → LOCm d m (enS m q (mk 1 6) q e) ∧ LOCw d w (enR w q 0 ((q : Nat) : Int) (mk 1 6) e') := by
  have W0 := W
  obtain ⟨sf, -, pr, hR⟩ := W
  obtain ⟨⟨d, cx⟩, ⟨dw, lk, wt⟩, pb⟩ := sf
  have p24 := dw.1.2
  obtain ⟨h9, al⟩ : A w 109 q ≠ 3 ∧ ALr RR m w q := by
    rcases pr q hq with h | h
    · exact h.2
    · exact absurd h.1 hal
  obtain ⟨b, U, B, Wt, Y, pl, rs⟩ := al
  have n1 : ¬ isH (mk 1 6) := nh_mk (by omega)
  have n6 : so (mk 1 6) = 6 → va (mk 1 6) = 0 := fun c => by rw [so_mk (by omega) (by omega)] at c; omega
  have hP : P (mk 1 6) := cx.2.2.2.2.2.1 6 (by omega) (by have := cx.2.2.2.1; omega)
  have hP' : P' (mk 1 6) := pb.1 6 (by omega) (by omega)
  have c1 := pk_ok (endsBy_ok (N := 0) (a := 6) d cx hq hal (by omega)) _ () (endB_k (N := 0) hal he.1 he.2)
  have c2 := pk_ok (willEnd_ok (N := 0) (p := q) (o := q) (wr := 0) (t := mk 1 6) dw hq (by omega) (by omega) (Or.inl ⟨n1, hP'⟩)) _ () (willE_e (N := 0) (e := e') (by omega) h9 he'.1 he'.2 (by omega))
  have sf2 : SFs Fv P Fv' P' PR (enS m q (mk 1 6) q e) (enR w q 0 ((q : Nat) : Int) (mk 1 6) e') := ⟨⟨c1.1, CTX_fr cx (c1.2.1.2.1 22 (by omega) (by simp)) (c1.2.1.2.2.2.1 3 (by omega) (by simp))⟩, ⟨c2.1, LK_fr lk c2.2.1 (by simp) (by simp), WTQ_fr wt c2.2.1 (by simp) (by simp) (by simp)⟩, pb⟩
  have v := enS_v (m := m) (q := q) (t := mk 1 6) (hm := q) (e := e)
  have a9 := enR_9 (w := w) (q := q) (wr := 0) (o := q) (x := mk 1 6) (e := e')
  refine wl_end W0 hq ⟨hal, h9⟩ (fun c => by cases c) FR.rf XMr.rf he he' pl.1.2.2 ⟨by omega, by omega⟩ (by omega) sf2 ⟨q, 0, by rw [v.2.1]; exact rf_some (by omega), hq, v.1, Or.inr ⟨hq, by rw [a9, if_pos rfl]⟩, ?_, Or.inl ⟨n1, hP'⟩⟩
  rw [v.2.2]
  exact SRs_lit n1 n6 hP hP' (by omega) (by omega)
end
section
variable {α β : Type} {b : Int → Nat → Nat → Prop} {Fv Fv' : Int64 → Int64 → Prop} {P P' : Int64 → Prop} {N PR p q i j0 U B W Y l j a n : Nat} {m w m2 w2 : MS} {nb : Nat → Nat} {Hs Os : Nat → List Nat} {y : Option (Nat × Nat × Nat)} {Q : MS → α → MS → β → Prop} {K1 : MS → Option (MS × α)} {K2 : MS → Option (MS × β)}
theorem op_exitK (hpp : p < PR) (hq : q < PR) (hqp : q ≠ p) (hal : F m (pq q 9) ≠ 3) (wl : WLs (RRp p) PR Fv P Fv' P' none i j0 m w) (ru : RUs m w p j nb Hs Os y a n) (sc : SCs p m w) (hW : W + 2 ≤ 46000) (hBY : B ≤ 2500 ∧ Y ≤ 30) (hl : F m2 (pq p 45) = ((l : Nat) : Int)) (hl2 : W + 2 ≤ l ∧ l ≤ 1000000) (pl : PLs b p m2 w2 U B (W + 2) Y) (f1 : FGm p m m2) (h05 : F m2 1105 = ((a : Nat) : Int)) (g1 : FGw p j w w2) (h98 : A w2 98 (60 * p + j) = ((n + 1 : Nat) : Int)) (cr : ∃ f, CRs (A m 23) (ROs w) (w.2.2.2 34) f y (a + 2) (n + 1) (Hs j) (Os j)) (h5 : m2.2.2.2 (pq p 35) (W + 1) = mk 1 5)
    (c : ∀ mB wB m3 w3, (SFs Fv P Fv' P' PR m3 w3 → WLs (RRp p) PR Fv P Fv' P' none i j0 m3 w3) → PLs b p m3 w3 U B (W + 1) Y → RUs m3 w3 p j nb Hs Os y (a + 2) (n + 1) → MVs m w mB wB → FGm p mB m3 → FGw p j wB w3 → (∃ e e' : Nat, mB = enS m q (mk 1 6) q e ∧ wB = enR w q 0 ((q : Nat) : Int) (mk 1 6) e') → PP Q (K1 m3) (K2 w3)) : PP Q (bnd (hb_Ma_toward_95 N () m2 p (I 29) 2 (some q)) (fun u _ => K1 u)) (bnd (fb_M_processRun_151 N () w2 (I 8) (w2.2.2.2 91 (46000 * p + (W + 1))) (I ((q : Nat) : Int)) 92 (I ((p : Nat) : Int)) (I ((W + 2 : Nat) : Int)) 2) (fun u _ => K2 u)) := by
  obtain ⟨⟨fa, -⟩, -, -, ⟨q9, q9w⟩, -, -, r11, -, -⟩ := id ru
  have hj : j < 60 := fa.1.2.2
  have p24 : PR ≤ 24 := wl.1.2.1.1.1.2
  have cb2 : a + 2 + 1 < 24000 := by
    obtain ⟨f9, cr9⟩ := cr
    exact (CR_b cr9).1
  have hU := pl.1.1.2.2
  have rt := pl.2.2.1.2.2 (W + 1) (by omega)
  have xt : w2.2.2.2 91 (46000 * p + (W + 1)) = mk 1 5 := by
    rw [h5] at rt
    exact RTb_n rt (nh_mk (by omega))
  have be0 : hm_Fr_below N m2 p 0 = some (m2, m2.2.2.2 (pq p 35) (W + 1)) := by
    have := below_e (N := N) (x := 0) (k := 0) (W := W + 2) (l := l) pl.2.2.1.1 hl hl2.1 hl2.2 rfl (by omega)
    rw [show W + 2 - 1 - 0 = W + 1 by omega] at this
    exact this
  have gm1 := GGm_fg f1
  have gw1 := GGw_fg g1 hj
  have e9 : F m2 (pq q 9) = F m (pq q 9) := congrArg Int32.toInt (gm1.1 q hqp 9 (by omega)).1
  have h9w : A w 109 q ≠ 3 := by
    rcases wl.2.2.1 q hq with ⟨-, x2, -⟩ | ⟨x1, -⟩
    · exact x2
    · exact absurd x1 hal
  obtain ⟨⟨e, he⟩, e', he'⟩ := SF_e wl.1 hq hal
  obtain ⟨WB, mv, loc⟩ := wl_kil wl hq hal he he'
  obtain ⟨lm, lw⟩ := loc p (Ne.symm hqp)
  have em := EQm_loc mv.1.1 lm
  have ew := EQw_loc mv.1.1 lw
  have hb15 : F m (pq p 15) ≤ 24 := by
    rcases wl.2.2.1 p hpp with ⟨x1, x2, b', U', B', W', Y', pl', -⟩ | ⟨x1, -⟩
    · exact (SF_al wl.1 hpp x1 pl').2.2.2.2
    · rw [q9] at x1
      omega
  have ruB := RUs_st ru em.n ew.v mv.1
  have scB := SC_eq sc hb15 em ew
  have crB : ∃ f, CRs (A (enS m q (mk 1 6) q e) 23) (ROs (enR w q 0 ((q : Nat) : Int) (mk 1 6) e')) ((enR w q 0 ((q : Nat) : Int) (mk 1 6) e').2.2.2 34) f y (a + 2) (n + 1) (Hs j) (Os j) := by
    rw [show A (enS m q (mk 1 6) q e) 23 = A m 23 from by funext k; show ((enS m q (mk 1 6) q e).2.2.1 23 k).toInt = _; rw [em.2.2.2]; rfl, ROs_eq (w := w) ew.2.2.1, ew.2.2.2]
    exact cr
  have e955 : F m2 955 = ((e : Nat) : Int) := (congrArg Int32.toInt gm1.2.2.1).trans he.1
  have x33 : F w2 133 = ((p : Nat) : Int) := by rw [FR.F g1.1 (by simp)]; exact r11
  rw [tw95_29, be0, bnd_so, h5, show decide (lg_cmp (mk 1 5) (mk 1 5) = 0) = true from decide_eq_true ((lgc_eq _ _).mpr rfl), br_tq, endB_k (e := e) (by rw [e9]; exact hal) e955 he.2, bnd_so, prr_8, sub2, tnI (n := p) rfl (by omega), wa_e, xt]
  refine rb_ck (fun _ => rb_ck (fun _ => ?_))
  rw [lt_e, truth1, bnd_so]
  have y92 : A (wa w2 92 p ((W : Nat) : Int)) 92 p = ((W : Nat) : Int) := wa_sm (by omega) (by omega)
  have y33 : F (wa w2 92 p ((W : Nat) : Int)) 133 = ((p : Nat) : Int) := x33
  refine r_bb (r_bnd (pk_mo (put_r (N := N) (x := mk 1 0) (W := W) (by omega) y33 y92 (by omega)) (fun w8 _ e8 => ?_)))
  have g8 : FGw p j w w8 := by rw [e8]; exact FGw.tr (FGw.tr g1 FGw.w92) (FGw.put (by omega))
  have k98 : A w8 98 (60 * p + j) = ((n + 1 : Nat) : Int) := by rw [e8, wa_rne (by omega), A_wj, wa_rne (by omega)]; exact h98
  refine rb_bnd (pk_mo (exr_k (N := N) (q := q) (e' := e') (by omega) (by rw [FR.A g8.1 (by simp)]; exact h9w) (by rw [FR.F g8.1 (by simp)]; exact he'.1) he'.2) (fun w9 _ e99 => ?_))
  subst e99
  rw [bnd_so]
  have sq : ∀ k, k < 100 → (enS m2 q (mk 1 6) q e).1 (pq p k) = m2.1 (pq p k) := fun k hk => enS_i (fun c => hqp (pq_e hk (by omega) c).1.symm) (fun c => hqp (pq_e hk (by omega) c).1.symm) (fun c => pq_n (by omega) c.symm)
  have s05 : (enS m2 q (mk 1 6) q e).1 1105 = m2.1 1105 := enS_i (pq_n (by omega)) (pq_n (by omega)) (by omega)
  have sJ : (enS m2 q (mk 1 6) q e).2.2.2 = m2.2.2.2 := rfl
  have fE : FGm p (enS m q (mk 1 6) q e) (enS m2 q (mk 1 6) q e) := FGm_en f1
  have pl1 : PLs b p (enS m2 q (mk 1 6) q e) w2 U B (W + 2) Y := PLs_cg pl (fun k hk => sq k (by simp at hk; omega)) (fun _ _ => rfl) (fun _ _ => rfl) (fun _ _ => rfl) (fun _ _ => rfl) (fun _ _ => rfl) (fun _ _ => rfl) (fun _ _ => rfl) (fun _ _ => rfl) (fun _ _ => rfl)
  have f45 : F (enS m2 q (mk 1 6) q e) (pq p 45) = ((l : Nat) : Int) := (congrArg Int32.toInt (sq 45 (by omega))).trans hl
  have f05 : F (enS m2 q (mk 1 6) q e) 1105 = ((a : Nat) : Int) := (congrArg Int32.toInt s05).trans h05
  generalize enS m2 q (mk 1 6) q e = mE at pl1 f45 f05 fE
  have pd := PLs_drop (k := 2) (W := W) pl1 (by omega)
  unfold hb_Ma_toward_335 hm_Ma_answer hb_Ma_answer_0
  rw [show (2 : Int32) = I 2 from rfl, drop_e (W := W + 2) (k := 2) (x := 2) pl1.2.2.1.1 rfl (by omega), bnd_so, show W + 2 - 2 = W by omega]
  refine l_bb (l_bb ?_)
  have e26' : F (wi mE (pq p 26) ((W : Nat) : Int)) (pq p 26) = ((W : Nat) : Int) := wi_sm (by omega) (by omega)
  have e45' : F (wi mE (pq p 26) ((W : Nat) : Int)) (pq p 45) = ((l : Nat) : Int) := by rw [wi_ne (pq_inj (by omega))]; exact f45
  refine l_bnd (pk_mo (push_m (N := N) (t := mk 1 0) e26' e45' (by omega) hl2.2) (fun m8 _ h => ?_))
  obtain ⟨z1, z2, z3⟩ := h
  have k05 : F m8 1105 = ((a : Nat) : Int) := by rw [FR.F z1 (by simp [pq_n]), wi_ne (pq_n (by omega))]; exact f05
  rw [bnd_so, I_F' k05, show I ((a : Nat) : Int) + I 2 = I ((a + 2 : Nat) : Int) from addN, wi_e]
  show PP Q (K1 (wi m8 1105 ((a + 2 : Nat) : Int))) (K2 (enR w8 q 0 ((q : Nat) : Int) (mk 1 6) e'))
  have n1 : ¬ isH (mk 1 0) := nh_mk (by omega)
  have n6 : so (mk 1 0) = 6 → va (mk 1 0) = 0 := fun c => by rw [so_mk (by omega) (by omega)] at c; omega
  have pl3 := PLs_pc (z := ((a + 2 : Nat) : Int)) (PLs_push (x := mk 1 0) pd (RTb_lit n1 n6) z1 z2 z3)
  rw [← e8] at pl3
  have eA : ∀ (K : Nat), K ≠ 109 → K ≠ 145 → K ≠ 146 → K ≠ 147 → (enR w8 q 0 ((q : Nat) : Int) (mk 1 6) e').2.2.1 K = w8.2.2.1 K := fun K h1 h2 h3 h4 => by
    show (wa (wa (wa (wa w8 109 q 3) 145 e' ((q : Nat) : Int)) 146 e' 0) 147 e' ((q : Nat) : Int)).2.2.1 K = _
    rw [wa_21 h4, wa_21 h3, wa_21 h2, wa_21 h1]
  have eJ : ∀ (K : Nat), K ≠ 148 → (enR w8 q 0 ((q : Nat) : Int) (mk 1 6) e').2.2.2 K = w8.2.2.2 K := fun K h => if_neg h
  have pl4 : PLs b p (wi m8 1105 ((a + 2 : Nat) : Int)) (enR w8 q 0 ((q : Nat) : Int) (mk 1 6) e') U B (W + 1) Y := PLs_cg pl3 (fun _ _ => rfl) (fun _ _ => rfl) (fun _ _ => rfl) (fun _ _ => rfl) (fun _ _ => rfl) (fun k hk => by rw [eA k (by simp at hk; omega) (by simp at hk; omega) (by simp at hk; omega) (by simp at hk; omega)]) (fun i _ => by rw [eJ 88 (by omega)]) (fun i _ => by rw [eJ 93 (by omega)]) (fun i _ => by rw [eJ 91 (by omega)]) (fun i _ => by rw [eJ 107 (by omega)])
  have f3 : FGm p (enS m q (mk 1 6) q e) (wi m8 1105 ((a + 2 : Nat) : Int)) := FGm.tr (FGm.tr (FGm.tr fE FGm.drop) (FGm.push z1)) FGm.pc
  have g3 : FGw p j (enR w q 0 ((q : Nat) : Int) (mk 1 6) e') (enR w8 q 0 ((q : Nat) : Int) (mk 1 6) e') := FGw_en g8
  have k98' : A (enR w8 q 0 ((q : Nat) : Int) (mk 1 6) e') 98 (60 * p + j) = ((n + 1 : Nat) : Int) := by
    show ((enR w8 q 0 ((q : Nat) : Int) (mk 1 6) e').2.2.1 98 (60 * p + j)).toInt = _
    rw [eA 98 (by omega) (by omega) (by omega) (by omega)]
    exact k98
  have ru3 := RUs_mv (a2 := a + 2) (n2 := n + 1) ruB f3 g3 (wi_sm (by omega) (by omega)) k98' crB
  exact c _ _ _ _ (fun s3 => WL_own (WL_t WB) hpp (by rw [ruB.2.2.2.1.1]; omega) (by rw [ruB.2.2.2.1.2]; omega) s3 (GGm_fg f3) (GGw_fg g3 hj) pl4 (SC_fg scB f3 g3) ru3) pl4 ru3 mv f3 g3 ⟨e, e', rfl, rfl⟩
end
end
section
set_option maxRecDepth 100000
section
variable {α β : Type} {b : Int → Nat → Nat → Prop} {Fv Fv' : Int64 → Int64 → Prop} {P P' : Int64 → Prop} {N PR p i j0 U B W Y l j a n : Nat} {m w m2 w2 : MS} {nb : Nat → Nat} {Hs Os : Nat → List Nat} {y : Option (Nat × Nat × Nat)} {Q : MS → α → MS → β → Prop} {K1 : MS → Option (MS × α)} {K2 : MS → Option (MS × β)}
theorem op_exitS (hpp : p < PR) (wl : WLs (RRp p) PR Fv P Fv' P' none i j0 m w) (ru : RUs m w p j nb Hs Os y a n) (sc : SCs p m w) (hW : W + 2 ≤ 46000) (hl : F m2 (pq p 45) = ((l : Nat) : Int)) (hl2 : W + 2 ≤ l ∧ l ≤ 1000000) (pl : PLs b p m2 w2 U B (W + 2) Y) (f1 : FGm p m m2) (h05 : F m2 1105 = ((a : Nat) : Int)) (ha : a + 2 < 24000) (g1 : FGw p j w w2) (dc2 : DWc Fv P PR m2) (h5 : m2.2.2.2 (pq p 35) (W + 1) = mk 1 5)
    (c : ∀ m3 w8 e e', F m 955 = ((e : Nat) : Int) → F w 150 = ((e' : Nat) : Int) → FGm p (enS m2 p (mk 1 6) p e) m3 → FGw p j w w8 → (SFs Fv P Fv' P' PR m3 (enR w8 p 0 ((p : Nat) : Int) (mk 1 6) e') → WLs (RRt p) PR Fv P Fv' P' none i j0 m3 (enR w8 p 0 ((p : Nat) : Int) (mk 1 6) e')) → F m3 (pq p 9) = 3 → A (enR w8 p 0 ((p : Nat) : Int) (mk 1 6) e') 109 p = 3 → (F m3 1109 = F m2 1109 ∧ F (enR w8 p 0 ((p : Nat) : Int) (mk 1 6) e') 133 = ((p : Nat) : Int)) → PP Q (K1 m3) (K2 (enR w8 p 0 ((p : Nat) : Int) (mk 1 6) e'))) : PP Q (bnd (hb_Ma_toward_95 N () m2 p (I 29) 2 (some p)) (fun u _ => K1 u)) (bnd (fb_M_processRun_151 N () w2 (I 8) (w2.2.2.2 91 (46000 * p + (W + 1))) (I ((p : Nat) : Int)) 92 (I ((p : Nat) : Int)) (I ((W + 2 : Nat) : Int)) 2) (fun u _ => K2 u)) := by
  obtain ⟨⟨fa, -⟩, -, -, ⟨q9, q9w⟩, -, -, r11, -, -⟩ := id ru
  have hj : j < 60 := fa.1.2.2
  have p24 : PR ≤ 24 := wl.1.2.1.1.1.2
  have rt := pl.2.2.1.2.2 (W + 1) (by omega)
  have xt : w2.2.2.2 91 (46000 * p + (W + 1)) = mk 1 5 := by
    rw [h5] at rt
    exact RTb_n rt (nh_mk (by omega))
  have be0 : hm_Fr_below N m2 p 0 = some (m2, m2.2.2.2 (pq p 35) (W + 1)) := by
    have := below_e (N := N) (x := 0) (k := 0) (W := W + 2) (l := l) pl.2.2.1.1 hl hl2.1 hl2.2 rfl (by omega)
    rw [show W + 2 - 1 - 0 = W + 1 by omega] at this
    exact this
  have hal : F m (pq p 9) ≠ 3 := by rw [q9]; omega
  have hal' : A w 109 p ≠ 3 := by rw [q9w]; omega
  have gm1 := GGm_fg f1
  have e9 : F m2 (pq p 9) = F m (pq p 9) := congrArg Int32.toInt (f1.1 _ (by simp; exact ⟨fun c => by have := (pq_e (by omega) (by omega) c).2; omega, fun c => by have := (pq_e (by omega) (by omega) c).2; omega, fun c => by have := (pq_e (by omega) (by omega) c).2; omega, fun c => by have := (pq_e (by omega) (by omega) c).2; omega, fun c => pq_n (by omega) c.symm⟩))
  obtain ⟨⟨e, he⟩, e', he'⟩ := SF_e wl.1 hpp hal
  have e955 : F m2 955 = ((e : Nat) : Int) := (congrArg Int32.toInt gm1.2.2.1).trans he.1
  have x33 : F w2 133 = ((p : Nat) : Int) := by rw [FR.F g1.1 (by simp)]; exact r11
  have hb15 : 0 ≤ F m2 (pq p 15) ∧ F m2 (pq p 15) ≤ 24 := by
    have e15 : F m2 (pq p 15) = F m (pq p 15) := congrArg Int32.toInt (f1.1 _ (by simp; exact ⟨fun c => by have := (pq_e (by omega) (by omega) c).2; omega, fun c => by have := (pq_e (by omega) (by omega) c).2; omega, fun c => by have := (pq_e (by omega) (by omega) c).2; omega, fun c => by have := (pq_e (by omega) (by omega) c).2; omega, fun c => pq_n (by omega) c.symm⟩))
    rw [e15]
    rcases wl.2.2.1 p hpp with ⟨x1, x2, b', U', B', W', Y', pl', -⟩ | ⟨x1, -⟩
    · exact (SF_al wl.1 hpp x1 pl').2.2.2
    · exact absurd x1 hal
  have cx := wl.1.1.2
  have cx2 : CTX Fv P m2 := CTX_fr cx gm1.2.1.2.1 gm1.2.1.2.2.2
  have n1 : ¬ isH (mk 1 6) := nh_mk (by omega)
  have n6 : so (mk 1 6) = 6 → va (mk 1 6) = 0 := fun c => by rw [so_mk (by omega) (by omega)] at c; omega
  have hP : P (mk 1 6) := cx.2.2.2.2.2.1 6 (by omega) (by have := cx.2.2.2.1; omega)
  have hP' : P' (mk 1 6) := wl.1.2.2.1 6 (by omega) (by omega)
  have ek := endB_k (N := N) (q := p) (e := e) (m := m2) (by rw [e9]; exact hal) e955 he.2
  have c1 := pk_ok (endsBy_ok (N := N) (a := 6) dc2 cx2 hpp (by rw [e9]; exact hal) (by omega)) _ () ek
  have cxE : CTX Fv P (enS m2 p (mk 1 6) p e) := CTX_fr cx2 (c1.2.1.2.1 22 (by omega) (by simp)) (c1.2.1.2.2.2.1 3 (by omega) (by simp))
  rw [tw95_29, be0, bnd_so, h5, show decide (lg_cmp (mk 1 5) (mk 1 5) = 0) = true from decide_eq_true ((lgc_eq _ _).mpr rfl), br_tq, ek, bnd_so, prr_8, sub2, tnI (n := p) rfl (by omega), wa_e, xt]
  refine rb_ck (fun _ => rb_ck (fun _ => ?_))
  rw [lt_e, truth1, bnd_so]
  have y92 : A (wa w2 92 p ((W : Nat) : Int)) 92 p = ((W : Nat) : Int) := wa_sm (by omega) (by omega)
  have y33 : F (wa w2 92 p ((W : Nat) : Int)) 133 = ((p : Nat) : Int) := x33
  refine r_bb (r_bnd (pk_mo (put_r (N := N) (x := mk 1 0) (W := W) (by omega) y33 y92 (by omega)) (fun w8 _ e8 => ?_)))
  have g8 : FGw p j w w8 := by rw [e8]; exact FGw.tr (FGw.tr g1 FGw.w92) (FGw.put (by omega))
  have k90 : w8.2.2.1 90 p = w2.2.2.1 90 p := by
    rw [e8, wa_21 (by omega)]
    show (wa w2 92 p ((W : Nat) : Int)).2.2.1 90 p = _
    rw [wa_21 (by omega)]
  have k33 : F w8 133 = ((p : Nat) : Int) := by rw [FR.F g8.1 (by simp)]; exact r11
  refine rb_bnd (pk_mo (exr_k (N := N) (q := p) (e' := e') (by omega) (by rw [FR.A g8.1 (by simp)]; exact hal') (by rw [FR.F g8.1 (by simp)]; exact he'.1) he'.2) (fun w9 _ e99 => ?_))
  subst e99
  rw [bnd_so]
  have v := enS_v (m := m2) (q := p) (t := mk 1 6) (hm := p) (e := e)
  have a9 := enR_9 (w := w8) (q := p) (wr := 0) (o := p) (x := mk 1 6) (e := e')
  have a9p : A (enR w8 p 0 ((p : Nat) : Int) (mk 1 6) e') 109 p = 3 := by rw [a9, if_pos rfl]
  have k133 : F (enR w8 p 0 ((p : Nat) : Int) (mk 1 6) e') 133 = ((p : Nat) : Int) := by
    show (if (133 : Nat) = 150 then I ((e' + 1 : Nat) : Int) else w8.1 133).toInt = _
    rw [if_neg (by omega)]
    exact k33
  have W1 : ESI Fv' P' PR (enR w8 p 0 ((p : Nat) : Int) (mk 1 6) e') ∧ PB P' PR → WLs (RRt p) PR Fv P Fv' P' none i j0 (enS m2 p (mk 1 6) p e) (enR w8 p 0 ((p : Nat) : Int) (mk 1 6) e') := fun s3 => by
    refine WL_end2 (WL_t wl) hpp ⟨hal, hal'⟩ (fun c => by cases c) gm1 (GGw_fg g8 hj) (SC_fg sc f1 g8) hb15 (by rw [k90]; exact pl.1.2.2) he he' ⟨by omega, by omega⟩ (by omega) ⟨⟨c1.1, cxE⟩, s3.1, s3.2⟩ ⟨p, 0, by rw [v.2.1]; exact rf_some (by omega), hpp, v.1, Or.inr ⟨hpp, a9p⟩, ?_, Or.inl ⟨n1, hP'⟩⟩
    rw [v.2.2]
    exact SRs_lit n1 n6 hP hP' (by omega) (by omega)
  have f26 : F (enS m2 p (mk 1 6) p e) (pq p 26) = ((W + 2 : Nat) : Int) := (congrArg Int32.toInt (enS_i (pq_inj (by omega)) (pq_inj (by omega)) (fun c => pq_n (by omega) c.symm))).trans pl.2.2.1.1
  have f45 : F (enS m2 p (mk 1 6) p e) (pq p 45) = ((l : Nat) : Int) := (congrArg Int32.toInt (enS_i (pq_inj (by omega)) (pq_inj (by omega)) (fun c => pq_n (by omega) c.symm))).trans hl
  have f05 : F (enS m2 p (mk 1 6) p e) 1105 = ((a : Nat) : Int) := (congrArg Int32.toInt (enS_i (pq_n (by omega)) (pq_n (by omega)) (by omega))).trans h05
  have f09 : F (enS m2 p (mk 1 6) p e) 1109 = F m2 1109 := congrArg Int32.toInt (enS_i (pq_n (by omega)) (pq_n (by omega)) (by omega))
  have v1 := v.1
  have cc := c (e := e) (e' := e')
  generalize enS m2 p (mk 1 6) p e = mE at W1 f26 f45 f05 f09 v1 cc
  unfold hb_Ma_toward_335 hm_Ma_answer hb_Ma_answer_0
  rw [show (2 : Int32) = I 2 from rfl, drop_e (W := W + 2) (k := 2) (x := 2) f26 rfl (by omega), bnd_so, show W + 2 - 2 = W by omega]
  refine l_bb (l_bb ?_)
  have e26' : F (wi mE (pq p 26) ((W : Nat) : Int)) (pq p 26) = ((W : Nat) : Int) := wi_sm (by omega) (by omega)
  have e45' : F (wi mE (pq p 26) ((W : Nat) : Int)) (pq p 45) = ((l : Nat) : Int) := by rw [wi_ne (pq_inj (by omega))]; exact f45
  refine l_bnd (pk_mo (push_m (N := N) (t := mk 1 0) e26' e45' (by omega) hl2.2) (fun m8 _ h => ?_))
  obtain ⟨z1, z2, z3⟩ := h
  have k05 : F m8 1105 = ((a : Nat) : Int) := by rw [FR.F z1 (by simp [pq_n]), wi_ne (pq_n (by omega))]; exact f05
  rw [bnd_so, I_F' k05, show I ((a : Nat) : Int) + I 2 = I ((a + 2 : Nat) : Int) from addN, wi_e]
  show PP Q (K1 (wi m8 1105 ((a + 2 : Nat) : Int))) (K2 (enR w8 p 0 ((p : Nat) : Int) (mk 1 6) e'))
  have f3 : FGm p mE (wi m8 1105 ((a + 2 : Nat) : Int)) := FGm.tr (FGm.tr FGm.drop (FGm.push z1)) FGm.pc
  refine cc _ w8 he.1 he'.1 f3 g8 (fun s3 => WL_gone (p := p) (fun _ _ _ _ _ h h1 h2 => RRt_st h h1 h2) (W1 ⟨s3.2.1, s3.2.2⟩) s3 v1 a9p (by omega) (FR.wi (FR.tr (FR.wi FR.rf (by simp)) (FR.mo z1 (by simp) (by simp) (by simp) (by simp))) (by simp)) FR.rf (fun _ _ => rfl) (fun _ _ => rfl) (fun _ _ => rfl)) ?_ a9p ⟨?_, k133⟩
  · show ((wi m8 1105 ((a + 2 : Nat) : Int)).1 (pq p 9)).toInt = _
    rw [wi_1 (fun c => pq_n (by omega) c.symm), z1.1 _ (by simp; exact ⟨pq_inj (by omega), pq_inj (by omega)⟩), wi_1 (pq_inj (by omega))]
    exact v1
  · rw [wi_ne (by omega), FR.F z1 (by simp [pq_n]), wi_ne (pq_n (by omega))]
    exact f09
end
end
section
set_option maxRecDepth 100000
section
variable {b : Int → Nat → Nat → Prop} {Fv Fv' : Int64 → Int64 → Prop} {P P' : Int64 → Prop} {N PR q r p i j jj U B W Y a n o : Nat} {m w m2 w2 mC : MS} {nb : Nat → Nat} {Hs Os : Nat → List Nat} {y : Option (Nat × Nat × Nat)}
theorem WL_endc (wl : WLs (RRt p) PR Fv P Fv' P' none i j m w) (hal : F m (pq p 9) ≠ 3) (halq : F m (pq q 9) ≠ 3) (hqp : q ≠ p) (hq0 : q < PR) (hq : F m 955 = ((i : Nat) : Int)) (s2 : SFs Fv P Fv' P' PR m2 w2) (D : ∀ d, d ≠ p → d ≠ q → LOCm d m m2 ∧ (d < PR → LOCw d w w2)) (pg : PG0 m w m2 w2) (e1 : F m2 955 = ((i + 1 : Nat) : Int)) (e54 : A m2 54 i = ((q : Nat) : Int)) (e2 : F w2 150 = ((j + 1 : Nat) : Int)) (e145 : A w2 145 j = ((q : Nat) : Int)) (e146 : A w2 146 j = 0) (e147 : A w2 147 j = ((o : Nat) : Int)) (k9 : F m2 (pq q 9) = 3 ∧ A w2 109 q = 3) (rq : RQs Fv P Fv' P' PR m2 w2 q 0 o (w2.2.2.2 148 j)) (qe : QEs m2 w2 q) (pl : PLs b p m2 w2 U B W Y) (sc2 : SCs p m2 w2) (ru : RUs m2 w2 p jj nb Hs Os y a n) : WLs (RRp p) PR Fv P Fv' P' none i j m2 w2 := by
  obtain ⟨sf, ⟨n0, q1, q2, -, -⟩, pr, -⟩ := id wl
  have hn0 : n0 = 0 := by
    rw [hq] at q1
    omega
  subst hn0
  have f9 : ∀ d, d ≠ p → d ≠ q → F m2 (pq d 9) = F m (pq d 9) := fun d hd h2 => congrArg Int32.toInt ((D d hd h2).1 9 (by omega)).1
  have a9 : ∀ d, d ≠ p → d ≠ q → d < PR → A w2 109 d = A w 109 d := fun d hd h2 h3 => congrArg Int32.toInt (((D d hd h2).2 h3).1 109 d (Or.inl ⟨by omega, rfl⟩))
  refine ⟨s2, ⟨1, e1, e2, fun k hk => ?_, fun k l hk hl _ => by omega⟩, fun r hr => ?_, RRp_stb⟩
  · have k0 : k = 0 := by omega
    subst k0
    exact ⟨q, 0, o, ⟨hq0, fun c => (by cases c), k9.1⟩, e54, e145, e146, e147, rq, qe⟩
  by_cases rn : r = q
  · subst rn
    exact Or.inr ⟨k9.1, k9.2, Or.inr (Or.inl ⟨i, Nat.le_refl _, by rw [e1]; omega, e54⟩)⟩
  by_cases rq' : r = p
  · subst rq'
    exact Or.inl ⟨by rw [ru.2.2.2.1.1]; omega, by rw [ru.2.2.2.1.2]; omega, b, U, B, W, Y, pl, sc2, Or.inl ⟨rfl, jj, nb, Hs, Os, y, a, n, ru⟩⟩
  obtain ⟨l1, l2'⟩ := D r rq' rn
  have l2 := l2' hr
  rcases pr r hr with ⟨x1, x2, b', U', B', W', Y', pl', sc', rr⟩ | ⟨x1, x2, x⟩
  · obtain ⟨-, -, ⟨b1, b2, b3⟩, b4⟩ := SF_al sf hr x1 pl'
    have hU := pl'.1.1.2.2
    have rr2 : WTr r m w := by
      rcases rr with rr | rr
      · exact absurd rr rq'
      · exact rr
    obtain ⟨t1, t2, t3⟩ := AL_loc ⟨pl', sc', rr2⟩ ⟨hU, b1, b2, b3, b4.2⟩ pg l1 l2
    exact Or.inl ⟨by rw [f9 r rq' rn]; exact x1, by rw [a9 r rq' rn hr]; exact x2, b', U', B', W', Y', t1, t2, Or.inr ⟨rq', t3⟩⟩
  · refine Or.inr ⟨by rw [f9 r rq' rn]; exact x1, by rw [a9 r rq' rn hr]; exact x2, Or.inr (Or.inr ?_)⟩
    rcases x with x | ⟨k, k1, k2, -⟩ | x
    · cases x
    · rw [hq] at k2
      omega
    · refine DEs_st2 x pg l1 l2 (fun d hd h3 => ?_)
      have dp : d ≠ p := fun c => hal (by rw [← c]; exact h3)
      have dn : d ≠ q := fun c => halq (by rw [← c]; exact h3)
      exact ⟨by rw [f9 d dp dn]; exact h3, ((D d dp dn).1 2 (by omega)).2.2.2⟩
def swM (p : Nat) (m mC : MS) : MS := (fun k => if k = pq p 4 ∨ k = pq p 5 ∨ k = pq p 26 ∨ k = pq p 45 ∨ k = 1105 then m.1 k else mC.1 k, mC.2.1, mC.2.2.1, fun K => if K = pq p 2 ∨ K = pq p 3 ∨ K = pq p 33 ∨ K = pq p 35 ∨ K = pq p 6 ∨ K = 44 ∨ K = 45 ∨ K = 46 then m.2.2.2 K else mC.2.2.2 K)
theorem swM_fg : FGm p (swM p m mC) mC := ⟨fun k hk => (if_neg (by simpa using hk)).symm, fun _ _ => rfl, fun _ _ => rfl, fun K hK => (if_neg (by simpa using hK)).symm⟩
theorem swM_eq {mA : MS} (f : FGm p m mA) (L : LOCm p mA mC) (h23 : mC.2.2.1 23 = mA.2.2.1 23) : EQm p m (swM p m mC) := by
  refine ⟨fun k hk _ => ?_, fun k hk _ => ?_, fun k hk => ?_, ?_⟩
  · by_cases c : pq p k = pq p 4 ∨ pq p k = pq p 5 ∨ pq p k = pq p 26 ∨ pq p k = pq p 45 ∨ pq p k = 1105
    · exact if_pos c
    · rw [show (swM p m mC).1 (pq p k) = mC.1 (pq p k) from if_neg c, (L k hk).1]
      exact f.1 _ (by simpa using c)
  · show mC.2.1 (pq p k) = _
    rw [(L k hk).2.1]
    exact f.2.1 _ (by simp)
  · show mC.2.2.1 (pq p k) = _
    rw [(L k hk).2.2.1]
    exact f.2.2.1 _ (by simp)
  · show mC.2.2.1 23 = _
    rw [h23]
    exact f.2.2.1 _ (by simp)
end
end
section
set_option maxRecDepth 100000
section
variable {bS : Int → Nat → Nat → Prop} {h : Nat → Int64} {N q o v n n' ns ns' s zz f f' : Nat} {ow kd ow' kd' : Nat → Nat} {Fv Fv' : Int64 → Int64 → Prop} {P P' : Int64 → Prop} {m w : MS} {t x : Int64}
theorem HP_zr {g : Nat → Int64} : HP g 0 (fun _ => 0) (fun _ => 0) Fv P := by
  intro t ht gt
  rcases gt with ⟨c, -⟩ | ⟨-, -, c, -⟩
  · exact absurd ht c
  · exact absurd c (Nat.not_lt_zero _)
theorem copy_pz (gS : HPc h n ow kd Fv P) (hF : FVc Fv) (hh : m.2.2.2 v = h) (hn : n ≤ 512) (hv : v ≠ pq q 2) (gS' : HP (hp w o) n' ow' kd' Fv' P') (hn' : n' ≤ 500) (ho : o < 25) (hz : zz < 25) (hoz : o ≠ zz) (sS : ISw bS h ns (hp w o) ns') (rt : RTb bS t x) (z1 : SZc h n ow kd Fv P f t s) (z2 : SZ (hp w o) n' ow' kd' Fv' P' f' x s) (hu : F m (pq q 4) = 0) (hu' : A w 89 zz = 0) (hl : s ≤ 500) (hN : 3000 ≤ N) :
    PP (fun m2 r w2 r2 => (∃ b2, ISb b2 (m2.2.2.2 (pq q 2)) s (hp w2 zz) s ∧ RTb b2 r r2) ∧ (∃ ow2 kd2 f2, HPc (m2.2.2.2 (pq q 2)) s ow2 kd2 Fv P ∧ SZc (m2.2.2.2 (pq q 2)) s ow2 kd2 Fv P f2 r s) ∧ (∃ ow2 kd2 f2, HP (hp w2 zz) s ow2 kd2 Fv' P' ∧ SZ (hp w2 zz) s ow2 kd2 Fv' P' f2 r2 s) ∧ (FR [pq q 4] [] [] [pq q 2] m m2 ∧ F m2 (pq q 4) = ((s : Nat) : Int)) ∧ FR [] [] [89, 142] [88, 141] w w2 ∧ (∀ r, A w2 89 r = if r = zz then ((s : Nat) : Int) else A w 89 r) ∧ ∀ i, ¬ (500 * zz ≤ i ∧ i < 500 * zz + 500) → w2.2.2.2 88 i = w.2.2.2 88 i) (hm_Pr_copyIn N m q v t) (fm_M_copy N w (I ((o : Nat) : Int)) x (I ((zz : Nat) : Int))) := by
  intro m2 r w2 r2 e1 e2
  have hu0 : F m (pq q 4) = ((0 : Nat) : Int) := hu
  have hu1 : A w 89 zz = ((0 : Nat) : Int) := hu'
  obtain ⟨a1, a2, a3, ow2, kd2, g2, -, -, -, sz2, -⟩ := pk_ok (copyIn_hd (N := N) (s0 := 0) (owd := fun _ => 0) (kdd := fun _ => 0) gS hF hn (by omega) (fun c _ => by rw [hh]) (fun c => absurd c hv) z1 hu0 HP_0 (by omega)) m2 r e1
  rw [Nat.zero_add] at a2 g2 sz2
  obtain ⟨f2, sz2⟩ := sz2
  by_cases zt : isH t
  · have zx := (RTb_isH rt).mpr zt
    have c := pk_ok (copyIn_x (N := N) (s0 := 0) gS hF hn (by omega) (fun c _ => by rw [hh]) (fun c => absurd c hv) z1 hu0 (by omega) zt) m2 r e1
    obtain ⟨b1, b2, b3, cc, st, src, oo, b4, b5, b6, b7⟩ := pk_ok (copy_x (N := N) (n0 := 0) ho hz hn' (by omega) (fun c => absurd c hoz) gS' z2 hu1 (by omega) zx) w2 r2 e2
    have rr := copy_res (N := N) (s0' := 0) hz zx hu1 w2 r2 e2
    have er : so r2 = so x ∧ vn r2 = 0 ∧ 0 ≤ va r2 := by
      have v9 : va r2 = ((0 : Nat) : Int) := by rw [rr, va_rp (by omega) (by omega)]
      exact ⟨by rw [rr, so_rp (by omega) (by omega)], by unfold vn; omega, by omega⟩
    obtain ⟨bN, -, -, i2, r2'⟩ := copy_iso (s0 := 0) (s0' := 0) (bD := fun _ _ _ => False) (d0 := m.2.2.2 (pq q 2)) (d0' := hp w zz) sS gS hF ISb_no zt rt (by omega) c a3 b4 b5 b6 er (fun i hi => absurd hi (by omega))
    rw [Nat.zero_add] at i2
    obtain ⟨-, -, -, cc9, st9, src9, oo9, d4, d5⟩ := pk_ok (copy_ok (N := N) (fr := o) (to := zz) (n0 := 0) (s := s) ho hz hn' (by omega) (fun c => absurd c hoz) gS' z2 hu1 hN) w2 r2 e2
    obtain ⟨ow3, kd3, h1, h2, h3, h4, h5⟩ := CPI_end (hD := hp w zz) gS' (HP_zr (Fv := Fv') (P := P')) d4 (fun z hz => absurd hz (Nat.not_lt_zero z))
    have s3 := h4 f' r2 x s d5 z2
    rw [Nat.zero_add] at h1 s3 b2
    exact ⟨⟨bN, i2, r2'⟩, ⟨ow2, kd2, f2, g2, sz2⟩, ⟨ow3, kd3, _, h1, s3⟩, ⟨a1, a2⟩, b1, b2, fun i hi => b3 i (by omega)⟩
  · obtain ⟨rfl, rfl⟩ := copyIn_0 (N := N) zt hu0 (by omega) m2 r e1
    have ex := RTb_n rt zt
    have zx : ¬ isH x := by rw [ex]; exact zt
    have e0 : s = 0 := SZ_nhc z1 zt
    subst e0
    have eq : fm_M_copy N w (I ((o : Nat) : Int)) x (I ((zz : Nat) : Int)) = some (w, x) := by
      unfold fm_M_copy fb_M_copy_0
      rw [inHeap_e.2 zx, bnd_so]
      rfl
    rw [eq] at e2
    injection e2 with e2
    injection e2 with e3 e4
    subst e3
    subst e4
    have sx : ∃ f2, SZ (hp w zz) 0 (fun _ => 0) (fun _ => 0) Fv' P' f2 x 0 := by
      cases f' with
      | zero => exact z2.elim
      | succ f' =>
        rcases z2 with ⟨y1, y2, y3⟩ | ⟨y1, -⟩
        · exact ⟨1, Or.inl ⟨y1, y2, y3⟩⟩
        · exact absurd y1 zx
    obtain ⟨f3, sx⟩ := sx
    refine ⟨⟨fun _ _ _ => False, ISb_no, ?_⟩, ⟨ow2, kd2, f2, g2, sz2⟩, ⟨_, _, f3, HP_zr, sx⟩, ⟨a1, a2⟩, FR.rf, fun r9 => ?_, fun _ _ => rfl⟩
    · rw [ex]
      exact RTb_lit zt (RTb_nil rt)
    · by_cases e : r9 = zz
      · rw [if_pos e, e]; exact hu1
      · rw [if_neg e]
end
end
section
set_option maxRecDepth 100000
section
variable {α β : Type} {N p q : Nat} {m w : MS} {t x : Int64} {Q : MS → α → MS → β → Prop} {D : Option (MS × α)} {K : MS → Unit → Option (MS × β)}
theorem dec_ne {a b : Int64} (h : a ≠ b) : decide (lg_cmp a b = 0) = false := decide_eq_false (fun c => h ((lgc_eq _ _).mp c))
theorem sig_c (h9 : F m (pq q 9) ≠ 3) (h11 : F m (pq q 11) = 0) (h9p : F m (pq p 9) ≠ 3) (hpq : p ≠ q) (h4 : t ≠ mk 1 4) : hm_Wl_signal N m (I ((p : Nat) : Int)) q t (some p) = bnd (hm_Pr_copyIn N (wi m (pq q 4) 0) q (pq p 2) t) (fun u8 r8 => bnd (hm_Wl_endsWith N u8 q r8 q) (fun u10 _ => some (u10, ()))) := by
  have r9 := F_r m (pq q 9)
  have r9p := F_r m (pq p 9)
  unfold hm_Wl_signal hb_Wl_signal_0 hb_Wl_signal_43 hb_Wl_signal_59 hb_Wl_signal_121
  rw [I_F (k := pq q 9), show decide (I (F m (pq q 9)) = 3) = false from by rw [show (3 : Int32) = I 3 from rfl, decE r9.1 r9.2 (by omega) (by omega)]; exact decide_eq_false h9, br_fq, I_F (k := pq q 11), h11, show decide (I 0 = 0) = true from rfl, br_tq, show hm_Te_make N m 1 4 = some (m, mk 1 4) from rfl, bnd_so, dec_ne h4, br_fq, show decide ((0 : Int32) = 0) = true from rfl, br_tq, show decide ((some p : Option Nat) = none) = false from rfl, br_fq, show decide ((some p : Option Nat) = some q) = false from decide_eq_false (fun c => hpq (by injection c)), br_fq, bo_s, I_F (k := pq p 9), show decide (I (F m (pq p 9)) = 3) = false from by rw [show (3 : Int32) = I 3 from rfl, decE r9p.1 r9p.2 (by omega) (by omega)]; exact decide_eq_false h9p, br_fq]
  rfl
theorem exr_c (hq : q < 24) (h9 : A w 109 q ≠ 3) (h112 : A w 112 q = 0) (x33 : F w 133 = ((p : Nat) : Int)) (hp1 : p < 24) (hpq : p ≠ q) (h5 : x ≠ mk 1 5) (h4 : x ≠ mk 1 4) (h : PP Q D (bnd (bnd (fm_M_copy N (wa w 89 24 0) (I ((p : Nat) : Int)) x (I ((24 : Nat) : Int))) (fun u2 r2 => bnd (fm_M_willEnd N u2 (I ((q : Nat) : Int)) (I 0) (I ((24 : Nat) : Int)) r2) (fun u3 _ => some (u3, ())))) K)) : PP Q D (bnd (fm_M_exitRun N w (I ((q : Nat) : Int)) x) K) := by
  have r9 := A_r w 109 q
  unfold fm_M_exitRun fb_M_exitRun_0 fb_M_exitRun_84 fb_M_exitRun_111
  refine rb_ck (fun _ => ?_)
  rw [tnI (n := q) rfl (by omega), I_A (k := 109), show decide (I (A w 109 q) = 3) = false from by rw [show (3 : Int32) = I 3 from rfl, decE r9.1 r9.2 (by omega) (by omega)]; exact decide_eq_false h9, br_fq, show fm_M_term N w 1 5 = some (w, mk 1 5) from rfl, rb_bnd_so, dec_ne h5, br_fq]
  refine rb_ck (fun _ => ?_)
  rw [I_A (k := 112), h112, show decide (I 0 = 0) = true from rfl, br_tq, I_F' x33, show decide (I ((q : Nat) : Int) = I ((p : Nat) : Int)) = false from by rw [decE (by omega) (by omega) (by omega) (by omega)]; exact decide_eq_false (by omega), br_fq, show fm_M_term N w 1 4 = some (w, mk 1 4) from rfl, rb_bnd_so, dec_ne h4, br_fq]
  refine rb_ck (fun _ => ?_)
  have e33 : F (wa w 89 24 0) 133 = ((p : Nat) : Int) := x33
  rw [show upA w 89 (upd (w.2.2.1 89) (24 : Int32).toNatClampNeg 0) = wa w 89 24 0 from rfl, lt_e, I_F' e33]
  exact h
end
end
section
set_option maxRecDepth 100000
section
variable {q : Nat} {m w m2 w2 : MS}
theorem QE_sc (sc : SCs q m w) (hb : 0 ≤ F m (pq q 15) ∧ F m (pq q 15) ≤ 24) (h5 : m.1 (pq q 5) = w.2.2.1 90 q) (hm : ∀ k, k = 5 ∨ k = 12 ∨ k = 13 ∨ k = 15 → m2.1 (pq q k) = m.1 (pq q k)) (h14 : m2.2.2.1 (pq q 14) = m.2.2.1 (pq q 14)) (hw : ∀ K, K = 90 ∨ K = 113 ∨ K = 114 → w2.2.2.1 K q = w.2.2.1 K q) (h116 : w2.2.2.1 116 = w.2.2.1 116) (h117 : w2.2.2.1 117 = w.2.2.1 117) : QEs m2 w2 q := by
  obtain ⟨L, l1, l2⟩ := LS_of sc hb
  exact ⟨by rw [hm 12 (by omega), hw 113 (by omega)]; exact sc.1, by rw [hm 13 (by omega), hw 114 (by omega)]; exact sc.2.1, by rw [hm 5 (by omega), hw 90 (by omega)]; exact h5, L, LSm_st l1 (hm 15 (by omega)) h14, LSw_fr l2 h116 h117⟩
theorem cp_loc2 {d z s : Nat} (hd : d ≠ z) (f : FR [] [] [89, 142] [88, 141] w w2) (h89 : ∀ r, A w2 89 r = if r = z then ((s : Nat) : Int) else A w 89 r) (h88 : ∀ i, ¬ (500 * z ≤ i ∧ i < 500 * z + 500) → w2.2.2.2 88 i = w.2.2.2 88 i) : LOCw d w w2 := cp_loc hd f h89 h88
theorem w89_loc {d z : Nat} {x : Int} (hd : d ≠ z) : LOCw d w (wa w 89 z x) := by
  refine ⟨fun K i h => wa_at (fun c => ?_), fun K h => wa_at (fun c => by omega), fun i _ _ => wa_at (fun c => by omega), rfl, fun _ _ _ => rfl, fun _ _ _ => rfl, fun _ _ _ => rfl, fun _ _ _ => rfl⟩
  have := OWi_k h
  omega
end
end
section
set_option maxRecDepth 100000
def EGm (m m2 : MS) : Prop := (∀ K, K < 100 → K ≠ 54 → m2.2.2.1 K = m.2.2.1 K) ∧ ∀ k, k < 1100 ∨ k = 1106 ∨ k = 1107 → k ≠ 955 → m2.1 k = m.1 k
def EGw (w w2 : MS) : Prop := (∀ K, K < 88 ∨ (118 ≤ K ∧ K ≤ 130) → w2.2.2.1 K = w.2.2.1 K) ∧ ∀ k, k ≤ 132 ∨ k = 164 ∨ k = 165 → w2.1 k = w.1 k
section
variable {b : Int → Nat → Nat → Prop} {Fv Fv' : Int64 → Int64 → Prop} {P P' : Int64 → Prop} {N PR p q i j0 U B W Y j a n a2 n2 o : Nat} {m w m2 w8 mE wE m3 : MS} {nb : Nat → Nat} {Hs Os : Nat → List Nat} {y : Option (Nat × Nat × Nat)}
theorem exq_end (hpp : p < PR) (hq : q < PR) (hqp : q ≠ p) (hal : F m (pq q 9) ≠ 3) (wl : WLs (RRp p) PR Fv P Fv' P' none i j0 m w) (hq9 : F m 955 = ((i : Nat) : Int)) (ru : RUs m w p j nb Hs Os y a n) (sc : SCs p m w) (f1 : FGm p m m2) (g8 : FGw p j w w8) (Lm : ∀ d, d ≠ q → LOCm d m2 mE) (Lw : ∀ d, d ≠ q → d < 24 → LOCw d w8 wE)
    (em : (∀ k, k < 2000 → k ≠ 955 → mE.1 k = m2.1 k) ∧ (∀ k, k < 2000 → mE.2.1 k = m2.2.1 k) ∧ ∀ K, K < 2000 → K ≠ 54 → mE.2.2.1 K = m2.2.2.1 K) (ew : (∀ k, k ≠ 150 → k ≠ 136 → k ≠ 138 → k ≠ 140 → wE.1 k = w8.1 k) ∧ (∀ K, K < 88 ∨ (118 ≤ K ∧ K ≤ 130) → wE.2.2.1 K = w8.2.2.1 K) ∧ wE.2.2.2 34 = w8.2.2.2 34) (f3 : FGm p mE m3) (pl3 : PLs b p m3 wE U B W Y) (h05 : F m3 1105 = ((a2 : Nat) : Int)) (h98 : A wE 98 (60 * p + j) = ((n2 : Nat) : Int)) (cr : ∃ f, CRs (A m 23) (ROs w) (w.2.2.2 34) f y a2 n2 (Hs j) (Os j))
    (e1 : F mE 955 = ((i + 1 : Nat) : Int)) (e54 : A mE 54 i = ((q : Nat) : Int)) (e2 : F wE 150 = ((j0 + 1 : Nat) : Int)) (e145 : A wE 145 j0 = ((q : Nat) : Int)) (e146 : A wE 146 j0 = 0) (e147 : A wE 147 j0 = ((o : Nat) : Int)) (k9 : F mE (pq q 9) = 3 ∧ A wE 109 q = 3) (rq : RQs Fv P Fv' P' PR mE wE q 0 o (wE.2.2.2 148 j0)) (qe : QEs mE wE q) :
    RUs m3 wE p j nb Hs Os y a2 n2 ∧ (SFs Fv P Fv' P' PR m3 wE → WLs (RRp p) PR Fv P Fv' P' none i j0 m3 wE) ∧ EGm m m3 ∧ EGw w wE := by
  obtain ⟨⟨fa, -⟩, -, -, ⟨q9, q9w⟩, -, -, r11, -, -⟩ := id ru
  have hj : j < 60 := fa.1.2.2
  have p24 : PR ≤ 24 := wl.1.2.1.1.1.2
  obtain ⟨em1, em2, em3⟩ := em
  obtain ⟨ew1, ew2, ew3⟩ := ew
  have gm1 := GGm_fg f1
  have gm3 := GGm_fg f3
  have gw8 := GGw_fg g8 hj
  have eqm : EQm p m (swM p m mE) := swM_eq f1 (Lm p (Ne.symm hqp)) (em3 23 (by omega) (by omega))
  have eqw : EQw p w (swW p j w wE) := swW_eq g8 (Lw p (Ne.symm hqp) (by omega)) (fun K hK => ew2 K (by unfold PRr at hK; omega)) ew3
  have fB : FGm p (swM p m mE) m3 := FGm.tr swM_fg f3
  have gB : FGw p j (swW p j w wE) wE := swW_fg
  have s1 : ∀ k, k < 2000 → k ≠ 955 → (swM p m mE).1 k = m.1 k := fun k hk h => by
    show (if k = pq p 4 ∨ k = pq p 5 ∨ k = pq p 26 ∨ k = pq p 45 ∨ k = 1105 then m.1 k else mE.1 k) = _
    by_cases c : k = pq p 4 ∨ k = pq p 5 ∨ k = pq p 26 ∨ k = pq p 45 ∨ k = 1105
    · rw [if_pos c]
    · rw [if_neg c, em1 k hk h]
      exact f1.1 k (by simpa using c)
  have s2 : ∀ k, k < 2000 → (swM p m mE).2.1 k = m.2.1 k := fun k hk => (em2 k hk).trans (f1.2.1 k (by simp))
  have s3 : ∀ K, K < 2000 → K ≠ 54 → (swM p m mE).2.2.1 K = m.2.2.1 K := fun K hK h => (em3 K hK h).trans (f1.2.2.1 K (by simp))
  have bw : ∀ k, k ≠ 150 → k ≠ 136 → k ≠ 138 → k ≠ 140 → (swW p j w wE).1 k = w.1 k := fun k h0 h1 h2 h3 => by rw [swW_1 ⟨h1, h2, h3⟩, ew1 k h0 h1 h2 h3]; exact g8.1.1 k (by simp; omega)
  have bA : ∀ K, K < 88 ∨ (118 ≤ K ∧ K ≤ 130) → (swW p j w wE).2.2.1 K = w.2.2.1 K := fun K h => funext fun i => by rw [swW_A (fun c => by unfold owP at c; omega), ew2 K (by omega)]; exact congrFun (g8.1.2.2.1 K (by simp; omega)) i
  have pg : PGs m w (swM p m mE) (swW p j w wE) := ⟨⟨⟨s3 23 (by omega) (by omega), s1 22 (by omega) (by omega), ATc_eq (s3 2 (by omega) (by omega)) (s3 3 (by omega) (by omega))⟩, eqw.2.2.1, eqw.2.2.2, bA 12 (by omega), bA 13 (by omega), bw 14 (by omega) (by omega) (by omega) (by omega)⟩, fun k h1 h2 => ⟨s1 k (by omega) (by omega), s2 k (by omega)⟩, fun k h => bw k (by omega) (by omega) (by omega) (by omega)⟩
  have ruB := RUs_st ru eqm.n eqw.v pg
  have hb15 : F m (pq p 15) ≤ 24 := by
    rcases wl.2.2.1 p hpp with ⟨x1, x2, b', U', B', W', Y', pl', -⟩ | ⟨x1, -⟩
    · exact (SF_al wl.1 hpp x1 pl').2.2.2.2
    · rw [q9] at x1
      omega
  have scB := SC_eq sc hb15 eqm eqw
  have crB : ∃ f, CRs (A (swM p m mE) 23) (ROs (swW p j w wE)) ((swW p j w wE).2.2.2 34) f y a2 n2 (Hs j) (Os j) := by
    rw [show A (swM p m mE) 23 = A m 23 from by funext k; show ((swM p m mE).2.2.1 23 k).toInt = _; rw [s3 23 (by omega) (by omega)]; rfl, ROs_eq (w := w) eqw.2.2.1, eqw.2.2.2]
    exact cr
  have ru3 := RUs_mv (a2 := a2) (n2 := n2) ruB fB gB h05 h98 crB
  refine ⟨ru3, fun s3' => ?_, ⟨fun K h1 h2 => ?_, fun k h1 h2 => ?_⟩, fun K h => (ew2 K h).trans (gw8.2.2.2.2.2.1 K h), fun k h => (ew1 k (by omega) (by omega) (by omega) (by omega)).trans (gw8.2.2.2.2.2.2 k h)⟩
  · have f9 : ∀ d, d ≠ p → F m3 (pq d 9) = F mE (pq d 9) := fun d hd => congrArg Int32.toInt (gm3.1 d hd 9 (by omega)).1
    refine WL_endc (WL_t wl) (by rw [q9]; omega) hal hqp hq hq9 s3' (fun d h1 h2 => ⟨LOCm.tr (LOCm.tr (gm1.1 d h1) (Lm d h2)) (gm3.1 d h1), fun h3 => (gw8.1 d h1).tr2 (Lw d h2 (by omega))⟩) ?_ ?_ ?_ e2 e145 e146 e147 ⟨by rw [f9 q hqp]; exact k9.1, k9.2⟩ ?_ ?_ pl3 (SC_fg scB fB gB) ru3
    · exact ⟨⟨gm3.2.1.1.trans ((em3 23 (by omega) (by omega)).trans gm1.2.1.1), gm3.2.1.2.1.trans ((em1 22 (by omega) (by omega)).trans gm1.2.1.2.1), ATc_eq (gm3.2.1.2.2.1.trans ((em3 2 (by omega) (by omega)).trans gm1.2.1.2.2.1)) (gm3.2.1.2.2.2.trans ((em3 3 (by omega) (by omega)).trans gm1.2.1.2.2.2))⟩, fun K hK => (ew2 K (by unfold PRr at hK; omega)).trans (gw8.2.1.1 K hK), ew3.trans gw8.2.1.2.1, (ew2 12 (by omega)).trans gw8.2.1.2.2.1, (ew2 13 (by omega)).trans gw8.2.1.2.2.2.1, (ew1 14 (by omega) (by omega) (by omega) (by omega)).trans gw8.2.1.2.2.2.2⟩
    · rw [show F m3 955 = F mE 955 from congrArg Int32.toInt gm3.2.2.1]
      exact e1
    · rw [show A m3 54 i = A mE 54 i from congrArg Int32.toInt (congrFun gm3.2.2.2.1 i)]
      exact e54
    · have x9 : F mE (pq p 9) ≠ 3 := by
        rw [show F mE (pq p 9) = F m (pq p 9) from (congrArg Int32.toInt (Lm p (Ne.symm hqp) 9 (by omega)).1).trans (congrArg Int32.toInt (f1.1 _ (by simp; exact ⟨fun c => by have := (pq_e (by omega) (by omega) c).2; omega, fun c => by have := (pq_e (by omega) (by omega) c).2; omega, fun c => by have := (pq_e (by omega) (by omega) c).2; omega, fun c => by have := (pq_e (by omega) (by omega) c).2; omega, fun c => pq_n (by omega) c.symm⟩))), q9]
        omega
      exact RQs_st rq (gm3.1 q hqp 17 (by omega)).1 (gm3.1 q hqp 16 (by omega)).2.1 (fun d hd => ⟨by rw [f9 d (fun c => x9 (by rw [← c]; exact hd))]; exact hd, (gm3.1 d (fun c => x9 (by rw [← c]; exact hd)) 2 (by omega)).2.2.2⟩) (fun _ _ _ _ => rfl) (fun _ h => h) (fun _ _ => rfl)
    · exact QEs_st qe (gm3.1 q hqp) LOCw.rf
  · rw [gm3.2.2.2.2.2.1 K h1, em3 K (by omega) h2, gm1.2.2.2.2.2.1 K h1]
  · rw [gm3.2.2.2.2.2.2 k h1, em1 k (by omega) h2, gm1.2.2.2.2.2.2 k h1]
end
section
variable {α β : Type} {b : Int → Nat → Nat → Prop} {Fv Fv' : Int64 → Int64 → Prop} {P P' : Int64 → Prop} {N PR p q i j0 U B W Y l j a n s f f' : Nat} {ow kd ow' kd' : Nat → Nat} {m w m2 w2 : MS} {nb : Nat → Nat} {Hs Os : Nat → List Nat} {y : Option (Nat × Nat × Nat)} {Q : MS → α → MS → β → Prop} {K1 : MS → Option (MS × α)} {K2 : MS → Option (MS × β)}
theorem op_exitC (hpp : p < PR) (hq : q < PR) (hqp : q ≠ p) (hal : F m (pq q 9) ≠ 3) (h11 : F m (pq q 11) = 0) (wl : WLs (RRp p) PR Fv P Fv' P' none i j0 m w) (hq9 : F m 955 = ((i : Nat) : Int)) (ru : RUs m w p j nb Hs Os y a n) (sc : SCs p m w) (hW : W + 2 ≤ 46000) (hBY : B ≤ 2500 ∧ Y ≤ 30) (hl : F m2 (pq p 45) = ((l : Nat) : Int)) (hl2 : W + 2 ≤ l ∧ l ≤ 1000000) (pl : PLs b p m2 w2 U B (W + 2) Y) (pt : PTQ m2 p U ow kd Fv P B (W + 2) Y) (hF : FVc Fv) (xc : CX w2 p (hp w2 p) U ow' kd' Fv' P' (W + 2) B Y) (hs : s ≤ 500) (z1 : SZc (m2.2.2.2 (pq p 2)) U ow kd Fv P f (m2.2.2.2 (pq p 35) (W + 1)) s) (z2 : SZ (hp w2 p) U ow' kd' Fv' P' f' (w2.2.2.2 91 (46000 * p + (W + 1))) s) (hN : 3000 ≤ N) (f1 : FGm p m m2) (h05 : F m2 1105 = ((a : Nat) : Int)) (g1 : FGw p j w w2) (h98 : A w2 98 (60 * p + j) = ((n + 1 : Nat) : Int)) (cr : ∃ f, CRs (A m 23) (ROs w) (w.2.2.2 34) f y (a + 2) (n + 1) (Hs j) (Os j)) (h5 : m2.2.2.2 (pq p 35) (W + 1) ≠ mk 1 5) (h4 : m2.2.2.2 (pq p 35) (W + 1) ≠ mk 1 4)
    (c : ∀ m3 w3, (SFs Fv P Fv' P' PR m3 w3 → WLs (RRp p) PR Fv P Fv' P' none i j0 m3 w3) → PLs b p m3 w3 U B (W + 1) Y → RUs m3 w3 p j nb Hs Os y (a + 2) (n + 1) → EGm m m3 → EGw w w3 → PP Q (K1 m3) (K2 w3)) : PP Q (bnd (hb_Ma_toward_95 N () m2 p (I 29) 2 (some q)) (fun u _ => K1 u)) (bnd (fb_M_processRun_151 N () w2 (I 8) (w2.2.2.2 91 (46000 * p + (W + 1))) (I ((q : Nat) : Int)) 92 (I ((p : Nat) : Int)) (I ((W + 2 : Nat) : Int)) 2) (fun u _ => K2 u)) := by
  obtain ⟨⟨fa, -⟩, -, -, ⟨q9, q9w⟩, -, -, r11, -, -⟩ := id ru
  have hj : j < 60 := fa.1.2.2
  have p24 : PR ≤ 24 := wl.1.2.1.1.1.2
  have cb2 : a + 2 + 1 < 24000 := by
    obtain ⟨f9, cr9⟩ := cr
    exact (CR_b cr9).1
  have hU := pl.1.1.2.2
  have rt := pl.2.2.1.2.2 (W + 1) (by omega)
  have be0 : hm_Fr_below N m2 p 0 = some (m2, m2.2.2.2 (pq p 35) (W + 1)) := by
    have := below_e (N := N) (x := 0) (k := 0) (W := W + 2) (l := l) pl.2.2.1.1 hl hl2.1 hl2.2 rfl (by omega)
    rw [show W + 2 - 1 - 0 = W + 1 by omega] at this
    exact this
  have gm1 := GGm_fg f1
  have e9 : F m2 (pq q 9) = F m (pq q 9) := congrArg Int32.toInt (gm1.1 q hqp 9 (by omega)).1
  have e11 : F m2 (pq q 11) = F m (pq q 11) := congrArg Int32.toInt (gm1.1 q hqp 11 (by omega)).1
  have e9p : F m2 (pq p 9) = F m (pq p 9) := congrArg Int32.toInt (f1.1 _ (by simp; exact ⟨fun c => by have := (pq_e (by omega) (by omega) c).2; omega, fun c => by have := (pq_e (by omega) (by omega) c).2; omega, fun c => by have := (pq_e (by omega) (by omega) c).2; omega, fun c => by have := (pq_e (by omega) (by omega) c).2; omega, fun c => pq_n (by omega) c.symm⟩))
  obtain ⟨h9w, h112, sq, plq⟩ : A w 109 q ≠ 3 ∧ A w 112 q = 0 ∧ SCs q m w ∧ m.1 (pq q 5) = w.2.2.1 90 q := by
    rcases wl.2.2.1 q hq with ⟨x1, x2, b', U', B', W', Y', pl', sc', -⟩ | ⟨x1, -⟩
    · refine ⟨x2, ?_, sc', pl'.1.2.2⟩
      show (w.2.2.1 112 q).toInt = 0
      rw [← sc'.2.2.1]
      exact h11
    · exact absurd x1 hal
  have hb15 : 0 ≤ F m (pq q 15) ∧ F m (pq q 15) ≤ 24 := by
    rcases wl.2.2.1 q hq with ⟨x1, x2, b', U', B', W', Y', pl', -⟩ | ⟨x1, -⟩
    · exact (SF_al wl.1 hq x1 pl').2.2.2
    · exact absurd x1 hal
  obtain ⟨⟨e, he⟩, e', he'⟩ := SF_e wl.1 hq hal
  have ei : e = i := by
    have := he.1
    rw [hq9] at this
    omega
  subst ei
  obtain ⟨-, ⟨n0, q1, q2, -, -⟩, -, -⟩ := id wl
  have ej : e' = j0 := by
    rw [hq9] at q1
    have := he'.1
    rw [q2] at this
    omega
  subst ej
  have x33 : F w2 133 = ((p : Nat) : Int) := by rw [FR.F g1.1 (by simp)]; exact r11
  have zx5 : w2.2.2.2 91 (46000 * p + (W + 1)) ≠ mk 1 5 := fun c => h5 (by
    rcases rt with ⟨-, x, -⟩ | ⟨x1, x2, -⟩
    · rw [← x]; exact c
    · rw [c, so_mk (by omega) (by omega)] at x2
      unfold isH at x1
      omega)
  have zx4 : w2.2.2.2 91 (46000 * p + (W + 1)) ≠ mk 1 4 := fun c => h4 (by
    rcases rt with ⟨-, x, -⟩ | ⟨x1, x2, -⟩
    · rw [← x]; exact c
    · rw [c, so_mk (by omega) (by omega)] at x2
      unfold isH at x1
      omega)
  rw [tw95_29, be0, bnd_so, dec_ne h5, br_fq, be0, bnd_so, oI, sig_c (by rw [e9]; exact hal) (by rw [e11]; exact h11) (by rw [e9p, q9]; omega) (Ne.symm hqp) h4, prr_8, sub2, tnI (n := p) rfl (by omega), wa_e]
  refine rb_ck (fun _ => rb_ck (fun _ => ?_))
  rw [lt_e, truth1, bnd_so]
  have y92 : A (wa w2 92 p ((W : Nat) : Int)) 92 p = ((W : Nat) : Int) := wa_sm (by omega) (by omega)
  have y33 : F (wa w2 92 p ((W : Nat) : Int)) 133 = ((p : Nat) : Int) := x33
  refine r_bb (r_bnd (pk_mo (put_r (N := N) (x := mk 1 0) (W := W) (by omega) y33 y92 (by omega)) (fun w8 _ e8 => ?_)))
  have g8 : FGw p j w w8 := by rw [e8]; exact FGw.tr (FGw.tr g1 FGw.w92) (FGw.put (by omega))
  have gw8 := GGw_fg g8 hj
  have k98 : A w8 98 (60 * p + j) = ((n + 1 : Nat) : Int) := by rw [e8, wa_rne (by omega), A_wj, wa_rne (by omega)]; exact h98
  have k33 : F w8 133 = ((p : Nat) : Int) := by rw [FR.F g8.1 (by simp)]; exact r11
  have eh : hp w8 p = hp w2 p := by rw [e8]; rfl
  refine r_bb (exr_c (p := p) (by omega) (by rw [FR.A g8.1 (by simp)]; exact h9w) (by rw [FR.A g8.1 (by simp)]; exact h112) k33 (by omega) (Ne.symm hqp) zx5 zx4 (r_bb (l_bb (l_bb (pp_bb (pp_mo (copy_pz (h := m2.2.2.2 (pq p 2)) (ns := U) (ns' := U) pt.1.2.2 hF rfl (by omega) (fun c => hqp ((pq_e (by omega) (by omega) c).1.symm)) (by rw [show hp (wa w8 89 24 0) p = hp w2 p from eh]; exact xc.2.1) (by omega) (by omega) (by omega) (by omega) (by rw [show hp (wa w8 89 24 0) p = hp w2 p from eh]; exact pl.1.2.1.w) rt z1 (by rw [show hp (wa w8 89 24 0) p = hp w2 p from eh]; exact z2) (wi_sm (by omega) (by omega)) (wa_sm (by omega) (by omega)) hs hN) (fun m4 r w9 r2 h => ?_)))))))
  obtain ⟨⟨b2, i2, rt2⟩, ⟨ow2, kd2, fz, hc, szc⟩, ⟨ow3, kd3, fz', hr, szr⟩, ⟨a1, a2⟩, c1, c2, c3⟩ := h
  have m4i : ∀ k, k ≠ pq q 4 → m4.1 k = m2.1 k := fun k hk => by rw [a1.1 k (by simpa using hk), wi_1 hk]
  have m4J : ∀ K, K ≠ pq q 2 → m4.2.2.2 K = m2.2.2.2 K := fun K hK => a1.2.2.2 K (by simpa using hK)
  have m4A : m4.2.2.1 = m2.2.2.1 := funext fun K => a1.2.2.1 K (by simp)
  have m4L : m4.2.1 = m2.2.1 := funext fun K => a1.2.1 K (by simp)
  have x9 : F m4 (pq q 9) ≠ 3 := by
    rw [show F m4 (pq q 9) = F m2 (pq q 9) from congrArg Int32.toInt (m4i _ (pq_inj (by omega))), e9]
    exact hal
  have x955 : F m4 955 = ((e : Nat) : Int) := by
    rw [show F m4 955 = F m2 955 from congrArg Int32.toInt (m4i _ (pq_n (by omega))), show F m2 955 = F m 955 from congrArg Int32.toInt gm1.2.2.1]
    exact he.1
  have y9 : A w9 109 q ≠ 3 := by
    rw [FR.A c1 (by simp)]
    show A (wa w8 89 24 0) 109 q ≠ 3
    rw [wa_rne (by omega), FR.A g8.1 (by simp)]
    exact h9w
  have y150 : F w9 150 = ((e' : Nat) : Int) := by
    rw [FR.F c1 (by simp)]
    show F w8 150 = _
    rw [FR.F g8.1 (by simp)]
    exact he'.1
  rw [endsW_e (e := e) x9 x955 he.2, willE_e (e := e') (by omega) y9 y150 he'.2 (by omega)]
  simp only [bb_e, bnd_so]
  have LM : ∀ d, d ≠ q → LOCm d m2 (enS m4 q r q e) := fun d hd => LOCm.tr (fun k hk => ⟨m4i _ (fun c => hd (pq_e hk (by omega) c).1), by rw [m4L], by rw [m4A], m4J _ (fun c => hd (pq_e hk (by omega) c).1)⟩) (LOCm_en hd)
  have LW : ∀ d, d ≠ q → d < 24 → LOCw d w8 (enR w9 q 0 ((24 : Nat) : Int) r2 e') := fun d hd h24 => ((w89_loc (show d ≠ 24 by omega)).tr2 (cp_loc2 (show d ≠ 24 by omega) c1 c2 c3)).tr2 (LOCw_en hd)
  have v := enS_v (m := m4) (q := q) (t := r) (hm := q) (e := e)
  have a9 := enR_9 (w := w9) (q := q) (wr := 0) (o := 24) (x := r2) (e := e')
  obtain ⟨u1, u2⟩ := enS_q (m := m4) (t := r) (hm := q) (show e < 1000 by omega) (show q < 1000 by omega)
  obtain ⟨v1, v2, v3, v4, v5⟩ := enR_q (w := w9) (x := r2) (wr := 0) (o := 24) (show e' < 10000 by omega) (show q < 1000 by omega) (by omega) ⟨by omega, by omega⟩
  have fr := enR_fr (w := w9) (q := q) (wr := 0) (o := 24) (x := r2) (e := e')
  have em : (∀ k, k < 2000 → k ≠ 955 → (enS m4 q r q e).1 k = m2.1 k) ∧ (∀ k, k < 2000 → (enS m4 q r q e).2.1 k = m2.2.1 k) ∧ ∀ K, K < 2000 → K ≠ 54 → (enS m4 q r q e).2.2.1 K = m2.2.2.1 K := ⟨fun k hk h => by rw [enS_1 (pq_n hk) (pq_n hk) h]; exact m4i k (pq_n hk), fun k hk => by rw [enS_2 (pq_n hk), m4L], fun K hK h => by rw [enS_3 h, m4A]⟩
  have w9A : ∀ K, K ≠ 89 → K ≠ 142 → w9.2.2.1 K = w8.2.2.1 K := fun K h1 h2 => by rw [c1.2.2.1 K (by simp; omega), wa_21 h1]
  have ew : (∀ k, k ≠ 150 → k ≠ 136 → k ≠ 138 → k ≠ 140 → (enR w9 q 0 ((24 : Nat) : Int) r2 e').1 k = w8.1 k) ∧ (∀ K, K < 88 ∨ (118 ≤ K ∧ K ≤ 130) → (enR w9 q 0 ((24 : Nat) : Int) r2 e').2.2.1 K = w8.2.2.1 K) ∧ (enR w9 q 0 ((24 : Nat) : Int) r2 e').2.2.2 34 = w8.2.2.2 34 := ⟨fun k h _ _ _ => (fr.1 k (by simpa using h)).trans (c1.1 k (by simp)), fun K h => (fr.2.2.1 K (by simp; omega)).trans (w9A K (by omega) (by omega)), (fr.2.2.2 34 (by simp)).trans (c1.2.2.2 34 (by simp))⟩
  have sqk : ∀ k, k = 5 ∨ k = 12 ∨ k = 13 ∨ k = 15 → (enS m4 q r q e).1 (pq q k) = m.1 (pq q k) := fun k hk => by
    rw [enS_1 (pq_inj (by omega)) (pq_inj (by omega)) (fun c => pq_n (by omega) c.symm), m4i _ (pq_inj (by omega))]
    exact (gm1.1 q hqp k (by omega)).1
  have qe : QEs (enS m4 q r q e) (enR w9 q 0 ((24 : Nat) : Int) r2 e') q := by
    refine QE_sc sq hb15 plq sqk ?_ (fun K hK => ?_) ?_ ?_
    · rw [enS_3 (fun c => pq_n (by omega) c.symm), m4A]
      exact (gm1.1 q hqp 14 (by omega)).2.2.1
    · rw [fr.2.2.1 K (by simp; omega), w9A K (by omega) (by omega)]
      rcases hK with rfl | rfl | rfl
      · exact (gw8.1 q hqp).2.1 90 (by omega)
      · rw [g8.1.2.2.1 113 (by simp)]
      · rw [g8.1.2.2.1 114 (by simp)]
    · rw [fr.2.2.1 116 (by simp), w9A 116 (by omega) (by omega), g8.1.2.2.1 116 (by simp)]
    · rw [fr.2.2.1 117 (by simp), w9A 117 (by omega) (by omega), g8.1.2.2.1 117 (by simp)]
  have ehE : hp (enR w9 q 0 ((24 : Nat) : Int) r2 e') 24 = hp w9 24 := by
    funext k
    exact congrFun (fr.2.2.2 88 (by simp)) _
  have x148 : (enR w9 q 0 ((24 : Nat) : Int) r2 e').2.2.2 148 e' = r2 := by
    rw [v5, if_pos rfl]
  have rq : RQs Fv P Fv' P' PR (enS m4 q r q e) (enR w9 q 0 ((24 : Nat) : Int) r2 e') q 0 24 ((enR w9 q 0 ((24 : Nat) : Int) r2 e').2.2.2 148 e') := by
    rw [x148]
    refine ⟨q, s, by rw [v.2.1]; exact rf_some (by omega), hq, v.1, Or.inl rfl, ?_, ?_⟩
    · rw [v.2.2]
      refine ⟨by omega, Or.inr ⟨q, b2, s, ow2, kd2, fz, s, ow3, kd3, fz', rfl, ⟨hc, by omega, fun c => by omega⟩, ⟨by rw [ehE]; exact hr, hs, fun c => by omega⟩, by rw [ehE]; exact i2.w, szc, Or.inl ⟨rfl, rt2, by rw [ehE]; exact szr⟩⟩⟩
    · by_cases zh : isH r2
      · refine Or.inr ⟨zh, Or.inl rfl, s, ow3, kd3, ?_, hs, by rw [ehE]; exact hr, SZ_gt szr⟩
        rw [FR.A fr (by simp), c2, if_pos rfl]
      · refine Or.inl ⟨zh, ?_⟩
        rcases SZ_gt szr with g | g
        · exact g.2
        · exact absurd g.1 zh
  have e1 : F (enS m4 q r q e) 955 = ((e + 1 : Nat) : Int) := u1
  have e54 : A (enS m4 q r q e) 54 e = ((q : Nat) : Int) := by rw [u2, if_pos rfl]
  have e145 : A (enR w9 q 0 ((24 : Nat) : Int) r2 e') 145 e' = ((q : Nat) : Int) := by rw [v2, if_pos rfl]
  have e146 : A (enR w9 q 0 ((24 : Nat) : Int) r2 e') 146 e' = 0 := by rw [v3, if_pos rfl]
  have e147 : A (enR w9 q 0 ((24 : Nat) : Int) r2 e') 147 e' = ((24 : Nat) : Int) := by rw [v4, if_pos rfl]
  have k109 : A (enR w9 q 0 ((24 : Nat) : Int) r2 e') 109 q = 3 := by rw [a9, if_pos rfl]
  have kk9 := v.1
  have lp := LM p (Ne.symm hqp)
  have pl1 : PLs b p (enS m4 q r q e) w2 U B (W + 2) Y := PLs_cg pl (fun k hk => (lp k (by simp at hk; omega)).1) (fun i _ => by rw [(lp 2 (by omega)).2.2.2]) (fun i _ => by rw [(lp 33 (by omega)).2.2.2]) (fun i _ => by rw [(lp 35 (by omega)).2.2.2]) (fun i _ => by rw [(lp 6 (by omega)).2.2.2]) (fun _ _ => rfl) (fun _ _ => rfl) (fun _ _ => rfl) (fun _ _ => rfl) (fun _ _ => rfl)
  have f45 : F (enS m4 q r q e) (pq p 45) = ((l : Nat) : Int) := (congrArg Int32.toInt (lp 45 (by omega)).1).trans hl
  have f05 : F (enS m4 q r q e) 1105 = ((a : Nat) : Int) := (congrArg Int32.toInt (em.1 1105 (by omega) (by omega))).trans h05
  have lw := LW p (Ne.symm hqp) (by omega)
  have k98' : A (enR w9 q 0 ((24 : Nat) : Int) r2 e') 98 (60 * p + j) = ((n + 1 : Nat) : Int) := by
    rw [← k98]
    exact congrArg Int32.toInt (lw.1 98 _ (Or.inr (Or.inl ⟨⟨by omega, by omega⟩, by omega, by omega⟩)))
  have e2 : F (enR w9 q 0 ((24 : Nat) : Int) r2 e') 150 = ((e' + 1 : Nat) : Int) := v1
  generalize hmE : enS m4 q r q e = mE at LM em qe rq e1 e54 kk9 lp pl1 f45 f05
  generalize hwE : enR w9 q 0 ((24 : Nat) : Int) r2 e' = wE at LW ew qe rq e145 e146 e147 k109 lw k98' e2
  have pd := PLs_drop (k := 2) (W := W) pl1 (by omega)
  unfold hb_Ma_toward_335 hm_Ma_answer hb_Ma_answer_0
  rw [show (2 : Int32) = I 2 from rfl, drop_e (W := W + 2) (k := 2) (x := 2) pl1.2.2.1.1 rfl (by omega), bnd_so, show W + 2 - 2 = W by omega]
  simp only [bb_e, bnd_so]
  have e26' : F (wi mE (pq p 26) ((W : Nat) : Int)) (pq p 26) = ((W : Nat) : Int) := wi_sm (by omega) (by omega)
  have e45' : F (wi mE (pq p 26) ((W : Nat) : Int)) (pq p 45) = ((l : Nat) : Int) := by rw [wi_ne (pq_inj (by omega))]; exact f45
  refine l_bnd (pk_mo (push_m (N := N) (t := mk 1 0) e26' e45' (by omega) hl2.2) (fun m8 _ h => ?_))
  obtain ⟨y1, y2, y3⟩ := h
  have k05 : F m8 1105 = ((a : Nat) : Int) := by rw [FR.F y1 (by simp [pq_n]), wi_ne (pq_n (by omega))]; exact f05
  rw [I_F' k05, show I ((a : Nat) : Int) + I 2 = I ((a + 2 : Nat) : Int) from addN, wi_e]
  have n1 : ¬ isH (mk 1 0) := nh_mk (by omega)
  have n6 : so (mk 1 0) = 6 → va (mk 1 0) = 0 := fun c => by rw [so_mk (by omega) (by omega)] at c; omega
  have pl3 := PLs_pc (z := ((a + 2 : Nat) : Int)) (PLs_push (x := mk 1 0) pd (RTb_lit n1 n6) y1 y2 y3)
  rw [← e8] at pl3
  have pl4 : PLs b p (wi m8 1105 ((a + 2 : Nat) : Int)) wE U B (W + 1) Y := by
    refine PLs_cg pl3 (fun _ _ => rfl) (fun _ _ => rfl) (fun _ _ => rfl) (fun _ _ => rfl) (fun _ _ => rfl) (fun k hk => ?_) (fun i hi => lw.2.2.2.2.1 _ (by omega) (by omega)) (fun i hi => lw.2.2.2.2.2.2.1 _ (by omega) (by omega)) (fun i hi => lw.2.2.2.2.2.1 _ (by omega) (by omega)) (fun i hi => lw.2.2.2.2.2.2.2 _ (by omega) (by omega))
    simp only [List.mem_cons, List.not_mem_nil, or_false] at hk
    rcases hk with rfl | rfl | rfl | rfl | rfl
    · exact lw.2.1 89 (by omega)
    · exact lw.2.1 90 (by omega)
    · exact lw.1 92 p (Or.inl ⟨by omega, rfl⟩)
    · exact lw.1 94 p (Or.inl ⟨by omega, rfl⟩)
    · exact lw.2.1 108 (by omega)
  have f3 : FGm p mE (wi m8 1105 ((a + 2 : Nat) : Int)) := FGm.tr (FGm.tr FGm.drop (FGm.push y1)) FGm.pc
  obtain ⟨ru3, w3, g1', g2'⟩ := exq_end hpp hq hqp hal wl hq9 ru sc f1 g8 LM LW em ew f3 pl4 (wi_sm (by omega) (by omega)) k98' cr e1 e54 e2 e145 e146 e147 ⟨kk9, k109⟩ rq qe
  exact c _ _ w3 pl4 ru3 g1' g2'
end
end
section
set_option maxRecDepth 100000
section
variable {bS : Int → Nat → Nat → Prop} {h hs' g : Nat → Int64} {N o n n' ns ns' s zz f s0' : Nat} {ow' kd' oo : Nat → Nat} {Fv' : Int64 → Int64 → Prop} {P' : Int64 → Prop} {w : MS} {t x : Int64} {src' : Nat → Int64} {st : Nat → Prop} {sk : Nat → Int64} {at' : Nat → Int} {cc : Nat → Nat}
def bnO (bS : Int → Nat → Nat → Prop) (st : Nat → Prop) (src' : Nat → Int64) (k : Int) (a e : Nat) : Prop := st e ∧ so (src' e) = k ∧ bS k a (vn (src' e))
theorem cpo_iso (sS : ISw bS h ns hs' ns') (hs : s ≤ 1000) (i : CPI hs' n' ow' kd' Fv' P' f 0 g s 0 s 0 sk at' cc st src' oo) : ISw (bnO bS st src') h ns g s := by
  have i' : CPI hs' n' ow' kd' Fv' P' f 0 g (0 + s) 0 (0 + s) 0 sk at' cc st src' oo := by rw [Nat.zero_add]; exact i
  have key : ∀ t x, isH t → RTb (bnO bS st src') t x → st (vn x) ∧ RTb bS t (src' (vn x)) := fun t x z r => by
    obtain ⟨⟨v1, v2⟩, b1, b2, b3⟩ := RTb_h r z
    have gt := (i.2.2.1 _ b1).2.2.2.1
    have zs := (i.2.2.1 _ b1).2.2.1
    refine ⟨b1, Or.inr ⟨z, b2, ⟨v1, ?_⟩, b3⟩⟩
    rcases gt with g | g
    · exact absurd zs g.1
    · exact g.2.1
  refine ⟨fun t x z r => ?_, trivial, fun k a e hb => ⟨(sS.2.2 k a _ hb.2.2).1, (sS.2.2 k a _ hb.2.2).2.1, by have := CPI_lt i hb.1; omega⟩⟩
  obtain ⟨q4, q6⟩ := key t x z r
  obtain ⟨⟨e1, e2, e3⟩, e4, e5⟩ := sS.1 _ _ z q6
  have g2 : blk g x = blk hs' (src' (vn x)) := cpi_blk i' q4 (by rw [RTb_so r, RTb_so q6]) rfl
  have hb := (i.2.2.1 _ q4).2.1
  have bp := blk_pos (h := h) z
  refine ⟨⟨by rw [g2, e1], e2, by omega⟩, fun j h1 h2 => ?_, fun e => ?_⟩
  · have rp := e4 j h1 h2
    have ds := (cpi_cell i' q4 (j := j) (by rw [e1]; exact h2)).2 (by rw [RTb_prt q6]; exact h1)
    by_cases zc : isH (h (vn t + j))
    · have zp := (RTb_isH rp).mpr zc
      rcases ds with ⟨w1, -⟩ | ⟨-, w2, w3, w4, w5⟩
      · exact absurd zp w1
      · refine Or.inr ⟨zc, by rw [w2, RTb_so rp], ⟨(RTb_h rp zc).1.1, w3⟩, w4, by rw [w5, RTb_so rp], ?_⟩
        rw [w5]
        exact (RTb_h rp zc).2
    · rcases ds with ⟨w1, w2⟩ | ⟨w1, -⟩
      · rw [w2, RTb_n rp zc]
        exact RTb_lit zc (RTb_nil rp)
      · exact absurd ((RTb_isH rp).mp w1) zc
  · have y2 : g (vn x) = hs' (vn (src' (vn x))) := (cpi_cell i' q4 (j := 0) (by rw [e1]; exact bp)).1 (by unfold prt; rw [RTb_so q6, e]; decide)
    rw [y2]
    exact e5 e
theorem copy_o1 (gS' : HP (hp w o) n' ow' kd' Fv' P') (hn' : n' ≤ 500) (ho : o < 25) (hz : zz < 25) (hoz : o ≠ zz) (sS : ISw bS h ns (hp w o) ns') (rt : RTb bS t x) (z2 : SZ (hp w o) n' ow' kd' Fv' P' f x s) (hu' : A w 89 zz = 0) (hl : s ≤ 500) (hN : 3000 ≤ N) : PK (fun w2 r2 => (∃ b2, ISw b2 h ns (hp w2 zz) s ∧ RTb b2 t r2) ∧ (∃ ow2 kd2 f2, HP (hp w2 zz) s ow2 kd2 Fv' P' ∧ SZ (hp w2 zz) s ow2 kd2 Fv' P' f2 r2 s) ∧ FR [] [] [89, 142] [88, 141] w w2 ∧ (∀ r, A w2 89 r = if r = zz then ((s : Nat) : Int) else A w 89 r) ∧ ∀ i, ¬ (500 * zz ≤ i ∧ i < 500 * zz + 500) → w2.2.2.2 88 i = w.2.2.2 88 i) (fm_M_copy N w (I ((o : Nat) : Int)) x (I ((zz : Nat) : Int))) := by
  intro w2 r2 e2
  have hu1 : A w 89 zz = ((0 : Nat) : Int) := hu'
  by_cases zt : isH t
  · have zx := (RTb_isH rt).mpr zt
    obtain ⟨b1, b2, b3, cc, st, src, oo, b4, b5, b6, b7⟩ := pk_ok (copy_x (N := N) (n0 := 0) ho hz hn' (by omega) (fun c => absurd c hoz) gS' z2 hu1 (by omega) zx) w2 r2 e2
    have rr := copy_res (N := N) (s0' := 0) hz zx hu1 w2 r2 e2
    have v9 : va r2 = ((0 : Nat) : Int) := by rw [rr, va_rp (by omega) (by omega)]
    have v8 : vn r2 = 0 := by unfold vn; omega
    have s9 : so r2 = so x := by rw [rr, so_rp (by omega) (by omega)]
    rw [Nat.zero_add] at b2 b4
    have iso := cpo_iso (g := hp w2 zz) sS (by omega) b4
    obtain ⟨ow3, kd3, h1, h2, h3, h4, h5⟩ := CPI_end (hD := hp w zz) gS' (HP_zr (Fv := Fv') (P := P')) b4 (fun z hz => absurd hz (Nat.not_lt_zero z))
    have s3 := h4 _ r2 x s b7 z2
    refine ⟨⟨_, iso, Or.inr ⟨zt, by rw [s9, RTb_so rt], ⟨(RTb_h rt zt).1.1, by omega⟩, by rw [v8]; exact b6.1, by rw [v8, b6.2, RTb_so rt], ?_⟩⟩, ⟨ow3, kd3, _, h1, s3⟩, b1, b2, fun i hi => b3 i (by omega)⟩
    rw [v8, b6.2]
    exact (RTb_h rt zt).2
  · have ex := RTb_n rt zt
    have zx : ¬ isH x := by rw [ex]; exact zt
    have eq : fm_M_copy N w (I ((o : Nat) : Int)) x (I ((zz : Nat) : Int)) = some (w, x) := by
      unfold fm_M_copy fb_M_copy_0
      rw [inHeap_e.2 zx, bnd_so]
      rfl
    rw [eq] at e2
    injection e2 with e2
    injection e2 with e3 e4
    subst e3
    subst e4
    have sx : s = 0 ∧ ∃ f2, SZ (hp w zz) 0 (fun _ => 0) (fun _ => 0) Fv' P' f2 x 0 := by
      cases f with
      | zero => exact z2.elim
      | succ f' =>
        rcases z2 with ⟨y1, y2, y3⟩ | ⟨y1, -⟩
        · exact ⟨y3, 1, Or.inl ⟨y1, y2, rfl⟩⟩
        · exact absurd y1 zx
    obtain ⟨e0, f3, sx⟩ := sx
    subst e0
    refine ⟨⟨fun _ _ _ => False, ⟨fun u y z q => (RTb_h q z).2.elim, trivial, fun _ _ _ q => q.elim⟩, ?_⟩, ⟨_, _, f3, HP_zr, sx⟩, FR.rf, fun r9 => ?_, fun _ _ => rfl⟩
    · rw [ex]
      exact RTb_lit zt (RTb_nil rt)
    · by_cases e : r9 = zz
      · rw [if_pos e, e]; exact hu1
      · rw [if_neg e]
end
end
section
set_option maxRecDepth 100000
section
variable {b b' : Int → Nat → Nat → Prop} {Fv Fv' : Int64 → Int64 → Prop} {P P' : Int64 → Prop} {N PR p q i j0 U B W Y U' B' W' Y' j jj a n a2 n2 o : Nat} {m w m2 w2 w8 mE wE m3 : MS} {nb : Nat → Nat} {Hs Os : Nat → List Nat} {y : Option (Nat × Nat × Nat)}
theorem WL_livc (wl : WLs (RRt p) PR Fv P Fv' P' none i j m w) (hal : F m (pq p 9) ≠ 3) (halq : F m (pq q 9) ≠ 3) (hqp : q ≠ p) (hq : F m 955 = ((i : Nat) : Int)) (s2 : SFs Fv P Fv' P' PR m2 w2) (D : ∀ d, d ≠ p → d ≠ q → LOCm d m m2 ∧ (d < PR → LOCw d w w2)) (pg : PG0 m w m2 w2) (e1 : F m2 955 = ((i : Nat) : Int)) (e2 : F w2 150 = F w 150) (k9 : F m2 (pq q 9) ≠ 3 ∧ A w2 109 q ≠ 3) (alq : PLs b' q m2 w2 U' B' W' Y' ∧ SCs q m2 w2 ∧ WTr q m2 w2) (pl : PLs b p m2 w2 U B W Y) (sc2 : SCs p m2 w2) (ru : RUs m2 w2 p jj nb Hs Os y a n) : WLs (RRp p) PR Fv P Fv' P' none i j m2 w2 := by
  obtain ⟨sf, ⟨n0, q1, q2, -, -⟩, pr, -⟩ := id wl
  have hn0 : n0 = 0 := by
    rw [hq] at q1
    omega
  subst hn0
  have f9 : ∀ d, d ≠ p → d ≠ q → F m2 (pq d 9) = F m (pq d 9) := fun d hd h2 => congrArg Int32.toInt ((D d hd h2).1 9 (by omega)).1
  have a9 : ∀ d, d ≠ p → d ≠ q → d < PR → A w2 109 d = A w 109 d := fun d hd h2 h3 => congrArg Int32.toInt (((D d hd h2).2 h3).1 109 d (Or.inl ⟨by omega, rfl⟩))
  refine ⟨s2, ⟨0, by rw [e1]; rfl, by rw [e2]; exact q2, fun k hk => absurd hk (Nat.not_lt_zero k), fun k l hk hl _ => absurd hk (Nat.not_lt_zero k)⟩, fun r hr => ?_, RRp_stb⟩
  by_cases rn : r = q
  · subst rn
    exact Or.inl ⟨k9.1, k9.2, b', U', B', W', Y', alq.1, alq.2.1, Or.inr ⟨hqp, alq.2.2⟩⟩
  by_cases rq' : r = p
  · subst rq'
    exact Or.inl ⟨by rw [ru.2.2.2.1.1]; omega, by rw [ru.2.2.2.1.2]; omega, b, U, B, W, Y, pl, sc2, Or.inl ⟨rfl, jj, nb, Hs, Os, y, a, n, ru⟩⟩
  obtain ⟨l1, l2'⟩ := D r rq' rn
  have l2 := l2' hr
  rcases pr r hr with ⟨x1, x2, b', U', B', W', Y', pl', sc', rr⟩ | ⟨x1, x2, x⟩
  · obtain ⟨-, -, ⟨b1, b2, b3⟩, b4⟩ := SF_al sf hr x1 pl'
    have hU := pl'.1.1.2.2
    have rr2 : WTr r m w := by
      rcases rr with rr | rr
      · exact absurd rr rq'
      · exact rr
    obtain ⟨t1, t2, t3⟩ := AL_loc ⟨pl', sc', rr2⟩ ⟨hU, b1, b2, b3, b4.2⟩ pg l1 l2
    exact Or.inl ⟨by rw [f9 r rq' rn]; exact x1, by rw [a9 r rq' rn hr]; exact x2, b', U', B', W', Y', t1, t2, Or.inr ⟨rq', t3⟩⟩
  · refine Or.inr ⟨by rw [f9 r rq' rn]; exact x1, by rw [a9 r rq' rn hr]; exact x2, Or.inr (Or.inr ?_)⟩
    rcases x with x | ⟨k, k1, k2, -⟩ | x
    · cases x
    · rw [hq] at k2
      omega
    · refine DEs_st2 x pg l1 l2 (fun d hd h3 => ?_)
      have dp : d ≠ p := fun c => hal (by rw [← c]; exact h3)
      have dn : d ≠ q := fun c => halq (by rw [← c]; exact h3)
      exact ⟨by rw [f9 d dp dn]; exact h3, ((D d dp dn).1 2 (by omega)).2.2.2⟩
theorem exq_liv (hpp : p < PR) (hq : q < PR) (hqp : q ≠ p) (hal : F m (pq q 9) ≠ 3) (wl : WLs (RRp p) PR Fv P Fv' P' none i j0 m w) (hq9 : F m 955 = ((i : Nat) : Int)) (ru : RUs m w p j nb Hs Os y a n) (sc : SCs p m w) (f1 : FGm p m m2) (g8 : FGw p j w w8) (Lm : ∀ d, d ≠ q → LOCm d m2 mE) (Lw : ∀ d, d ≠ q → d < 24 → LOCw d w8 wE)
    (em : (∀ k, k < 2000 → k ≠ 955 → mE.1 k = m2.1 k) ∧ (∀ k, k < 2000 → mE.2.1 k = m2.2.1 k) ∧ ∀ K, K < 2000 → K ≠ 54 → mE.2.2.1 K = m2.2.2.1 K) (ew : (∀ k, k ≠ 150 → k ≠ 136 → k ≠ 138 → k ≠ 140 → wE.1 k = w8.1 k) ∧ (∀ K, K < 88 ∨ (118 ≤ K ∧ K ≤ 130) → wE.2.2.1 K = w8.2.2.1 K) ∧ wE.2.2.2 34 = w8.2.2.2 34) (f3 : FGm p mE m3) (pl3 : PLs b p m3 wE U B W Y) (h05 : F m3 1105 = ((a2 : Nat) : Int)) (h98 : A wE 98 (60 * p + j) = ((n2 : Nat) : Int)) (cr : ∃ f, CRs (A m 23) (ROs w) (w.2.2.2 34) f y a2 n2 (Hs j) (Os j))
    (e1 : F mE 955 = F m2 955) (e2 : F wE 150 = F w8 150) (k9 : F mE (pq q 9) ≠ 3 ∧ A wE 109 q ≠ 3) (alq : PLs b' q mE wE U' B' W' Y' ∧ SCs q mE wE ∧ WTr q mE wE) (bq : W' ≤ 46000 ∧ B' ≤ 2500 ∧ Y' ≤ 30 ∧ F mE (pq q 15) ≤ 24) :
    RUs m3 wE p j nb Hs Os y a2 n2 ∧ (SFs Fv P Fv' P' PR m3 wE → WLs (RRp p) PR Fv P Fv' P' none i j0 m3 wE) ∧ EGm m m3 ∧ EGw w wE := by
  obtain ⟨⟨fa, -⟩, -, -, ⟨q9, q9w⟩, -, -, r11, -, -⟩ := id ru
  have hj : j < 60 := fa.1.2.2
  have p24 : PR ≤ 24 := wl.1.2.1.1.1.2
  obtain ⟨em1, em2, em3⟩ := em
  obtain ⟨ew1, ew2, ew3⟩ := ew
  have gm1 := GGm_fg f1
  have gm3 := GGm_fg f3
  have gw8 := GGw_fg g8 hj
  have eqm : EQm p m (swM p m mE) := swM_eq f1 (Lm p (Ne.symm hqp)) (em3 23 (by omega) (by omega))
  have eqw : EQw p w (swW p j w wE) := swW_eq g8 (Lw p (Ne.symm hqp) (by omega)) (fun K hK => ew2 K (by unfold PRr at hK; omega)) ew3
  have fB : FGm p (swM p m mE) m3 := FGm.tr swM_fg f3
  have gB : FGw p j (swW p j w wE) wE := swW_fg
  have s1 : ∀ k, k < 2000 → k ≠ 955 → (swM p m mE).1 k = m.1 k := fun k hk h => by
    show (if k = pq p 4 ∨ k = pq p 5 ∨ k = pq p 26 ∨ k = pq p 45 ∨ k = 1105 then m.1 k else mE.1 k) = _
    by_cases c : k = pq p 4 ∨ k = pq p 5 ∨ k = pq p 26 ∨ k = pq p 45 ∨ k = 1105
    · rw [if_pos c]
    · rw [if_neg c, em1 k hk h]
      exact f1.1 k (by simpa using c)
  have s2 : ∀ k, k < 2000 → (swM p m mE).2.1 k = m.2.1 k := fun k hk => (em2 k hk).trans (f1.2.1 k (by simp))
  have s3 : ∀ K, K < 2000 → K ≠ 54 → (swM p m mE).2.2.1 K = m.2.2.1 K := fun K hK h => (em3 K hK h).trans (f1.2.2.1 K (by simp))
  have bw : ∀ k, k ≠ 150 → k ≠ 136 → k ≠ 138 → k ≠ 140 → (swW p j w wE).1 k = w.1 k := fun k h0 h1 h2 h3 => by rw [swW_1 ⟨h1, h2, h3⟩, ew1 k h0 h1 h2 h3]; exact g8.1.1 k (by simp; omega)
  have bA : ∀ K, K < 88 ∨ (118 ≤ K ∧ K ≤ 130) → (swW p j w wE).2.2.1 K = w.2.2.1 K := fun K h => funext fun i => by rw [swW_A (fun c => by unfold owP at c; omega), ew2 K (by omega)]; exact congrFun (g8.1.2.2.1 K (by simp; omega)) i
  have pg : PGs m w (swM p m mE) (swW p j w wE) := ⟨⟨⟨s3 23 (by omega) (by omega), s1 22 (by omega) (by omega), ATc_eq (s3 2 (by omega) (by omega)) (s3 3 (by omega) (by omega))⟩, eqw.2.2.1, eqw.2.2.2, bA 12 (by omega), bA 13 (by omega), bw 14 (by omega) (by omega) (by omega) (by omega)⟩, fun k h1 h2 => ⟨s1 k (by omega) (by omega), s2 k (by omega)⟩, fun k h => bw k (by omega) (by omega) (by omega) (by omega)⟩
  have ruB := RUs_st ru eqm.n eqw.v pg
  have hb15 : F m (pq p 15) ≤ 24 := by
    rcases wl.2.2.1 p hpp with ⟨x1, x2, b', U', B', W', Y', pl', -⟩ | ⟨x1, -⟩
    · exact (SF_al wl.1 hpp x1 pl').2.2.2.2
    · rw [q9] at x1
      omega
  have scB := SC_eq sc hb15 eqm eqw
  have crB : ∃ f, CRs (A (swM p m mE) 23) (ROs (swW p j w wE)) ((swW p j w wE).2.2.2 34) f y a2 n2 (Hs j) (Os j) := by
    rw [show A (swM p m mE) 23 = A m 23 from by funext k; show ((swM p m mE).2.2.1 23 k).toInt = _; rw [s3 23 (by omega) (by omega)]; rfl, ROs_eq (w := w) eqw.2.2.1, eqw.2.2.2]
    exact cr
  have ru3 := RUs_mv (a2 := a2) (n2 := n2) ruB fB gB h05 h98 crB
  refine ⟨ru3, fun s3' => ?_, ⟨fun K h1 h2 => ?_, fun k h1 h2 => ?_⟩, fun K h => (ew2 K h).trans (gw8.2.2.2.2.2.1 K h), fun k h => (ew1 k (by omega) (by omega) (by omega) (by omega)).trans (gw8.2.2.2.2.2.2 k h)⟩
  · have f9 : ∀ d, d ≠ p → F m3 (pq d 9) = F mE (pq d 9) := fun d hd => congrArg Int32.toInt (gm3.1 d hd 9 (by omega)).1
    have pgE : PG0 mE wE m3 wE := ⟨⟨gm3.2.1.1, gm3.2.1.2.1, ATc_eq gm3.2.1.2.2.1 gm3.2.1.2.2.2⟩, fun _ _ => rfl, rfl, rfl, rfl, rfl⟩
    refine WL_livc (WL_t wl) (by rw [q9]; omega) hal hqp hq9 s3' (fun d h1 h2 => ⟨LOCm.tr (LOCm.tr (gm1.1 d h1) (Lm d h2)) (gm3.1 d h1), fun h3 => (gw8.1 d h1).tr2 (Lw d h2 (by omega))⟩) ?_ ?_ ?_ ⟨by rw [f9 q hqp]; exact k9.1, k9.2⟩ (AL_loc alq ⟨alq.1.1.1.2.2, bq⟩ pgE (gm3.1 q hqp) LOCw.rf) pl3 (SC_fg scB fB gB) ru3
    · exact ⟨⟨gm3.2.1.1.trans ((em3 23 (by omega) (by omega)).trans gm1.2.1.1), gm3.2.1.2.1.trans ((em1 22 (by omega) (by omega)).trans gm1.2.1.2.1), ATc_eq (gm3.2.1.2.2.1.trans ((em3 2 (by omega) (by omega)).trans gm1.2.1.2.2.1)) (gm3.2.1.2.2.2.trans ((em3 3 (by omega) (by omega)).trans gm1.2.1.2.2.2))⟩, fun K hK => (ew2 K (by unfold PRr at hK; omega)).trans (gw8.2.1.1 K hK), ew3.trans gw8.2.1.2.1, (ew2 12 (by omega)).trans gw8.2.1.2.2.1, (ew2 13 (by omega)).trans gw8.2.1.2.2.2.1, (ew1 14 (by omega) (by omega) (by omega) (by omega)).trans gw8.2.1.2.2.2.2⟩
    · rw [show F m3 955 = F mE 955 from congrArg Int32.toInt gm3.2.2.1, e1, show F m2 955 = F m 955 from congrArg Int32.toInt gm1.2.2.1]
      exact hq9
    · rw [e2, show F w8 150 = F w 150 from congrArg Int32.toInt gw8.2.2.1]
  · rw [gm3.2.2.2.2.2.1 K h1, em3 K (by omega) h2, gm1.2.2.2.2.2.1 K h1]
  · rw [gm3.2.2.2.2.2.2 k h1, em1 k (by omega) h2, gm1.2.2.2.2.2.2 k h1]
end
section
variable {α β : Type} {N p q : Nat} {m w : MS} {t x : Int64} {Q : MS → α → MS → β → Prop} {D : Option (MS × α)} {K : MS → Unit → Option (MS × β)}
theorem sig_t (h9 : F m (pq q 9) ≠ 3) (h11 : F m (pq q 11) ≠ 0) {z : Int32} : hm_Wl_signal N m z q t (some p) = bnd (hm_Wl_post N m q 4 z 0 t (some p)) (fun u _ => some (u, ())) := by
  have r9 := F_r m (pq q 9)
  have r11 := F_r m (pq q 11)
  unfold hm_Wl_signal hb_Wl_signal_0
  rw [I_F (k := pq q 9), show decide (I (F m (pq q 9)) = 3) = false from by rw [show (3 : Int32) = I 3 from rfl, decE r9.1 r9.2 (by omega) (by omega)]; exact decide_eq_false h9, br_fq, I_F (k := pq q 11), show decide (I (F m (pq q 11)) = 0) = false from by rw [show (0 : Int32) = I 0 from rfl, decE r11.1 r11.2 (by omega) (by omega)]; exact decide_eq_false h11, br_fq]
theorem exr_t (hq : q < 24) (h9 : A w 109 q ≠ 3) (h112 : A w 112 q ≠ 0) (x33 : F w 133 = ((p : Nat) : Int)) (h5 : x ≠ mk 1 5) (h : PP Q D (bnd (bnd (fm_M_message N w (I ((q : Nat) : Int)) (I ((0 : Nat) : Int)) (I 0) (I ((p : Nat) : Int)) (I 0) (I ((p : Nat) : Int)) x) (fun u _ => some (u, ()))) K)) : PP Q D (bnd (fm_M_exitRun N w (I ((q : Nat) : Int)) x) K) := by
  have r9 := A_r w 109 q
  have r112 := A_r w 112 q
  unfold fm_M_exitRun fb_M_exitRun_0 fb_M_exitRun_111
  refine rb_ck (fun _ => ?_)
  rw [tnI (n := q) rfl (by omega), I_A (k := 109), show decide (I (A w 109 q) = 3) = false from by rw [show (3 : Int32) = I 3 from rfl, decE r9.1 r9.2 (by omega) (by omega)]; exact decide_eq_false h9, br_fq, show fm_M_term N w 1 5 = some (w, mk 1 5) from rfl, rb_bnd_so, dec_ne h5, br_fq]
  refine rb_ck (fun _ => ?_)
  rw [I_A (k := 112), show decide (I (A w 112 q) = 0) = false from by rw [show (0 : Int32) = I 0 from rfl, decE r112.1 r112.2 (by omega) (by omega)]; exact decide_eq_false h112, br_fq, I_F' x33]
  exact h
end
section
variable {α β : Type} {b : Int → Nat → Nat → Prop} {Fv Fv' : Int64 → Int64 → Prop} {P P' : Int64 → Prop} {N PR p q i j0 U B W Y l j a n s f f' : Nat} {ow kd ow' kd' : Nat → Nat} {m w m2 w2 : MS} {nb : Nat → Nat} {Hs Os : Nat → List Nat} {y : Option (Nat × Nat × Nat)} {Q : MS → α → MS → β → Prop} {K1 : MS → Option (MS × α)} {K2 : MS → Option (MS × β)}
theorem op_exitT (hpp : p < PR) (hq : q < PR) (hqp : q ≠ p) (hal : F m (pq q 9) ≠ 3) (h11 : F m (pq q 11) ≠ 0) (wl : WLs (RRp p) PR Fv P Fv' P' none i j0 m w) (hq9 : F m 955 = ((i : Nat) : Int)) (ru : RUs m w p j nb Hs Os y a n) (sc : SCs p m w) (hW : W + 2 ≤ 46000) (hBY : B ≤ 2500 ∧ Y ≤ 30) (hl : F m2 (pq p 45) = ((l : Nat) : Int)) (hl2 : W + 2 ≤ l ∧ l ≤ 1000000) (pl : PLs b p m2 w2 U B (W + 2) Y) (pt : PTQ m2 p U ow kd Fv P B (W + 2) Y) (hF : FVc Fv) (xc : CX w2 p (hp w2 p) U ow' kd' Fv' P' (W + 2) B Y) (sf2 : SFs Fv P Fv' P' PR m2 w2) (z1 : SZc (m2.2.2.2 (pq p 2)) U ow kd Fv P f (m2.2.2.2 (pq p 35) (W + 1)) s) (z2 : SZ (hp w2 p) U ow' kd' Fv' P' f' (w2.2.2.2 91 (46000 * p + (W + 1))) s) (hN : 3000000 ≤ N) (f1 : FGm p m m2) (h05 : F m2 1105 = ((a : Nat) : Int)) (g1 : FGw p j w w2) (h98 : A w2 98 (60 * p + j) = ((n + 1 : Nat) : Int)) (cr : ∃ f, CRs (A m 23) (ROs w) (w.2.2.2 34) f y (a + 2) (n + 1) (Hs j) (Os j)) (h5 : m2.2.2.2 (pq p 35) (W + 1) ≠ mk 1 5)
    (c : ∀ m3 w3, (SFs Fv P Fv' P' PR m3 w3 → WLs (RRp p) PR Fv P Fv' P' none i j0 m3 w3) → PLs b p m3 w3 U B (W + 1) Y → RUs m3 w3 p j nb Hs Os y (a + 2) (n + 1) → EGm m m3 → EGw w w3 → PP Q (K1 m3) (K2 w3)) : PP Q (bnd (hb_Ma_toward_95 N () m2 p (I 29) 2 (some q)) (fun u _ => K1 u)) (bnd (fb_M_processRun_151 N () w2 (I 8) (w2.2.2.2 91 (46000 * p + (W + 1))) (I ((q : Nat) : Int)) 92 (I ((p : Nat) : Int)) (I ((W + 2 : Nat) : Int)) 2) (fun u _ => K2 u)) := by
  obtain ⟨⟨fa, -⟩, -, -, ⟨q9, q9w⟩, -, -, r11, -, -⟩ := id ru
  have hj : j < 60 := fa.1.2.2
  have p24 : PR ≤ 24 := wl.1.2.1.1.1.2
  have cb2 : a + 2 + 1 < 24000 := by
    obtain ⟨f9, cr9⟩ := cr
    exact (CR_b cr9).1
  have hU := pl.1.1.2.2
  have rt := pl.2.2.1.2.2 (W + 1) (by omega)
  have be0 : hm_Fr_below N m2 p 0 = some (m2, m2.2.2.2 (pq p 35) (W + 1)) := by
    have := below_e (N := N) (x := 0) (k := 0) (W := W + 2) (l := l) pl.2.2.1.1 hl hl2.1 hl2.2 rfl (by omega)
    rw [show W + 2 - 1 - 0 = W + 1 by omega] at this
    exact this
  have gm1 := GGm_fg f1
  have e9 : F m2 (pq q 9) = F m (pq q 9) := congrArg Int32.toInt (gm1.1 q hqp 9 (by omega)).1
  have e11 : F m2 (pq q 11) = F m (pq q 11) := congrArg Int32.toInt (gm1.1 q hqp 11 (by omega)).1
  have p0q : p ≠ q := Ne.symm hqp
  have x33 : F w2 133 = ((p : Nat) : Int) := by rw [FR.F g1.1 (by simp)]; exact r11
  have zx5 : w2.2.2.2 91 (46000 * p + (W + 1)) ≠ mk 1 5 := fun c => h5 (by
    rcases rt with ⟨-, x, -⟩ | ⟨x1, x2, -⟩
    · rw [← x]; exact c
    · rw [c, so_mk (by omega) (by omega)] at x2
      unfold isH at x1
      omega)
  obtain ⟨⟨e, he⟩, e', he'⟩ := SF_e wl.1 hq hal
  have ei : e = i := by
    have := he.1
    rw [hq9] at this
    omega
  subst ei
  obtain ⟨-, ⟨n0, q1, q2, -, -⟩, -, -⟩ := id wl
  have ej : e' = j0 := by
    rw [hq9] at q1
    have := he'.1
    rw [q2] at this
    omega
  subst ej
  rw [tw95_29, be0, bnd_so, dec_ne h5, br_fq, be0, bnd_so, oI, sig_t (by rw [e9]; exact hal) (by rw [e11]; exact h11), prr_8, sub2, tnI (n := p) rfl (by omega), wa_e]
  refine rb_ck (fun _ => rb_ck (fun _ => ?_))
  rw [lt_e, truth1, bnd_so]
  have y92 : A (wa w2 92 p ((W : Nat) : Int)) 92 p = ((W : Nat) : Int) := wa_sm (by omega) (by omega)
  have y33 : F (wa w2 92 p ((W : Nat) : Int)) 133 = ((p : Nat) : Int) := x33
  refine r_bb (r_bnd (pk_mo (put_r (N := N) (x := mk 1 0) (W := W) (by omega) y33 y92 (by omega)) (fun w8 _ e8 => ?_)))
  have g8 : FGw p j w w8 := by rw [e8]; exact FGw.tr (FGw.tr g1 FGw.w92) (FGw.put (by omega))
  have g28 : FGw p j w2 w8 := by rw [e8]; exact FGw.tr FGw.w92 (FGw.put (by omega))
  have gw8 := GGw_fg g8 hj
  have gw28 := GGw_fg g28 hj
  have k98 : A w8 98 (60 * p + j) = ((n + 1 : Nat) : Int) := by rw [e8, wa_rne (by omega), A_wj, wa_rne (by omega)]; exact h98
  have k33 : F w8 133 = ((p : Nat) : Int) := by rw [FR.F g8.1 (by simp)]; exact r11
  have eh : ∀ d, hp w8 d = hp w2 d := fun d => by rw [e8]; rfl
  obtain ⟨h9w, h112, bq, Uq, Bq, Wq, Yq, plq, scq, wtq⟩ : A w 109 q ≠ 3 ∧ A w 112 q ≠ 0 ∧ ∃ bq Uq Bq Wq Yq, PLs bq q m w Uq Bq Wq Yq ∧ SCs q m w ∧ WTr q m w := by
    rcases wl.2.2.1 q hq with ⟨x1, x2, b', U', B', W', Y', pl', sc', rr⟩ | ⟨x1, -⟩
    · refine ⟨x2, ?_, b', U', B', W', Y', pl', sc', ?_⟩
      · show (w.2.2.1 112 q).toInt ≠ 0
        rw [← sc'.2.2.1]
        exact h11
      · rcases rr with ⟨c, -⟩ | ⟨-, rr⟩
        · exact absurd c hqp
        · exact rr
    · exact absurd x1 hal
  obtain ⟨-, -, ⟨b1, b2, b3⟩, b4⟩ := SF_al wl.1 hq hal plq
  have hUq := plq.1.1.2.2
  have al8 := AL_loc ⟨plq, scq, wtq⟩ ⟨hUq, b1, b2, b3, b4.2⟩ (PG0_gg gm1 gw8) (gm1.1 q hqp) (gw8.1 q hqp)
  have al2 := AL_loc ⟨plq, scq, wtq⟩ ⟨hUq, b1, b2, b3, b4.2⟩ (PG0_gg gm1 (GGw_fg g1 hj)) (gm1.1 q hqp) ((GGw_fg g1 hj).1 q hqp)
  obtain ⟨⟨owq, kdq, ptq⟩, ⟨owq', kdq', cwq⟩, -, b15⟩ := SF_al sf2 hq (by rw [e9]; exact hal) al2.1
  have cw8 : CX w8 q (hp w8 q) Uq owq' kdq' Fv' P' Wq Bq Yq := by
    obtain ⟨x1, x2, x3, x4, ⟨x5, x5'⟩, ⟨x6, x6'⟩, ⟨x7, x7'⟩, x8, x9, x10, x11⟩ := cwq
    have lq := gw28.1 q hqp
    refine ⟨rfl, by rw [eh q]; exact x2, x3, x4, ⟨?_, x5'⟩, ⟨?_, x6'⟩, ⟨?_, x7'⟩, fun i hi => ?_, fun i hi => ?_, fun i hi => ?_, fun c => ?_⟩
    · rw [← x5]; exact congrArg Int32.toInt (lq.1 92 q (Or.inl ⟨by omega, rfl⟩))
    · rw [← x6]; exact congrArg Int32.toInt (lq.1 94 q (Or.inl ⟨by omega, rfl⟩))
    · rw [← x7]; exact congrArg Int32.toInt (lq.2.1 108 (by omega))
    · rw [lq.2.2.2.2.2.1 _ (by omega) (by omega)]; exact x8 i hi
    · rw [lq.2.2.2.2.2.2.1 _ (by omega) (by omega)]; exact x9 i hi
    · rw [lq.2.2.2.2.2.2.2 _ (by omega) (by omega)]; exact x10 i hi
    · have e140 : F w8 140 = F w2 140 := by rw [e8]; rfl
      have e139 : w8.2.1 139 = w2.2.1 139 := by rw [e8]; rfl
      rw [e140] at c
      rw [e139]
      exact x11 c
  have cx2 : CTX Fv P m2 := sf2.1.2
  have srq : SRs Fv P Fv' P' m2 w8 q Uq (some p) (m2.2.2.2 (pq p 35) (W + 1)) 0 p (w2.2.2.2 91 (46000 * p + (W + 1))) s := ⟨by omega, Or.inr ⟨p, b, U, ow, kd, f, U, ow', kd', f', rfl, ⟨pt.1.2.2, by omega, fun c => absurd c p0q⟩, ⟨by rw [eh p]; exact xc.2.1, hU, fun c => absurd c p0q⟩, by rw [eh p]; exact pl.1.2.1.w, z1, Or.inl ⟨rfl, rt, by rw [eh p]; exact z2⟩⟩⟩
  have he2 : F m2 955 = ((e : Nat) : Int) ∧ e < 24 := ⟨(congrArg Int32.toInt gm1.2.2.1).trans he.1, he.2⟩
  have he8 : F w8 150 = ((e' : Nat) : Int) ∧ e' < 4000 := ⟨(congrArg Int32.toInt gw8.2.2.1).trans he'.1, he'.2⟩
  refine r_bb (exr_t (p := p) (by omega) (by rw [FR.A g8.1 (by simp)]; exact h9w) (by rw [FR.A g8.1 (by simp)]; exact h112) k33 zx5 (r_bb (l_bb (l_bb (pp_bb (pp_mo (post_pp (N := N) (a := 4) (sort := 0) (v3 := ((p : Nat) : Int)) (v4 := 0) (e := e) (e' := e') (Or.inr (Or.inl ⟨rfl, rfl⟩)) (by omega) (by rw [e9]; exact hal) (by rw [FR.A g8.1 (by simp)]; exact h9w) al8.1 ptq cx2 cw8 (Or.inl ⟨srq, fun c => p0q (by injection c), Or.inr p0q⟩) he2 he8 (by omega)) (fun m4 _ w9 _ h => ?_)))))))
  simp only [bnd_so]
  have fin : (∀ d, d ≠ q → LOCm d m2 m4) → (∀ d, d ≠ q → d < 24 → LOCw d w8 w9) → F m4 1105 = F m2 1105 → (∀ m3, FGm p m4 m3 → PLs b p m3 w9 U B (W + 1) Y → F m3 1105 = ((a + 2 : Nat) : Int) → A w9 98 (60 * p + j) = ((n + 1 : Nat) : Int) → RUs m3 w9 p j nb Hs Os y (a + 2) (n + 1) ∧ (SFs Fv P Fv' P' PR m3 w9 → WLs (RRp p) PR Fv P Fv' P' none e e' m3 w9) ∧ EGm m m3 ∧ EGw w w9) → PP Q (bnd (hb_Ma_toward_335 N () m4 p 2 (mk 1 0)) (fun u _ => K1 u)) (K2 w9) := fun LM LW k5 kk => by
    have lp := LM p p0q
    have lw := LW p p0q (by omega)
    have pl1 : PLs b p m4 w2 U B (W + 2) Y := PLs_cg pl (fun k hk => (lp k (by simp at hk; omega)).1) (fun i _ => by rw [(lp 2 (by omega)).2.2.2]) (fun i _ => by rw [(lp 33 (by omega)).2.2.2]) (fun i _ => by rw [(lp 35 (by omega)).2.2.2]) (fun i _ => by rw [(lp 6 (by omega)).2.2.2]) (fun _ _ => rfl) (fun _ _ => rfl) (fun _ _ => rfl) (fun _ _ => rfl) (fun _ _ => rfl)
    have f45 : F m4 (pq p 45) = ((l : Nat) : Int) := (congrArg Int32.toInt (lp 45 (by omega)).1).trans hl
    have f05 : F m4 1105 = ((a : Nat) : Int) := k5.trans h05
    have k98' : A w9 98 (60 * p + j) = ((n + 1 : Nat) : Int) := by
      rw [← k98]
      exact congrArg Int32.toInt (lw.1 98 _ (Or.inr (Or.inl ⟨⟨by omega, by omega⟩, by omega, by omega⟩)))
    have pd := PLs_drop (k := 2) (W := W) pl1 (by omega)
    unfold hb_Ma_toward_335 hm_Ma_answer hb_Ma_answer_0
    rw [show (2 : Int32) = I 2 from rfl, drop_e (W := W + 2) (k := 2) (x := 2) pl1.2.2.1.1 rfl (by omega), bnd_so, show W + 2 - 2 = W by omega]
    simp only [bb_e, bnd_so]
    have e26' : F (wi m4 (pq p 26) ((W : Nat) : Int)) (pq p 26) = ((W : Nat) : Int) := wi_sm (by omega) (by omega)
    have e45' : F (wi m4 (pq p 26) ((W : Nat) : Int)) (pq p 45) = ((l : Nat) : Int) := by rw [wi_ne (pq_inj (by omega))]; exact f45
    refine l_bnd (pk_mo (push_m (N := N) (t := mk 1 0) e26' e45' (by omega) hl2.2) (fun m8 _ h => ?_))
    obtain ⟨y1, y2, y3⟩ := h
    have k05 : F m8 1105 = ((a : Nat) : Int) := by rw [FR.F y1 (by simp [pq_n]), wi_ne (pq_n (by omega))]; exact f05
    rw [I_F' k05, show I ((a : Nat) : Int) + I 2 = I ((a + 2 : Nat) : Int) from addN, wi_e]
    have n1 : ¬ isH (mk 1 0) := nh_mk (by omega)
    have n6 : so (mk 1 0) = 6 → va (mk 1 0) = 0 := fun c => by rw [so_mk (by omega) (by omega)] at c; omega
    have pl3 := PLs_pc (z := ((a + 2 : Nat) : Int)) (PLs_push (x := mk 1 0) pd (RTb_lit n1 n6) y1 y2 y3)
    rw [← e8] at pl3
    have pl4 : PLs b p (wi m8 1105 ((a + 2 : Nat) : Int)) w9 U B (W + 1) Y := by
      refine PLs_cg pl3 (fun _ _ => rfl) (fun _ _ => rfl) (fun _ _ => rfl) (fun _ _ => rfl) (fun _ _ => rfl) (fun k hk => ?_) (fun i hi => lw.2.2.2.2.1 _ (by omega) (by omega)) (fun i hi => lw.2.2.2.2.2.2.1 _ (by omega) (by omega)) (fun i hi => lw.2.2.2.2.2.1 _ (by omega) (by omega)) (fun i hi => lw.2.2.2.2.2.2.2 _ (by omega) (by omega))
      simp only [List.mem_cons, List.not_mem_nil, or_false] at hk
      rcases hk with rfl | rfl | rfl | rfl | rfl
      · exact lw.2.1 89 (by omega)
      · exact lw.2.1 90 (by omega)
      · exact lw.1 92 p (Or.inl ⟨by omega, rfl⟩)
      · exact lw.1 94 p (Or.inl ⟨by omega, rfl⟩)
      · exact lw.2.1 108 (by omega)
    have f3 : FGm p m4 (wi m8 1105 ((a + 2 : Nat) : Int)) := FGm.tr (FGm.tr FGm.drop (FGm.push y1)) FGm.pc
    obtain ⟨ru3, w3, g1', g2'⟩ := kk _ f3 pl4 (wi_sm (by omega) (by omega)) k98'
    exact c _ _ w3 pl4 ru3 g1' g2'
  have e9w : A w8 109 q ≠ 3 := by rw [FR.A g8.1 (by simp)]; exact h9w
  rcases h with ⟨-, rfl, rfl⟩ | ⟨m1, w1, xm, xr, x5, rfl, rfl⟩ | ⟨hYq, U2, ⟨bq2, plq2⟩, xm, xr⟩
  · refine fin (fun _ _ => LOCm.rf) (fun _ _ _ => LOCw.rf) rfl (fun m3 f3 pl3 k5 k8 => ?_)
    exact exq_liv hpp hq hqp hal wl hq9 ru sc f1 g8 (fun _ _ => LOCm.rf) (fun _ _ _ => LOCw.rf) ⟨fun _ _ _ => rfl, fun _ _ => rfl, fun _ _ _ => rfl⟩ ⟨fun _ _ _ _ _ => rfl, fun _ _ => rfl, rfl⟩ f3 pl3 k5 k8 cr rfl rfl ⟨by rw [e9]; exact hal, e9w⟩ al8 ⟨b1, b2, b3, b15.2⟩
  · have v := enS_v (m := m1) (q := q) (t := mk 1 20) (hm := q) (e := e)
    have a9 := enR_9 (w := w1) (q := q) (wr := 0) (o := q) (x := mk 1 20) (e := e')
    obtain ⟨u1, u2⟩ := enS_q (m := m1) (t := mk 1 20) (hm := q) (show e < 1000 by omega) (show q < 1000 by omega)
    obtain ⟨v1, v2, v3, v4, v5⟩ := enR_q (w := w1) (x := mk 1 20) (wr := 0) (o := q) (show e' < 10000 by omega) (show q < 1000 by omega) (by omega) ⟨by omega, by omega⟩
    have fr := enR_fr (w := w1) (q := q) (wr := 0) (o := q) (x := mk 1 20) (e := e')
    have LM : ∀ d, d ≠ q → LOCm d m2 (enS m1 q (mk 1 20) q e) := fun d hd => LOCm.tr (LOCm_xm xm hd) (LOCm_en hd)
    have LW : ∀ d, d ≠ q → d < 24 → LOCw d w8 (enR w1 q 0 ((q : Nat) : Int) (mk 1 20) e') := fun d hd _ => LOCw.tr (LOCw_xm xr hd) (LOCw_en hd)
    have em : (∀ k, k < 2000 → k ≠ 955 → (enS m1 q (mk 1 20) q e).1 k = m2.1 k) ∧ (∀ k, k < 2000 → (enS m1 q (mk 1 20) q e).2.1 k = m2.2.1 k) ∧ ∀ K, K < 2000 → K ≠ 54 → (enS m1 q (mk 1 20) q e).2.2.1 K = m2.2.2.1 K := ⟨fun k hk h => by rw [enS_1 (pq_n hk) (pq_n hk) h]; exact xm.1 k (by simp; exact ⟨pq_n hk, pq_n hk, pq_n hk⟩), fun k hk => by rw [enS_2 (pq_n hk)]; exact xm.2.1 k (by simp), fun K hK h => by rw [enS_3 h]; exact xm.2.2.1 K (by simp)⟩
    have ew : (∀ k, k ≠ 150 → k ≠ 136 → k ≠ 138 → k ≠ 140 → (enR w1 q 0 ((q : Nat) : Int) (mk 1 20) e').1 k = w8.1 k) ∧ (∀ K, K < 88 ∨ (118 ≤ K ∧ K ≤ 130) → (enR w1 q 0 ((q : Nat) : Int) (mk 1 20) e').2.2.1 K = w8.2.2.1 K) ∧ (enR w1 q 0 ((q : Nat) : Int) (mk 1 20) e').2.2.2 34 = w8.2.2.2 34 := ⟨fun k h h1 h2 h3 => (fr.1 k (by simpa using h)).trans (xr.1.1 k (by simp; omega)), fun K h => (fr.2.2.1 K (by simp; omega)).trans (xr.1.2.2.1 K (by simp; omega)), (fr.2.2.2 34 (by simp)).trans (xr.1.2.2.2 34 (by simp))⟩
    have n1 : ¬ isH (mk 1 20) := nh_mk (by omega)
    have n6 : so (mk 1 20) = 6 → va (mk 1 20) = 0 := fun c => by rw [so_mk (by omega) (by omega)] at c; omega
    have hP : P (mk 1 20) := cx2.2.2.2.2.2.1 20 (by omega) (by have := cx2.2.2.2.1; omega)
    have hP' : P' (mk 1 20) := wl.1.2.2.1 20 (by omega) (by omega)
    have x148 : (enR w1 q 0 ((q : Nat) : Int) (mk 1 20) e').2.2.2 148 e' = mk 1 20 := by rw [v5, if_pos rfl]
    have rq : RQs Fv P Fv' P' PR (enS m1 q (mk 1 20) q e) (enR w1 q 0 ((q : Nat) : Int) (mk 1 20) e') q 0 q ((enR w1 q 0 ((q : Nat) : Int) (mk 1 20) e').2.2.2 148 e') := by
      rw [x148]
      refine ⟨q, 0, by rw [v.2.1]; exact rf_some (by omega), hq, v.1, Or.inr ⟨hq, by rw [a9, if_pos rfl]⟩, ?_, Or.inl ⟨n1, hP'⟩⟩
      rw [v.2.2]
      exact SRs_lit n1 n6 hP hP' (by omega) (by omega)
    have qe : QEs (enS m1 q (mk 1 20) q e) (enR w1 q 0 ((q : Nat) : Int) (mk 1 20) e') q := by
      obtain ⟨L, l1, l2⟩ := LS_of al8.2.1 b15
      have sk : ∀ k, k < 100 → k ≠ 4 → k ≠ 5 → k ≠ 7 → k ≠ 9 → k ≠ 17 → (enS m1 q (mk 1 20) q e).1 (pq q k) = m2.1 (pq q k) := fun k h0 h1 h2 h3 h4 h5 => by
        rw [enS_1 (pq_inj h4) (pq_inj h5) (fun c => pq_n (by omega) c.symm)]
        exact xm.1 _ (by simp; exact ⟨pq_inj h1, pq_inj h2, pq_inj h3⟩)
      have aw : ∀ K, K = 113 ∨ K = 114 ∨ K = 116 ∨ K = 117 → (enR w1 q 0 ((q : Nat) : Int) (mk 1 20) e').2.2.1 K = w8.2.2.1 K := fun K h => (fr.2.2.1 K (by simp; omega)).trans (xr.1.2.2.1 K (by simp; omega))
      exact ⟨by rw [sk 12 (by omega) (by omega) (by omega) (by omega) (by omega) (by omega), aw 113 (by omega)]; exact al8.2.1.1, by rw [sk 13 (by omega) (by omega) (by omega) (by omega) (by omega) (by omega), aw 114 (by omega)]; exact al8.2.1.2.1, by rw [enS_1 (pq_inj (by omega)) (pq_inj (by omega)) (fun c => pq_n (by omega) c.symm), fr.2.2.1 90 (by simp)]; exact x5, L, LSm_st l1 (sk 15 (by omega) (by omega) (by omega) (by omega) (by omega) (by omega)) (by rw [enS_3 (fun c => pq_n (by omega) c.symm)]; exact xm.2.2.1 _ (by simp)), LSw_fr l2 (aw 116 (by omega)) (aw 117 (by omega))⟩
    refine fin LM LW (congrArg Int32.toInt (em.1 1105 (by omega) (by omega))) (fun m3 f3 pl3 k5 k8 => ?_)
    exact exq_end hpp hq hqp hal wl hq9 ru sc f1 g8 LM LW em ew f3 pl3 k5 k8 cr u1 (by rw [u2, if_pos rfl]) v1 (by rw [v2, if_pos rfl]) (by rw [v3, if_pos rfl]) (by rw [v4, if_pos rfl]) ⟨v.1, by rw [a9, if_pos rfl]⟩ rq qe
  · have LM : ∀ d, d ≠ q → LOCm d m2 m4 := fun d hd => LOCm_xm xm hd
    have LW : ∀ d, d ≠ q → d < 24 → LOCw d w8 w9 := fun d hd _ => LOCw_xm xr hd
    have em : (∀ k, k < 2000 → k ≠ 955 → m4.1 k = m2.1 k) ∧ (∀ k, k < 2000 → m4.2.1 k = m2.2.1 k) ∧ ∀ K, K < 2000 → K ≠ 54 → m4.2.2.1 K = m2.2.2.1 K := ⟨fun k hk h => xm.1 k (by simp; exact ⟨pq_n hk, pq_n hk, pq_n hk⟩), fun k hk => xm.2.1 k (by simp), fun K hK h => xm.2.2.1 K (by simp)⟩
    have ew : (∀ k, k ≠ 150 → k ≠ 136 → k ≠ 138 → k ≠ 140 → w9.1 k = w8.1 k) ∧ (∀ K, K < 88 ∨ (118 ≤ K ∧ K ≤ 130) → w9.2.2.1 K = w8.2.2.1 K) ∧ w9.2.2.2 34 = w8.2.2.2 34 := ⟨fun k h h1 h2 h3 => xr.1.1 k (by simp; omega), fun K h => xr.1.2.2.1 K (by simp; omega), xr.1.2.2.2 34 (by simp)⟩
    have pg9 := PGs_xm xm xr
    have e15 : F m4 (pq q 15) = F m2 (pq q 15) := FR.F xm (by simp; exact ⟨pq_inj (by omega), pq_inj (by omega), pq_inj (by omega)⟩)
    have k94 : F m4 (pq q 9) = F m2 (pq q 9) := FR.F xm (by simp; exact ⟨pq_inj (by omega), pq_inj (by omega), pq_inj (by omega)⟩)
    refine fin LM LW (congrArg Int32.toInt (em.1 1105 (by omega) (by omega))) (fun m3 f3 pl3 k5 k8 => ?_)
    exact exq_liv hpp hq hqp hal wl hq9 ru sc f1 g8 LM LW em ew f3 pl3 k5 k8 cr (FR.F xm (by simp [pq_n])) (FR.F xr.1 (by simp)) ⟨by rw [k94, e9]; exact hal, by rw [FR.A xr.1 (by simp)]; exact e9w⟩ ⟨plq2, SC_eq al8.2.1 b15.2 (EQm.xm xm q) (EQw.xm xr q), WTr_st al8.2.2 (EQm.xm xm q).n (EQw.xm xr q).v⟩ ⟨b1, b2, by omega, by rw [e15]; exact b15.2⟩
end
end
section
set_option maxRecDepth 100000
section
variable {α β : Type} {N p : Nat} {m w : MS} {t x : Int64} {Q : MS → α → MS → β → Prop} {D : Option (MS × α)} {K : MS → Unit → Option (MS × β)}
theorem sig_s (h9 : F m (pq p 9) ≠ 3) (h11 : F m (pq p 11) = 0) : hm_Wl_signal N m (I ((p : Nat) : Int)) p t (some p) = bnd (hm_Wl_endsWith N m p t p) (fun u _ => some (u, ())) := by
  have r9 := F_r m (pq p 9)
  have e59 : hb_Wl_signal_59 N () m p t (some p) = bnd (hm_Wl_endsWith N m p t p) (fun u _ => some (u, ())) := by
    unfold hb_Wl_signal_59 hb_Wl_signal_70 hb_Wl_signal_121
    rw [show decide ((some p : Option Nat) = none) = false from rfl, br_fq, show decide ((some p : Option Nat) = some p) = true from decide_eq_true rfl, br_tq]
  have e43 : ∀ z : Int32, hb_Wl_signal_43 N () m (I ((p : Nat) : Int)) p t (some p) z = hb_Wl_signal_59 N () m p t (some p) := fun z => by
    unfold hb_Wl_signal_43
    rw [oI, show decide (I ((p : Nat) : Int) = I ((p : Nat) : Int)) = true from decide_eq_true rfl, br_tq]
    cases decide (z = 0) <;> rfl
  unfold hm_Wl_signal hb_Wl_signal_0
  rw [I_F (k := pq p 9), show decide (I (F m (pq p 9)) = 3) = false from by rw [show (3 : Int32) = I 3 from rfl, decE r9.1 r9.2 (by omega) (by omega)]; exact decide_eq_false h9, br_fq, I_F (k := pq p 11), h11, show decide (I 0 = 0) = true from rfl, br_tq, show hm_Te_make N m 1 4 = some (m, mk 1 4) from rfl, bnd_so, e43, e43, e59]
  cases decide (lg_cmp t (mk 1 4) = 0) <;> rfl
theorem exr_s (hp1 : p < 24) (h9 : A w 109 p ≠ 3) (h112 : A w 112 p = 0) (x33 : F w 133 = ((p : Nat) : Int)) (h5 : x ≠ mk 1 5) (h : PP Q D (bnd (bnd (fm_M_copy N (wa w 89 24 0) (I ((p : Nat) : Int)) x (I ((24 : Nat) : Int))) (fun u2 r2 => bnd (fm_M_willEnd N u2 (I ((p : Nat) : Int)) (I 0) (I ((24 : Nat) : Int)) r2) (fun u3 _ => some (u3, ())))) K)) : PP Q D (bnd (fm_M_exitRun N w (I ((p : Nat) : Int)) x) K) := by
  have r9 := A_r w 109 p
  unfold fm_M_exitRun fb_M_exitRun_0 fb_M_exitRun_84 fb_M_exitRun_111
  refine rb_ck (fun _ => ?_)
  rw [tnI (n := p) rfl (by omega), I_A (k := 109), show decide (I (A w 109 p) = 3) = false from by rw [show (3 : Int32) = I 3 from rfl, decE r9.1 r9.2 (by omega) (by omega)]; exact decide_eq_false h9, br_fq, show fm_M_term N w 1 5 = some (w, mk 1 5) from rfl, rb_bnd_so, dec_ne h5, br_fq]
  refine rb_ck (fun _ => ?_)
  rw [I_A (k := 112), h112, show decide (I 0 = 0) = true from rfl, br_tq, I_F' x33, show decide (I ((p : Nat) : Int) = I ((p : Nat) : Int)) = true from decide_eq_true rfl, br_tq]
  refine rb_ck (fun _ => ?_)
  have e33 : F (wa w 89 24 0) 133 = ((p : Nat) : Int) := x33
  rw [show upA w 89 (upd (w.2.2.1 89) (24 : Int32).toNatClampNeg 0) = wa w 89 24 0 from rfl, lt_e, I_F' e33]
  exact h
end
section
variable {Fv Fv' : Int64 → Int64 → Prop} {P P' : Int64 → Prop} {PR p i j o : Nat} {m w m2 w2 : MS}
theorem WL_endp (wl : WLs (RRt p) PR Fv P Fv' P' none i j m w) (hal : F m (pq p 9) ≠ 3) (hpp : p < PR) (hq : F m 955 = ((i : Nat) : Int)) (s2 : SFs Fv P Fv' P' PR m2 w2) (D : ∀ d, d ≠ p → LOCm d m m2 ∧ (d < PR → LOCw d w w2)) (pg : PG0 m w m2 w2) (e1 : F m2 955 = ((i + 1 : Nat) : Int)) (e54 : A m2 54 i = ((p : Nat) : Int)) (e2 : F w2 150 = ((j + 1 : Nat) : Int)) (e145 : A w2 145 j = ((p : Nat) : Int)) (e146 : A w2 146 j = 0) (e147 : A w2 147 j = ((o : Nat) : Int)) (k9 : F m2 (pq p 9) = 3 ∧ A w2 109 p = 3) (rq : RQs Fv P Fv' P' PR m2 w2 p 0 o (w2.2.2.2 148 j)) (qe : QEs m2 w2 p) : WLs (RRt p) PR Fv P Fv' P' none i j m2 w2 := by
  obtain ⟨sf, ⟨n0, q1, q2, -, -⟩, pr, -⟩ := id wl
  have hn0 : n0 = 0 := by
    rw [hq] at q1
    omega
  subst hn0
  have f9 : ∀ d, d ≠ p → F m2 (pq d 9) = F m (pq d 9) := fun d hd => congrArg Int32.toInt ((D d hd).1 9 (by omega)).1
  have a9 : ∀ d, d ≠ p → d < PR → A w2 109 d = A w 109 d := fun d hd h3 => congrArg Int32.toInt (((D d hd).2 h3).1 109 d (Or.inl ⟨by omega, rfl⟩))
  refine ⟨s2, ⟨1, e1, e2, fun k hk => ?_, fun k l hk hl _ => by omega⟩, fun r hr => ?_, RRt_stb⟩
  · have k0 : k = 0 := by omega
    subst k0
    exact ⟨p, 0, o, ⟨hpp, fun c => (by cases c), k9.1⟩, e54, e145, e146, e147, rq, qe⟩
  by_cases rn : r = p
  · subst rn
    exact Or.inr ⟨k9.1, k9.2, Or.inr (Or.inl ⟨i, Nat.le_refl _, by rw [e1]; omega, e54⟩)⟩
  obtain ⟨l1, l2'⟩ := D r rn
  have l2 := l2' hr
  rcases pr r hr with ⟨x1, x2, b', U', B', W', Y', pl', sc', rr⟩ | ⟨x1, x2, x⟩
  · obtain ⟨-, -, ⟨b1, b2, b3⟩, b4⟩ := SF_al sf hr x1 pl'
    have hU := pl'.1.1.2.2
    have rr2 : WTr r m w := by
      rcases rr with rr | rr
      · exact absurd rr rn
      · exact rr
    obtain ⟨t1, t2, t3⟩ := AL_loc ⟨pl', sc', rr2⟩ ⟨hU, b1, b2, b3, b4.2⟩ pg l1 l2
    exact Or.inl ⟨by rw [f9 r rn]; exact x1, by rw [a9 r rn hr]; exact x2, b', U', B', W', Y', t1, t2, Or.inr t3⟩
  · refine Or.inr ⟨by rw [f9 r rn]; exact x1, by rw [a9 r rn hr]; exact x2, Or.inr (Or.inr ?_)⟩
    rcases x with x | ⟨k, k1, k2, -⟩ | x
    · cases x
    · rw [hq] at k2
      omega
    · refine DEs_st2 x pg l1 l2 (fun d hd h3 => ?_)
      have dp : d ≠ p := fun c => hal (by rw [← c]; exact h3)
      exact ⟨by rw [f9 d dp]; exact h3, ((D d dp).1 2 (by omega)).2.2.2⟩
end
section
variable {α β : Type} {b : Int → Nat → Nat → Prop} {Fv Fv' : Int64 → Int64 → Prop} {P P' : Int64 → Prop} {N PR p i j0 U B W Y l j a n s f f' : Nat} {ow kd ow' kd' : Nat → Nat} {m w m2 w2 : MS} {nb : Nat → Nat} {Hs Os : Nat → List Nat} {y : Option (Nat × Nat × Nat)} {Q : MS → α → MS → β → Prop} {K1 : MS → Option (MS × α)} {K2 : MS → Option (MS × β)}
theorem op_exitO (hpp : p < PR) (h11 : F m (pq p 11) = 0) (wl : WLs (RRp p) PR Fv P Fv' P' none i j0 m w) (hq9 : F m 955 = ((i : Nat) : Int)) (ru : RUs m w p j nb Hs Os y a n) (sc : SCs p m w) (hW : W + 2 ≤ 46000) (hl : F m2 (pq p 45) = ((l : Nat) : Int)) (hl2 : W + 2 ≤ l ∧ l ≤ 1000000) (pl : PLs b p m2 w2 U B (W + 2) Y) (pt : PTQ m2 p U ow kd Fv P B (W + 2) Y) (xc : CX w2 p (hp w2 p) U ow' kd' Fv' P' (W + 2) B Y) (hs : s ≤ 500) (z1 : SZc (m2.2.2.2 (pq p 2)) U ow kd Fv P f (m2.2.2.2 (pq p 35) (W + 1)) s) (z2 : SZ (hp w2 p) U ow' kd' Fv' P' f' (w2.2.2.2 91 (46000 * p + (W + 1))) s) (hN : 3000 ≤ N) (f1 : FGm p m m2) (h05 : F m2 1105 = ((a : Nat) : Int)) (ha : a + 2 < 24000) (g1 : FGw p j w w2) (h5 : m2.2.2.2 (pq p 35) (W + 1) ≠ mk 1 5)
    (c : ∀ m3 w3, (SFs Fv P Fv' P' PR m3 w3 → WLs (RRt p) PR Fv P Fv' P' none i j0 m3 w3) → F m3 (pq p 9) = 3 → A w3 109 p = 3 → EGm m m3 → EGw w w3 → (F m3 1109 = F m2 1109 ∧ F w3 133 = ((p : Nat) : Int)) → PP Q (K1 m3) (K2 w3)) : PP Q (bnd (hb_Ma_toward_95 N () m2 p (I 29) 2 (some p)) (fun u _ => K1 u)) (bnd (fb_M_processRun_151 N () w2 (I 8) (w2.2.2.2 91 (46000 * p + (W + 1))) (I ((p : Nat) : Int)) 92 (I ((p : Nat) : Int)) (I ((W + 2 : Nat) : Int)) 2) (fun u _ => K2 u)) := by
  obtain ⟨⟨fa, -⟩, -, -, ⟨q9, q9w⟩, -, -, r11, -, -⟩ := id ru
  have hj : j < 60 := fa.1.2.2
  have p24 : PR ≤ 24 := wl.1.2.1.1.1.2
  have hU := pl.1.1.2.2
  have rt := pl.2.2.1.2.2 (W + 1) (by omega)
  have be0 : hm_Fr_below N m2 p 0 = some (m2, m2.2.2.2 (pq p 35) (W + 1)) := by
    have := below_e (N := N) (x := 0) (k := 0) (W := W + 2) (l := l) pl.2.2.1.1 hl hl2.1 hl2.2 rfl (by omega)
    rw [show W + 2 - 1 - 0 = W + 1 by omega] at this
    exact this
  have hal : F m (pq p 9) ≠ 3 := by rw [q9]; omega
  have hal' : A w 109 p ≠ 3 := by rw [q9w]; omega
  have gm1 := GGm_fg f1
  have own : ∀ k, k < 100 → k ≠ 4 → k ≠ 5 → k ≠ 26 → k ≠ 45 → m2.1 (pq p k) = m.1 (pq p k) := fun k h0 h1 h2 h3 h4 => f1.1 _ (by simp; exact ⟨pq_inj h1, pq_inj h2, pq_inj h3, pq_inj h4, fun c => pq_n (by omega) c.symm⟩)
  have e9 : F m2 (pq p 9) = F m (pq p 9) := congrArg Int32.toInt (own 9 (by omega) (by omega) (by omega) (by omega) (by omega))
  have e11 : F m2 (pq p 11) = F m (pq p 11) := congrArg Int32.toInt (own 11 (by omega) (by omega) (by omega) (by omega) (by omega))
  obtain ⟨⟨e, he⟩, e', he'⟩ := SF_e wl.1 hpp hal
  have ei : e = i := by
    have := he.1
    rw [hq9] at this
    omega
  subst ei
  obtain ⟨-, ⟨n0, q1, q2, -, -⟩, -, -⟩ := id wl
  have ej : e' = j0 := by
    rw [hq9] at q1
    have := he'.1
    rw [q2] at this
    omega
  subst ej
  have e955 : F m2 955 = ((e : Nat) : Int) := (congrArg Int32.toInt gm1.2.2.1).trans he.1
  have x33 : F w2 133 = ((p : Nat) : Int) := by rw [FR.F g1.1 (by simp)]; exact r11
  have h112 : A w 112 p = 0 := by
    show (w.2.2.1 112 p).toInt = 0
    rw [← sc.2.2.1]
    exact h11
  have hb15 : 0 ≤ F m2 (pq p 15) ∧ F m2 (pq p 15) ≤ 24 := by
    have e15 : F m2 (pq p 15) = F m (pq p 15) := congrArg Int32.toInt (own 15 (by omega) (by omega) (by omega) (by omega) (by omega))
    rw [e15]
    rcases wl.2.2.1 p hpp with ⟨x1, x2, b', U', B', W', Y', pl', -⟩ | ⟨x1, -⟩
    · exact (SF_al wl.1 hpp x1 pl').2.2.2
    · exact absurd x1 hal
  have zx5 : w2.2.2.2 91 (46000 * p + (W + 1)) ≠ mk 1 5 := fun c => h5 (by
    rcases rt with ⟨-, x, -⟩ | ⟨x1, x2, -⟩
    · rw [← x]; exact c
    · rw [c, so_mk (by omega) (by omega)] at x2
      unfold isH at x1
      omega)
  rw [tw95_29, be0, bnd_so, dec_ne h5, br_fq, be0, bnd_so, oI, sig_s (by rw [e9]; exact hal) (by rw [e11]; exact h11), endsW_e (e := e) (by rw [e9]; exact hal) e955 he.2, prr_8, sub2, tnI (n := p) rfl (by omega), wa_e]
  refine rb_ck (fun _ => rb_ck (fun _ => ?_))
  rw [lt_e, truth1, bnd_so]
  simp only [bb_e, bnd_so]
  have y92 : A (wa w2 92 p ((W : Nat) : Int)) 92 p = ((W : Nat) : Int) := wa_sm (by omega) (by omega)
  have y33 : F (wa w2 92 p ((W : Nat) : Int)) 133 = ((p : Nat) : Int) := x33
  refine r_bnd (pk_mo (put_r (N := N) (x := mk 1 0) (W := W) (by omega) y33 y92 (by omega)) (fun w8 _ e8 => ?_))
  have g8 : FGw p j w w8 := by rw [e8]; exact FGw.tr (FGw.tr g1 FGw.w92) (FGw.put (by omega))
  have gw8 := GGw_fg g8 hj
  have k33 : F w8 133 = ((p : Nat) : Int) := by rw [FR.F g8.1 (by simp)]; exact r11
  have k90 : w8.2.2.1 90 p = w2.2.2.1 90 p := by
    rw [e8, wa_21 (by omega)]
    show (wa w2 92 p ((W : Nat) : Int)).2.2.1 90 p = _
    rw [wa_21 (by omega)]
  have eh : hp w8 p = hp w2 p := by rw [e8]; rfl
  refine exr_s (by omega) (by rw [FR.A g8.1 (by simp)]; exact hal') (by rw [FR.A g8.1 (by simp)]; exact h112) k33 zx5 (r_bb (r_bnd (pk_mo (copy_o1 (h := m2.2.2.2 (pq p 2)) (ns := U) (ns' := U) (by rw [show hp (wa w8 89 24 0) p = hp w2 p from eh]; exact xc.2.1) (by omega) (by omega) (by omega) (by omega) (by rw [show hp (wa w8 89 24 0) p = hp w2 p from eh]; exact pl.1.2.1.w) rt (by rw [show hp (wa w8 89 24 0) p = hp w2 p from eh]; exact z2) (wa_sm (by omega) (by omega)) hs hN) (fun w9 r2 h => ?_))))
  obtain ⟨⟨b2, i2, rt2⟩, ⟨ow3, kd3, fz', hr, szr⟩, c1, c2, c3⟩ := h
  have w9A : ∀ K, K ≠ 89 → K ≠ 142 → w9.2.2.1 K = w8.2.2.1 K := fun K h1 h2 => by rw [c1.2.2.1 K (by simp; omega), wa_21 h1]
  have y9 : A w9 109 p ≠ 3 := by
    show (w9.2.2.1 109 p).toInt ≠ 3
    rw [w9A 109 (by omega) (by omega), g8.1.2.2.1 109 (by simp)]
    exact hal'
  have y150 : F w9 150 = ((e' : Nat) : Int) := by
    rw [FR.F c1 (by simp)]
    show F w8 150 = _
    rw [FR.F g8.1 (by simp)]
    exact he'.1
  rw [willE_e (e := e') (by omega) y9 y150 he'.2 (by omega)]
  simp only [bb_e, bnd_so]
  have v := enS_v (m := m2) (q := p) (t := m2.2.2.2 (pq p 35) (W + 1)) (hm := p) (e := e)
  have a9 := enR_9 (w := w9) (q := p) (wr := 0) (o := 24) (x := r2) (e := e')
  obtain ⟨u1, u2⟩ := enS_q (m := m2) (t := m2.2.2.2 (pq p 35) (W + 1)) (hm := p) (show e < 1000 by omega) (show p < 1000 by omega)
  obtain ⟨v1, v2, v3, v4, v5⟩ := enR_q (w := w9) (x := r2) (wr := 0) (o := 24) (show e' < 10000 by omega) (show p < 1000 by omega) (by omega) ⟨by omega, by omega⟩
  have fr := enR_fr (w := w9) (q := p) (wr := 0) (o := 24) (x := r2) (e := e')
  have LW : ∀ d, d ≠ p → d < 24 → LOCw d w (enR w9 p 0 ((24 : Nat) : Int) r2 e') := fun d hd h24 => (gw8.1 d hd).tr2 (((w89_loc (show d ≠ 24 by omega)).tr2 (cp_loc2 (show d ≠ 24 by omega) c1 c2 c3)).tr2 (LOCw_en hd))
  have aw : ∀ K, K < 88 ∨ (118 ≤ K ∧ K ≤ 130) ∨ K = 113 ∨ K = 114 ∨ K = 116 ∨ K = 117 ∨ K = 90 → (enR w9 p 0 ((24 : Nat) : Int) r2 e').2.2.1 K = w8.2.2.1 K := fun K h => (fr.2.2.1 K (by simp; omega)).trans (w9A K (by omega) (by omega))
  have ehE : hp (enR w9 p 0 ((24 : Nat) : Int) r2 e') 24 = hp w9 24 := by
    funext k
    exact congrFun (fr.2.2.2 88 (by simp)) _
  have x148 : (enR w9 p 0 ((24 : Nat) : Int) r2 e').2.2.2 148 e' = r2 := by rw [v5, if_pos rfl]
  have sc8 : SCs p m2 w8 := SC_fg sc f1 g8
  have nk : ∀ k, k < 100 → k ≠ 9 → k ≠ 17 → (enS m2 p (m2.2.2.2 (pq p 35) (W + 1)) p e).1 (pq p k) = m2.1 (pq p k) := fun k h0 h1 h2 => enS_1 (pq_inj h1) (pq_inj h2) (fun c => pq_n (by omega) c.symm)
  have f26 : F (enS m2 p (m2.2.2.2 (pq p 35) (W + 1)) p e) (pq p 26) = ((W + 2 : Nat) : Int) := (congrArg Int32.toInt (nk 26 (by omega) (by omega) (by omega))).trans pl.2.2.1.1
  have f45 : F (enS m2 p (m2.2.2.2 (pq p 35) (W + 1)) p e) (pq p 45) = ((l : Nat) : Int) := (congrArg Int32.toInt (nk 45 (by omega) (by omega) (by omega))).trans hl
  have nE : ∀ k, k < 2000 → k ≠ 955 → (enS m2 p (m2.2.2.2 (pq p 35) (W + 1)) p e).1 k = m2.1 k := fun k hk h => enS_1 (pq_n hk) (pq_n hk) h
  have f05 : F (enS m2 p (m2.2.2.2 (pq p 35) (W + 1)) p e) 1105 = ((a : Nat) : Int) := (congrArg Int32.toInt (nE 1105 (by omega) (by omega))).trans h05
  have LM : ∀ d, d ≠ p → LOCm d m2 (enS m2 p (m2.2.2.2 (pq p 35) (W + 1)) p e) := fun d hd => LOCm_en hd
  have nA : ∀ K, K ≠ 54 → (enS m2 p (m2.2.2.2 (pq p 35) (W + 1)) p e).2.2.1 K = m2.2.2.1 K := fun K h => enS_3 h
  have nJ : (enS m2 p (m2.2.2.2 (pq p 35) (W + 1)) p e).2.2.2 = m2.2.2.2 := rfl
  have u2' : A (enS m2 p (m2.2.2.2 (pq p 35) (W + 1)) p e) 54 e = ((p : Nat) : Int) := by rw [u2, if_pos rfl]
  generalize hmE : enS m2 p (m2.2.2.2 (pq p 35) (W + 1)) p e = mE at v u1 u2' nk f26 f45 nE f05 LM nA nJ
  unfold hb_Ma_toward_335 hm_Ma_answer hb_Ma_answer_0
  rw [show (2 : Int32) = I 2 from rfl, drop_e (W := W + 2) (k := 2) (x := 2) f26 rfl (by omega), bnd_so, show W + 2 - 2 = W by omega]
  simp only [bb_e, bnd_so]
  have e26' : F (wi mE (pq p 26) ((W : Nat) : Int)) (pq p 26) = ((W : Nat) : Int) := wi_sm (by omega) (by omega)
  have e45' : F (wi mE (pq p 26) ((W : Nat) : Int)) (pq p 45) = ((l : Nat) : Int) := by rw [wi_ne (pq_inj (by omega))]; exact f45
  refine l_bnd (pk_mo (push_m (N := N) (t := mk 1 0) e26' e45' (by omega) hl2.2) (fun m8 _ h => ?_))
  obtain ⟨y1, y2, y3⟩ := h
  have k05 : F m8 1105 = ((a : Nat) : Int) := by rw [FR.F y1 (by simp [pq_n]), wi_ne (pq_n (by omega))]; exact f05
  rw [I_F' k05, show I ((a : Nat) : Int) + I 2 = I ((a + 2 : Nat) : Int) from addN, wi_e]
  have f3 : FGm p mE (wi m8 1105 ((a + 2 : Nat) : Int)) := FGm.tr (FGm.tr FGm.drop (FGm.push y1)) FGm.pc
  have h3k : ∀ k, k < 100 → k ≠ 26 → k ≠ 45 → (wi m8 1105 ((a + 2 : Nat) : Int)).1 (pq p k) = mE.1 (pq p k) := fun k h0 h1 h2 => by
    rw [wi_1 (fun c => pq_n (by omega) c.symm), y1.1 _ (by simp; exact ⟨pq_inj h1, pq_inj h2⟩), wi_1 (pq_inj h1)]
  have h3J : (wi m8 1105 ((a + 2 : Nat) : Int)).2.2.2 (pq p 2) = m2.2.2.2 (pq p 2) := by
    show m8.2.2.2 (pq p 2) = _
    rw [y1.2.2.2 _ (by simp; exact pq_inj (by omega)), ← nJ]
    rfl
  have h3L : ∀ k, (wi m8 1105 ((a + 2 : Nat) : Int)).2.1 k = mE.2.1 k := fun k => y1.2.1 k (by simp)
  have h3A : ∀ K, (wi m8 1105 ((a + 2 : Nat) : Int)).2.2.1 K = mE.2.2.1 K := fun K => y1.2.2.1 K (by simp)
  have gm3 := GGm_fg f3
  generalize wi m8 1105 ((a + 2 : Nat) : Int) = m3 at f3 h3k h3J h3L h3A gm3
  have k93 : F m3 (pq p 9) = 3 := (congrArg Int32.toInt (h3k 9 (by omega) (by omega) (by omega))).trans v.1
  have a9p : A (enR w9 p 0 ((24 : Nat) : Int) r2 e') 109 p = 3 := by rw [a9, if_pos rfl]
  have rq : RQs Fv P Fv' P' PR m3 (enR w9 p 0 ((24 : Nat) : Int) r2 e') p 0 24 ((enR w9 p 0 ((24 : Nat) : Int) r2 e').2.2.2 148 e') := by
    rw [x148]
    refine ⟨p, s, by rw [h3k 17 (by omega) (by omega) (by omega), v.2.1]; exact rf_some (by omega), hpp, k93, Or.inl rfl, ?_, ?_⟩
    · rw [h3L, v.2.2]
      refine ⟨by omega, Or.inr ⟨p, b2, U, ow, kd, f, s, ow3, kd3, fz', rfl, ⟨by rw [h3J]; exact pt.1.2.2, by omega, fun c => by omega⟩, ⟨by rw [ehE]; exact hr, hs, fun c => by omega⟩, by rw [ehE, h3J]; exact i2, by rw [h3J]; exact z1, Or.inl ⟨rfl, rt2, by rw [ehE]; exact szr⟩⟩⟩
    · by_cases zh : isH r2
      · refine Or.inr ⟨zh, Or.inl rfl, s, ow3, kd3, ?_, hs, by rw [ehE]; exact hr, SZ_gt szr⟩
        rw [FR.A fr (by simp), c2, if_pos rfl]
      · refine Or.inl ⟨zh, ?_⟩
        rcases SZ_gt szr with g | g
        · exact g.2
        · exact absurd g.1 zh
  have qe : QEs m3 (enR w9 p 0 ((24 : Nat) : Int) r2 e') p := by
    refine QE_sc sc8 hb15 (by rw [k90]; exact pl.1.2.2) (fun k hk => ?_) ?_ (fun K hK => ?_) ?_ ?_
    · rw [h3k k (by omega) (by omega) (by omega), nk k (by omega) (by omega) (by omega)]
    · rw [h3A, nA _ (fun c => pq_n (by omega) c.symm)]
    · rw [aw K (by omega)]
    · rw [aw 116 (by omega)]
    · rw [aw 117 (by omega)]
  have nW : ∀ k, k ≠ 150 → (enR w9 p 0 ((24 : Nat) : Int) r2 e').1 k = w8.1 k := fun k h => (fr.1 k (by simpa using h)).trans (c1.1 k (by simp))
  refine c m3 _ (fun s3 => ?_) k93 a9p ⟨fun K h1 h2 => ?_, fun k h1 h2 => ?_⟩ ⟨fun K h => (aw K (by omega)).trans (gw8.2.2.2.2.2.1 K h), fun k h => (nW k (by omega)).trans (gw8.2.2.2.2.2.2 k h)⟩ ⟨?_, ?_⟩
  · refine WL_endp (WL_t wl) hal hpp hq9 s3 (fun d hd => ⟨LOCm.tr (LOCm.tr (gm1.1 d hd) (LM d hd)) (gm3.1 d hd), fun h3 => LW d hd (by omega)⟩) ?_ ?_ ?_ v1 (by rw [v2, if_pos rfl]) (by rw [v3, if_pos rfl]) (by rw [v4, if_pos rfl]) ⟨k93, a9p⟩ rq qe
    · exact ⟨⟨gm3.2.1.1.trans ((nA 23 (by omega)).trans gm1.2.1.1), gm3.2.1.2.1.trans ((nE 22 (by omega) (by omega)).trans gm1.2.1.2.1), ATc_eq (gm3.2.1.2.2.1.trans ((nA 2 (by omega)).trans gm1.2.1.2.2.1)) (gm3.2.1.2.2.2.trans ((nA 3 (by omega)).trans gm1.2.1.2.2.2))⟩, fun K hK => (aw K (by unfold PRr at hK; omega)).trans (gw8.2.1.1 K hK), ((fr.2.2.2 34 (by simp)).trans (c1.2.2.2 34 (by simp))).trans gw8.2.1.2.1, (aw 12 (by omega)).trans gw8.2.1.2.2.1, (aw 13 (by omega)).trans gw8.2.1.2.2.2.1, (nW 14 (by omega)).trans gw8.2.1.2.2.2.2⟩
    · rw [show F m3 955 = F mE 955 from congrArg Int32.toInt gm3.2.2.1]
      exact u1
    · rw [show A m3 54 e = A mE 54 e from congrArg Int32.toInt (congrFun gm3.2.2.2.1 e)]
      exact u2'
  · rw [gm3.2.2.2.2.2.1 K h1, nA K h2, gm1.2.2.2.2.2.1 K h1]
  · rw [gm3.2.2.2.2.2.2 k h1, nE k (by omega) h2, gm1.2.2.2.2.2.2 k h1]
  · show (m3.1 1109).toInt = (m2.1 1109).toInt
    rw [f3.1 1109 (by simp [pq_n]), nE 1109 (by omega) (by omega)]
  · show ((enR w9 p 0 ((24 : Nat) : Int) r2 e').1 133).toInt = _
    rw [nW 133 (by omega)]
    exact k33
end
end
section
set_option maxRecDepth 100000
def Yk (q : Nat) (z : Int32) (u : MS) : MS := upI u (pq q 26) z
def CYk {α : Type} (q : Nat) (z : Int32) (a b : Option (MS × α)) : Prop := ∀ s r, a = some (s, r) → b = some (Yk q z s, r)
section
variable {α β : Type} {q k N : Nat} {z x : Int32} {u : MS} {t : Int64}
theorem yk4 : (Yk q z u).1 (pq q 4) = u.1 (pq q 4) := if_neg (pq_inj (by omega))
theorem yk7 : (Yk q z u).1 (pq q 7) = u.1 (pq q 7) := if_neg (pq_inj (by omega))
theorem ykJ : (Yk q z u).2.2.2 = u.2.2.2 := rfl
theorem yuJ {r : Nat → Int64} : upJ (Yk q z u) k r = Yk q z (upJ u k r) := rfl
theorem yuI (h : k ≠ pq q 26) : upI (Yk q z u) k x = Yk q z (upI u k x) := by
  refine Prod.ext (funext (fun K => ?_)) rfl
  show (if K = k then x else if K = pq q 26 then z else u.1 K) = (if K = pq q 26 then z else if K = k then x else u.1 K)
  by_cases c : K = k
  · rw [if_pos c, if_neg (by rw [c]; exact h), if_pos c]
  · rw [if_neg c, if_neg c]
theorem yu4 : upI (Yk q z u) (pq q 4) x = Yk q z (upI u (pq q 4) x) := yuI (pq_inj (by omega))
theorem yu7 : upI (Yk q z u) (pq q 7) x = Yk q z (upI u (pq q 7) x) := yuI (pq_inj (by omega))
theorem cy_some {r : α} : CYk q z (some (u, r)) (some (Yk q z u, r)) := fun s r2 e => by
  injection e with e
  injection e with e1 e2
  rw [e1, e2]
theorem cy_ck {c : Bool} {a b : Option (MS × α)} (h : CYk q z a b) : CYk q z (ck c a) (ck c b) := by
  cases c
  · exact fun _ _ e => by cases e
  · exact h
theorem cy_br {c : Bool} {a b a2 b2 : Option (MS × α)} (h : CYk q z a b) (h2 : CYk q z a2 b2) : CYk q z (br c a a2) (br c b b2) := by
  cases c
  · exact h2
  · exact h
theorem cy_bnd {a b : Option (MS × β)} {f g : MS → β → Option (MS × α)} (h1 : CYk q z a b) (h2 : ∀ s r, CYk q z (f s r) (g (Yk q z s) r)) : CYk q z (bnd a f) (bnd b g) := by
  cases a with
  | none => exact fun _ _ e => by cases e
  | some y =>
    obtain ⟨s, r⟩ := y
    rw [h1 s r rfl]
    exact h2 s r
theorem cy_make {a c : Int32} : CYk q z (hm_Te_make N u a c) (hm_Te_make N (Yk q z u) a c) := cy_some
theorem cy_cells {v : Nat} : CYk q z (hm_Te_cellsAt N u v t) (hm_Te_cellsAt N (Yk q z u) v t) := by
  unfold hm_Te_cellsAt hb_Te_cellsAt_0 hb_Te_cellsAt_49
  simp only [lt_e, ykJ]
  repeat' first | exact cy_some | exact fun _ _ e => by cases e | apply cy_br | apply cy_ck
theorem cy_c42 {G : MS → Nat → Nat → Int64 → Int64 → Int32 → Int32 → Option (MS × Int64)} {v1 : Nat} {v2 v4 t0 : Int64} {v6 v7 : Int32} (hG : ∀ u v4 v7, CYk q z (G u q v1 v2 v4 v6 v7) (G (Yk q z u) q v1 v2 v4 v6 v7)) : CYk q z (hb_Pr_copyIn_42 N G u q v1 v2 v4 v6 v7 t0) (hb_Pr_copyIn_42 N G (Yk q z u) q v1 v2 v4 v6 v7 t0) := by
  unfold hb_Pr_copyIn_42 hb_Pr_copyIn_140
  refine cy_bnd cy_cells (fun s r => ?_)
  simp only [lt_e, yk4, ykJ, yuJ, yu4]
  exact cy_br (hG _ _ _) (cy_br (cy_ck (cy_br (cy_ck (hG _ _ _)) (hG _ _ _))) (hG _ _ _))
theorem cy_clp {v1 : Nat} {v2 : Int64} {v6 : Int32} : ∀ (M : Nat) (u : MS) (v4 : Int64) (v7 : Int32), CYk q z (hg_Pr_copyIn N M u q v1 v2 v4 v6 v7) (hg_Pr_copyIn N M (Yk q z u) q v1 v2 v4 v6 v7) := by
  intro M
  induction M with
  | zero => exact fun _ _ _ _ _ e => by cases e
  | succ M ih =>
    intro u v4 v7
    show CYk q z (hb_Pr_copyIn_15 N (hg_Pr_copyIn N M) u q v1 v2 v4 v6 v7) (hb_Pr_copyIn_15 N (hg_Pr_copyIn N M) (Yk q z u) q v1 v2 v4 v6 v7)
    unfold hb_Pr_copyIn_15
    rw [yk4, ykJ]
    exact cy_br cy_some (cy_br (cy_ck (cy_c42 ih)) (cy_c42 ih))
theorem cy_copy {v1 : Nat} : CYk q z (hm_Pr_copyIn N u q v1 t) (hm_Pr_copyIn N (Yk q z u) q v1 t) := by
  unfold hm_Pr_copyIn hb_Pr_copyIn_0
  rw [yk4]
  exact cy_clp _ _ _ _
theorem cy_comes : CYk q z (hm_Pr_comes N u q t) (hm_Pr_comes N (Yk q z u) q t) := by
  unfold hm_Pr_comes hb_Pr_comes_0 hb_Pr_comes_29
  simp only [lt_e, yk7, ykJ, yuJ, yu7]
  exact cy_br cy_some (cy_ck cy_some)
theorem cy_193 {v2 v3 v11 : Int32} : CYk q z (hb_Wl_post_193 N () u q v2 v3 v11 t) (hb_Wl_post_193 N () (Yk q z u) q v2 v3 v11 t) := by
  unfold hb_Wl_post_193
  refine cy_bnd cy_make (fun s r => cy_ck ?_)
  rw [lt_e, lt_e, ykJ, yuJ]
  generalize upJ s (pq q 2) (vp_updL (s.2.2.2 (pq q 2)) (v11 + v2 - 2).toNatClampNeg r) = s2
  refine cy_ck ?_
  rw [ykJ, yuJ, lt_e]
  generalize upJ s2 (pq q 2) (vp_updL (s2.2.2.2 (pq q 2)) (v11 + v2 - 1).toNatClampNeg t) = s3
  refine cy_bnd cy_make (fun s r => ?_)
  refine cy_bnd cy_comes (fun s r => ?_)
  exact cy_some
theorem cy_169 {v2 v3 v4 v11 t1 t2 t3 : Int32} {t0 : Nat} : CYk q z (hb_Wl_post_169 N () u q v2 v3 v4 v11 t t0 t1 t2 t3) (hb_Wl_post_169 N () (Yk q z u) q v2 v3 v4 v11 t t0 t1 t2 t3) := by
  unfold hb_Wl_post_169
  refine cy_bnd cy_make (fun s r => cy_ck ?_)
  simp only [lt_e, ykJ, yuJ]
  refine cy_br (cy_bnd cy_make (fun s r => cy_ck ?_)) cy_193
  simp only [ykJ, yuJ]
  exact cy_193
theorem cy_120 {v2 v3 v4 v11 : Int32} : CYk q z (hb_Wl_post_120 N () u q v2 v3 v4 v11 t) (hb_Wl_post_120 N () (Yk q z u) q v2 v3 v4 v11 t) := by
  unfold hb_Wl_post_120
  refine cy_br (cy_bnd cy_comes (fun s r => cy_some)) (cy_bnd cy_make (fun s r => cy_ck ?_))
  simp only [lt_e, ykJ, yuJ]
  exact cy_br cy_169 cy_169
theorem cy_81 {v2 v3 v4 : Int32} {j : Nat} : CYk q z (hb_Wl_post_81 N () u q v2 v3 v4 (some j) t) (hb_Wl_post_81 N () (Yk q z u) q v2 v3 v4 (some j) t) := by
  unfold hb_Wl_post_81
  simp only [lt_e, yk4, yu4]
  refine cy_br cy_120 ?_
  rw [bo_s, bo_s]
  exact cy_bnd cy_copy (fun s r => cy_120)
end
def MPe (q B W Y e e' : Nat) (m w m2 w2 : MS) : Prop := (Y = 30 ∧ m2 = m ∧ w2 = w) ∨ (∃ m1 w1, XMm q m m1 ∧ XMr q w w1 ∧ m1.1 (pq q 5) = w1.2.2.1 90 q ∧ m2 = enS m1 q (mk 1 20) q e ∧ w2 = enR w1 q 0 ((q : Nat) : Int) (mk 1 20) e') ∨ (Y < 30 ∧ ∃ U2 b2, PLs b2 q (wi m2 (pq q 26) ((W : Nat) : Int)) w2 U2 B W (Y + 1) ∧ XMm q m m2 ∧ XMr q w w2)
section
variable {b : Int → Nat → Nat → Prop} {N q U B W Y s e e' f : Nat} {ow kd ow' kd' : Nat → Nat} {Fv Fv' : Int64 → Int64 → Prop} {P P' : Int64 → Prop} {m w : MS} {x : Int64} {v3 : Int}
theorem post_pe (hq : q < 24) (hal : F m (pq q 9) ≠ 3) (hal' : A w 109 q ≠ 3) (pl : PLs b q (wi m (pq q 26) ((W : Nat) : Int)) w U B W Y) (pt : PTQ m q U ow kd Fv P B (W + 1) Y) (cx : CTX Fv P m) (cw : CX w q (hp w q) U ow' kd' Fv' P' W B Y) (rt : RTb b (m.2.2.2 (pq q 35) W) x) (gx : GT U ow' kd' P' x) (zs : SZc (m.2.2.2 (pq q 2)) U ow kd Fv P f (m.2.2.2 (pq q 35) W) s) (hs : s ≤ 500) (he : F m 955 = ((e : Nat) : Int) ∧ e < 24) (he' : F w 150 = ((e' : Nat) : Int) ∧ e' < 4000) (hN : 2200000 ≤ N) :
    PP (fun m2 (_ : Unit) w2 (_ : Unit) => MPe q B W Y e e' m w m2 w2) (hm_Wl_post N m q (I ((4 : Nat) : Int)) (I v3) (I 0) (m.2.2.2 (pq q 35) W) (some q)) (fm_M_message N w (I ((q : Nat) : Int)) (I ((0 : Nat) : Int)) (I 0) (I v3) (I 0) (I ((q : Nat) : Int)) x) := by
  have p7 : F m (pq q 7) = ((Y : Nat) : Int) := by
    have := pl.2.2.2.1
    rw [wi_ne (pq_inj (by omega))] at this
    exact this
  have p8 : A w 108 q = ((Y : Nat) : Int) := pl.2.2.2.2.1
  have hY := (PTQ_b pt).2.2.2
  have hU : U ≤ 500 := pl.1.1.2.2
  have iso : ISb b (m.2.2.2 (pq q 2)) U (hp w q) U := pl.1.2.1
  obtain ⟨f', s', z'⟩ := HP_sz cw.2.1 gx
  have es := SZ_iso iso rt zs z'
  subst es
  have n9 : ¬ m.1 (pq q 9) = 3 := fun z => hal (by show (m.1 (pq q 9)).toInt = 3; rw [z]; rfl)
  have n9' : ¬ w.2.2.1 109 q = 3 := fun z => hal' (by show (w.2.2.1 109 q).toInt = 3; rw [z]; rfl)
  unfold hm_Wl_post hb_Wl_post_0 hb_Wl_post_17 fm_M_message fb_M_message_0 fb_M_message_21
  rw [decide_eq_false n9, br_fq]
  refine r_ck (fun _ => ?_)
  rw [tnI (n := q) rfl (by omega), decide_eq_false n9', br_fq]
  refine r_ck (fun _ => ?_)
  rw [I_F' p7, I_A' p8, show (30 : Int32) = I 30 from rfl, decL (by omega) (by omega) (by omega) (by omega), decE (by omega) (by omega) (by omega) (by omega)]
  by_cases c : Y < 30
  · rw [decide_eq_true (p := ((Y : Nat) : Int) < 30) (by omega), br_tq, decide_eq_false (p := ((Y : Nat) : Int) = 30) (by omega), br_fq]
    show PP _ (bnd (hm_Te_size N m (pq q 2) (m.2.2.2 (pq q 35) W)) (fun u53 r53 => hb_Wl_post_41 N () u53 q (I ((4 : Nat) : Int)) (I v3) (I 0) (m.2.2.2 (pq q 35) W) (some q) r53)) (fb_M_message_50 N () w (I ((q : Nat) : Int)) (I ((0 : Nat) : Int)) (I 0) (I v3) (I 0) (I ((q : Nat) : Int)) x (I ((4 : Nat) : Int)) (I 0))
    refine l_bnd (pk_mo (pk_ok (size_ok (N := N) (b := pq q 2) (by unfold pq; omega) rfl (by omega) cx.1.1 (by omega) zs (by omega))) (fun m1 r1 h1 => ?_))
    obtain ⟨fm, rfl⟩ := h1
    unfold fb_M_message_50 hb_Wl_post_41
    refine r_bnd (pk_mo (pk_ok (copySize_ok (N := N) cw.2.1 hU (by omega) z' (by omega))) (fun w1 r1 h1 => ?_))
    obtain ⟨f1, rfl⟩ := h1
    rw [hand_e, bnd_so, if_pos hs, show I ((4 : Nat) : Int) + I ((s : Nat) : Int) = I ((4 + s : Nat) : Int) from addN, show I ((4 : Nat) : Int) + I 0 + I ((s : Nat) : Int) = I ((4 + s : Nat) : Int) from by rw [show I ((4 : Nat) : Int) + I 0 = I ((4 : Nat) : Int) from rfl, addN]]
    have i1 : ∀ k, m1.1 k = m.1 k := fun k => fm.1 k (by simp)
    have j1 : ∀ k, k < 100 → m1.2.2.2 (pq q k) = m.2.2.2 (pq q k) := fun k hk => fm.2.2.2 _ (by simp; unfold pq; omega)
    have pl1 : PLs b q (wi m1 (pq q 26) ((W : Nat) : Int)) w1 U B W Y := PLs_cg pl (fun k _ => by
        show (if pq q k = pq q 26 then _ else m1.1 (pq q k)) = (if pq q k = pq q 26 then _ else m.1 (pq q k))
        rw [i1]) (fun i _ => by show m1.2.2.2 (pq q 2) i = m.2.2.2 (pq q 2) i; rw [j1 2 (by omega)]) (fun i _ => by show m1.2.2.2 (pq q 33) i = m.2.2.2 (pq q 33) i; rw [j1 33 (by omega)]) (fun i _ => by show m1.2.2.2 (pq q 35) i = m.2.2.2 (pq q 35) i; rw [j1 35 (by omega)]) (fun i _ => by show m1.2.2.2 (pq q 6) i = m.2.2.2 (pq q 6) i; rw [j1 6 (by omega)]) (fun k _ => by rw [f1.2.2.1 k (by simp)]) (fun i _ => by rw [f1.2.2.2 88 (by simp)]) (fun i _ => by rw [f1.2.2.2 93 (by simp)]) (fun i _ => by rw [f1.2.2.2 91 (by simp)]) (fun i _ => by rw [f1.2.2.2 107 (by simp)])
    have pt1 : PTQ m1 q U ow kd Fv P B (W + 1) Y := PTQ_same pt (fun k _ => i1 _) (fun k hk => j1 k (by simp at hk; omega))
    have cx1 : CTX Fv P m1 := CTX_fr cx (i1 22) (fm.2.2.1 3 (by simp))
    have cw1 : CX w1 q (hp w1 q) U ow' kd' Fv' P' W B Y := CX_141 cw f1
    have cw2 : CX (wl (wi w1 140 ((q : Nat) : Int)) 139 x) q (hp (wl (wi w1 140 ((q : Nat) : Int)) 139 x) q) U ow' kd' Fv' P' W B Y := CX_hand cw1 gx
    refine pp_bb (pp_mo (pp_pl (want_pe (N := N) (e := 1) (k := 4 + s) (x := x) pt1 cx1 cw2 pl1 (fun i h1 h2 => by rw [show i = W by omega, j1 35 (by omega)]; exact rt) (by omega) (by omega) (by omega) hN) (pk_ok (want_ok (N := N) (x := ((4 + s : Nat) : Int)) pt1 cx1 ⟨by omega, by omega⟩ (by omega)))) (fun m3 r3 w3 r3' hw => ?_))
    obtain ⟨⟨b2, U2, pl3, rt3, hr, xm, xr, -, ⟨owr, kdr, cx3⟩⟩, -, U3, ow3, kd3, pt3, -, -, -, sW⟩ := hw
    have eU : U3 = U2 := by
      have h1 := pt3.1.1
      have h2 := pl3.1.1.1
      rw [wi_ne (pq_inj (by omega))] at h2
      omega
    subst eU
    have xm3 : XMm q m m3 := XMm.tr (FR.mo fm (by simp) (by simp) (by simp) (by simp)) (XMm.want xm)
    have xr3 : XMr q w w3 := XMr.tr (XMr.tr (XMr.sz f1) XMr.hand) (XMr.want xr)
    have xr4 : XMr q w (wl (wi w3 140 (-1)) 139 (mk 6 0)) := XMr.tr xr3 XMr.hand
    have y5 : m3.1 (pq q 5) = w3.2.2.1 90 q := by
      have := pl3.1.2.2
      rw [wi_1 (pq_inj (by omega))] at this
      exact this
    rcases hr with ⟨rfl, rfl⟩ | ⟨rfl, rfl, hU3⟩
    · 
      rw [show decide ((0 : Int32) = 0) = true from rfl, br_tq, br_tq, handN_e, bnd_so]
      unfold hm_Wl_endsBy hb_Wl_endsBy_0
      have h9 : F m3 (pq q 9) ≠ 3 := by
        rw [FR.F xm3 (by simp; exact ⟨pq_inj (by omega), pq_inj (by omega), pq_inj (by omega)⟩)]
        exact hal
      have h955 : F m3 955 = ((e : Nat) : Int) := by
        rw [FR.F xm3 (by simp; unfold pq; omega)]
        exact he.1
      have h109 : A (wl (wi w3 140 (-1)) 139 (mk 6 0)) 109 q ≠ 3 := by
        rw [FR.A xr4.1 (by simp)]
        exact hal'
      have h150 : F (wl (wi w3 140 (-1)) 139 (mk 6 0)) 150 = ((e' : Nat) : Int) := by
        rw [FR.F xr4.1 (by simp)]
        exact he'.1
      rw [show (1 : Int32) = I 1 from rfl, show (20 : Int32) = I 20 from rfl, e_make, bnd_so, endsW_e (e := e) h9 h955 he.2, bnd_so, bnd_so, term_e, bnd_so, lit0q, willE_e (e := e') (by omega) h109 h150 he'.2 hq, bnd_so]
      exact pp_end (Or.inr (Or.inl ⟨m3, _, xm3, xr4, y5, rfl, rfl⟩))
    · 
      rw [show decide ((1 : Int32) = 0) = false from rfl, br_fq, br_fq, handN_e, bnd_so, show decide ((some q : Option Nat) = some q) = true from decide_eq_true rfl, br_tq]
      have eW : F m3 (pq q 26) = ((W + 1 : Nat) : Int) := pt3.2.2.1.1
      have hb : hm_Fr_below N m3 q 0 = some (m3, m3.2.2.2 (pq q 35) W) := by
        obtain ⟨l2, d1, d2, d3⟩ := pt3.2.2.2.2.2.1
        have := below_e (N := N) (u := m3) (q := q) (k := 0) (x := 0) (W := W + 1) eW d1 (by omega) (by omega) rfl (by omega)
        rw [show W + 1 - 1 - 0 = W by omega] at this
        exact this
      rw [hb, bnd_so]
      have pl4 : PLs b2 q (Yk q (I ((W : Nat) : Int)) m3) (wl (wi w3 140 (-1)) 139 (mk 6 0)) U3 B W Y := PLs_h pl3
      have rt4 : RTb b2 (m3.2.2.2 (pq q 35) W) (w3.2.1 139) := rt3 W (Nat.le_refl _) (by omega)
      have z3 : SZc (m3.2.2.2 (pq q 2)) U3 ow3 kd3 Fv P f (m3.2.2.2 (pq q 35) W) s := (sW W (by omega)).2.2 f s (by rw [j1 2 (by omega), j1 35 (by omega)]; exact zs)
      have f140 : F w3 140 = ((q : Nat) : Int) := by
        rw [FR.F xr.1 (by simp)]
        show F (wi w1 140 ((q : Nat) : Int)) 140 = _
        exact wi_sm (by omega) (by omega)
      have g3 : GT U3 owr kdr P' (w3.2.1 139) := cx3.2.2.2.2.2.2.2.2.2.2 f140
      obtain ⟨f3', s3', z3'⟩ := HP_sz cx3.2.1 g3
      have es3 := SZ_iso pl4.1.2.1 rt4 z3 z3'
      subst es3
      have hU3' : U3 ≤ 500 := pl4.1.1.2.2
      have sr4 : SRs Fv P Fv' P' (Yk q (I ((W : Nat) : Int)) m3) (wl (wi w3 140 (-1)) 139 (mk 6 0)) q U3 (some q) (m3.2.2.2 (pq q 35) W) 0 q (w3.2.1 139) s := ⟨by omega, Or.inr ⟨q, b2, U3, ow3, kd3, f, U3, owr, kdr, f3', rfl, ⟨pt3.1.2.2, by omega, fun _ => Nat.le_refl _⟩, ⟨cx3.2.1, hU3', fun _ => Nat.le_refl _⟩, pl4.1.2.1.w, z3, Or.inl ⟨rfl, rt4, z3'⟩⟩⟩
      have u4 : A (wl (wi w3 140 (-1)) 139 (mk 6 0)) 89 q = ((U3 : Nat) : Int) := pl4.1.1.2.1
      rw [show decide ((2 : Int32) ≤ I ((0 : Nat) : Int)) = false from rfl, br_fq]
      refine r_ck (fun _ => ?_)
      rw [tnI (n := q) rfl (by omega), I_A' u4, lt_e, show decide (I ((0 : Nat) : Int) = 0) = true from rfl, br_tq]
      have tl := tail_pp (N := N) (a := 4) (v3 := v3) (v4 := 0) (wr := 0) (o := q) (x := w3.2.1 139) (Or.inr (Or.inl ⟨rfl, rfl⟩)) pl4 c hq cx.1 (show HPc ((Yk q (I ((W : Nat) : Int)) m3).2.2.2 (pq q 2)) U3 ow3 kd3 Fv P from pt3.1.2.2) sr4 (by omega) (by omega)
      intro m2 _ w2 _ e1 e2
      have cy := cy_81 (N := N) (q := q) (z := I ((W : Nat) : Int)) (u := m3) (t := m3.2.2.2 (pq q 35) W) (v2 := I ((4 : Nat) : Int)) (v3 := I v3) (v4 := I 0) (j := q) m2 () e1
      obtain ⟨⟨b3, pl5⟩, xm5, xr5⟩ := tl (Yk q (I ((W : Nat) : Int)) m2) () w2 () cy e2
      have kc : Kwcc m3 m2 := ywc_hb_Wl_post_81 Kwc_rf m2 () e1
      have xm6 : XMm q m3 m2 := ⟨fun k hk => by
        by_cases c26 : k = pq q 26
        · rw [c26]
          exact kc (pq q 26) ⟨by unfold pq; omega, by unfold pq; omega⟩
        · have := xm5.1 k hk
          rw [show (Yk q (I ((W : Nat) : Int)) m2).1 k = m2.1 k from if_neg c26, show (Yk q (I ((W : Nat) : Int)) m3).1 k = m3.1 k from if_neg c26] at this
          exact this, xm5.2.1, xm5.2.2.1, xm5.2.2.2⟩
      exact Or.inr (Or.inr ⟨c, _, b3, pl5, XMm.tr xm3 xm6, XMr.tr xr4 xr5⟩)
  · rw [decide_eq_false (by omega), br_fq, decide_eq_true (by omega), br_tq]
    exact pp_end (Or.inl ⟨by omega, rfl, rfl⟩)
end
end
section
set_option maxRecDepth 100000
section
variable {p q k K i W : Nat} {m m2 w w2 : MS} {a c x : Int}
theorem wi_wi : wi (wi m k a) k c = wi m k c := by
  refine Prod.ext (funext (fun K => ?_)) rfl
  show (if K = k then I c else if K = k then I a else m.1 K) = (if K = k then I c else m.1 K)
  by_cases h : K = k
  · rw [if_pos h, if_pos h]
  · rw [if_neg h, if_neg h, if_neg h]
theorem wa_w2 : wa (wa w K i a) K i c = wa w K i c := by
  refine Prod.ext rfl (Prod.ext rfl (Prod.ext (funext (fun k => ?_)) rfl))
  by_cases h : k = K
  · subst h
    funext j
    by_cases h2 : j = i
    · subst h2
      rw [wa_s1, wa_s1]
    · rw [wa_at (fun z => h2 z.2), wa_at (fun z => h2 z.2), wa_at (fun z => h2 z.2)]
  · rw [wa_21 h, wa_21 h, wa_21 h]
theorem GGm_xe (h : XMm p m m2) : GGm p m m2 := ⟨fun d hd => LOCm_xm h hd, ⟨h.2.2.1 23 (by simp), h.1 22 (by simp [pq_n]), h.2.2.1 2 (by simp), h.2.2.1 3 (by simp)⟩, h.1 955 (by simp [pq_n]), h.2.2.1 54 (by simp), h.1 956 (by simp [pq_n]), fun K _ => h.2.2.1 K (by simp), fun k hk => h.1 k (by simp; exact ⟨pq_n (by omega), pq_n (by omega), pq_n (by omega)⟩)⟩
theorem EG_ggm (h : GGm p m m2) : EGm m m2 := ⟨fun K h1 _ => h.2.2.2.2.2.1 K h1, fun k h1 _ => h.2.2.2.2.2.2 k h1⟩
theorem EG_ggw (h : GGw p w w2) : EGw w w2 := ⟨fun K h1 => h.2.2.2.2.2.1 K h1, fun k h1 => h.2.2.2.2.2.2 k h1⟩
theorem EGm.tr {m3 : MS} (h : EGm m m2) (g : EGm m2 m3) : EGm m m3 := ⟨fun K h1 h2 => (g.1 K h1 h2).trans (h.1 K h1 h2), fun k h1 h2 => (g.2 k h1 h2).trans (h.2 k h1 h2)⟩
theorem EGw.tr {w3 : MS} (h : EGw w w2) (g : EGw w2 w3) : EGw w w3 := ⟨fun K h1 => (g.1 K h1).trans (h.1 K h1), fun k h1 => (g.2 k h1).trans (h.2 k h1)⟩
end
section
variable {α β : Type} {b : Int → Nat → Nat → Prop} {Fv Fv' : Int64 → Int64 → Prop} {P P' : Int64 → Prop} {N PR p i j0 U B W Y l j a n s f : Nat} {ow kd ow' kd' : Nat → Nat} {m w m2 w2 : MS} {nb : Nat → Nat} {Hs Os : Nat → List Nat} {y : Option (Nat × Nat × Nat)} {Q : MS → α → MS → β → Prop} {K1 : MS → Option (MS × α)} {K2 : MS → Option (MS × β)}
theorem op_exitR (hpp : p < PR) (h11 : F m (pq p 11) ≠ 0) (wl : WLs (RRp p) PR Fv P Fv' P' none i j0 m w) (hq9 : F m 955 = ((i : Nat) : Int)) (ru : RUs m w p j nb Hs Os y a n) (sc : SCs p m w) (hW : W + 2 ≤ 46000) (hl : F m2 (pq p 45) = ((l : Nat) : Int)) (hl2 : W + 2 ≤ l ∧ l ≤ 1000000) (pl : PLs b p m2 w2 U B (W + 2) Y) (pt : PTQ m2 p U ow kd Fv P B (W + 2) Y) (xc : CX w2 p (hp w2 p) U ow' kd' Fv' P' (W + 2) B Y) (hs : s ≤ 500) (z1 : SZc (m2.2.2.2 (pq p 2)) U ow kd Fv P f (m2.2.2.2 (pq p 35) (W + 1)) s) (hN : 3000000 ≤ N) (f1 : FGm p m m2) (h05 : F m2 1105 = ((a : Nat) : Int)) (g1 : FGw p j w w2) (h98 : A w2 98 (60 * p + j) = ((n + 1 : Nat) : Int)) (cr : ∃ f, CRs (A m 23) (ROs w) (w.2.2.2 34) f y (a + 2) (n + 1) (Hs j) (Os j)) (h5 : m2.2.2.2 (pq p 35) (W + 1) ≠ mk 1 5) (e4 : ¬ isH (m2.2.2.2 (pq p 35) W))
    (kA : ∀ b3 U3 Y3 m3 w3, (SFs Fv P Fv' P' PR m3 w3 → WLs (RRp p) PR Fv P Fv' P' none i j0 m3 w3) → PLs b3 p m3 w3 U3 B (W + 1) Y3 → RUs m3 w3 p j nb Hs Os y (a + 2) (n + 1) → EGm m m3 → EGw w w3 → PP Q (K1 m3) (K2 w3))
    (kD : ∀ m3 w3, (SFs Fv P Fv' P' PR m3 w3 → WLs (RRt p) PR Fv P Fv' P' none i j0 m3 w3) → F m3 (pq p 9) = 3 → A w3 109 p = 3 → EGm m m3 → EGw w w3 → (F m3 1109 = F m2 1109 ∧ F w3 133 = ((p : Nat) : Int)) → PP Q (K1 m3) (K2 w3)) : PP Q (bnd (hb_Ma_toward_95 N () m2 p (I 29) 2 (some p)) (fun u _ => K1 u)) (bnd (fb_M_processRun_151 N () w2 (I 8) (w2.2.2.2 91 (46000 * p + (W + 1))) (I ((p : Nat) : Int)) 92 (I ((p : Nat) : Int)) (I ((W + 2 : Nat) : Int)) 2) (fun u _ => K2 u)) := by
  obtain ⟨⟨fa, -⟩, -, -, ⟨q9, q9w⟩, -, -, r11, -, -⟩ := id ru
  have hj : j < 60 := fa.1.2.2
  have p24 : PR ≤ 24 := wl.1.2.1.1.1.2
  have cb2 : a + 2 + 1 < 24000 := by
    obtain ⟨f9, cr9⟩ := cr
    exact (CR_b cr9).1
  have hU := pl.1.1.2.2
  have rt := pl.2.2.1.2.2 (W + 1) (by omega)
  have rt0 := pl.2.2.1.2.2 W (by omega)
  have be0 : hm_Fr_below N m2 p 0 = some (m2, m2.2.2.2 (pq p 35) (W + 1)) := by
    have := below_e (N := N) (x := 0) (k := 0) (W := W + 2) (l := l) pl.2.2.1.1 hl hl2.1 hl2.2 rfl (by omega)
    rw [show W + 2 - 1 - 0 = W + 1 by omega] at this
    exact this
  have hal : F m (pq p 9) ≠ 3 := by rw [q9]; omega
  have hal' : A w 109 p ≠ 3 := by rw [q9w]; omega
  have gm1 := GGm_fg f1
  have own : ∀ k, k < 100 → k ≠ 4 → k ≠ 5 → k ≠ 26 → k ≠ 45 → m2.1 (pq p k) = m.1 (pq p k) := fun k h0 h1 h2 h3 h4 => f1.1 _ (by simp; exact ⟨pq_inj h1, pq_inj h2, pq_inj h3, pq_inj h4, fun c => pq_n (by omega) c.symm⟩)
  have e9 : F m2 (pq p 9) = F m (pq p 9) := congrArg Int32.toInt (own 9 (by omega) (by omega) (by omega) (by omega) (by omega))
  have e11 : F m2 (pq p 11) = F m (pq p 11) := congrArg Int32.toInt (own 11 (by omega) (by omega) (by omega) (by omega) (by omega))
  have e15 : F m2 (pq p 15) = F m (pq p 15) := congrArg Int32.toInt (own 15 (by omega) (by omega) (by omega) (by omega) (by omega))
  obtain ⟨⟨e, he⟩, e', he'⟩ := SF_e wl.1 hpp hal
  have ei : e = i := by
    have := he.1
    rw [hq9] at this
    omega
  subst ei
  obtain ⟨-, ⟨n0, q1, q2, -, -⟩, -, -⟩ := id wl
  have ej : e' = j0 := by
    rw [hq9] at q1
    have := he'.1
    rw [q2] at this
    omega
  subst ej
  have e955 : F m2 955 = ((e : Nat) : Int) := (congrArg Int32.toInt gm1.2.2.1).trans he.1
  have x33 : F w2 133 = ((p : Nat) : Int) := by rw [FR.F g1.1 (by simp)]; exact r11
  have h112 : A w 112 p ≠ 0 := by
    show (w.2.2.1 112 p).toInt ≠ 0
    rw [← sc.2.2.1]
    exact h11
  have hb15 : 0 ≤ F m2 (pq p 15) ∧ F m2 (pq p 15) ≤ 24 := by
    rw [e15]
    rcases wl.2.2.1 p hpp with ⟨x1, x2, b', U', B', W', Y', pl', -⟩ | ⟨x1, -⟩
    · exact (SF_al wl.1 hpp x1 pl').2.2.2
    · exact absurd x1 hal
  have zx5 : w2.2.2.2 91 (46000 * p + (W + 1)) ≠ mk 1 5 := fun c => h5 (by
    rcases rt with ⟨-, x, -⟩ | ⟨x1, x2, -⟩
    · rw [← x]; exact c
    · rw [c, so_mk (by omega) (by omega)] at x2
      unfold isH at x1
      omega)
  rw [tw95_29, be0, bnd_so, dec_ne h5, br_fq, be0, bnd_so, oI, sig_t (by rw [e9]; exact hal) (by rw [e11]; exact h11), prr_8, sub2, tnI (n := p) rfl (by omega), wa_e]
  refine rb_ck (fun _ => rb_ck (fun _ => ?_))
  rw [lt_e, truth1, bnd_so]
  have y92 : A (wa w2 92 p ((W : Nat) : Int)) 92 p = ((W : Nat) : Int) := wa_sm (by omega) (by omega)
  have y33 : F (wa w2 92 p ((W : Nat) : Int)) 133 = ((p : Nat) : Int) := x33
  refine r_bb (r_bnd (pk_mo (put_r (N := N) (x := mk 1 0) (W := W) (by omega) y33 y92 (by omega)) (fun w8 _ e8 => ?_)))
  have n1 : ¬ isH (mk 1 0) := nh_mk (by omega)
  have n6 : so (mk 1 0) = 6 → va (mk 1 0) = 0 := fun c => by rw [so_mk (by omega) (by omega)] at c; omega
  generalize hwd : wa w2 92 p ((W + 1 : Nat) : Int) = wd
  have d92 : A wd 92 p = ((W + 1 : Nat) : Int) := by rw [← hwd]; exact wa_sm (by omega) (by omega)
  have e8' : w8 = Zp p W (mk 1 0) wd := by
    rw [e8, ← zp_put d92, ← hwd, wa_w2]
  have gd : FGw p j w wd := by rw [← hwd]; exact FGw.tr g1 FGw.w92
  have gwd := GGw_fg gd hj
  have d33 : F wd 133 = ((p : Nat) : Int) := by rw [← hwd]; exact x33
  have dJ : wd.2.2.2 = w2.2.2.2 := by rw [← hwd]; rfl
  have d98 : A wd 98 (60 * p + j) = ((n + 1 : Nat) : Int) := by rw [← hwd, wa_rne (by omega)]; exact h98
  have pld : PLs b p (wi m2 (pq p 26) ((W + 1 : Nat) : Int)) wd U B (W + 1) Y := by rw [← hwd]; exact PLs_drop (k := 1) (W := W + 1) pl (by omega)
  have xcd : CX wd p (hp wd p) U ow' kd' Fv' P' (W + 1) B Y := by
    obtain ⟨x1, x2, x3, x4, ⟨x5, x5'⟩, ⟨x6, x6'⟩, ⟨x7, x7'⟩, x8, x9, x10, x11⟩ := xc
    have ehd : hp wd p = hp w2 p := by unfold hp; rw [dJ]
    refine ⟨rfl, by rw [ehd]; exact x2, x3, x4, ⟨d92, by omega⟩, ⟨by rw [← hwd, wa_rne (by omega)]; exact x6, x6'⟩, ⟨by rw [← hwd, wa_rne (by omega)]; exact x7, x7'⟩, fun i hi => by rw [dJ]; exact x8 i (by omega), fun i hi => by rw [dJ]; exact x9 i hi, fun i hi => by rw [dJ]; exact x10 i hi, fun c => ?_⟩
    have e140 : F wd 140 = F w2 140 := by rw [← hwd]; rfl
    have e139 : wd.2.1 139 = w2.2.1 139 := by rw [← hwd]; rfl
    rw [e140] at c
    rw [e139]
    exact x11 c
  have gx : GT U ow' kd' P' (w2.2.2.2 91 (46000 * p + (W + 1))) := xc.2.2.2.2.2.2.2.1 (W + 1) (by omega)
  have cx2 : CTX Fv P m2 := CTX_fr wl.1.1.2 gm1.2.1.2.1 gm1.2.1.2.2.2
  have hed : F wd 150 = ((e' : Nat) : Int) ∧ e' < 4000 := ⟨(congrArg Int32.toInt gwd.2.2.1).trans he'.1, he'.2⟩
  have hald : A wd 109 p ≠ 3 := by rw [FR.A gd.1 (by simp)]; exact hal'
  have nxd : ¬ isH (wd.2.2.2 91 (46000 * p + W)) := fun c => by
    rw [dJ] at c
    exact e4 ((RTb_isH rt0).mp c)
  have key := post_pe (N := N) (W := W + 1) (e := e) (e' := e') (v3 := ((p : Nat) : Int)) (by omega) (by rw [e9]; exact hal) hald pld pt cx2 xcd rt gx z1 hs ⟨e955, he.2⟩ hed (by omega)
  have k33 : F w8 133 = ((p : Nat) : Int) := by rw [e8']; exact d33
  refine r_bb (exr_t (p := p) (q := p) (by omega) (by rw [e8']; exact hald) (by rw [e8']; show A wd 112 p ≠ 0; rw [FR.A gd.1 (by simp)]; exact h112) k33 zx5 (r_bb (l_bb (l_bb (pp_bb (fun m4 _ w10 _ ex1 ex2 => ?_))))))
  rw [e8'] at ex2
  obtain ⟨w9, ex3, rfl, -⟩ := zc_fm_M_message (N := N) (p := p) (W := W) (x := mk 1 0) (u := wd) ⟨n1, nxd⟩ rfl rfl rfl rfl rfl rfl rfl w10 () ex2
  have hM := key m4 () w9 () ex1 ex3
  simp only [bnd_so]
  have kc : Kwcc m2 m4 := ywc_hm_Wl_post Kwc_rf m4 () ex1
  have f26 : F m4 (pq p 26) = ((W + 2 : Nat) : Int) := (congrArg Int32.toInt (kc (pq p 26) ⟨by unfold pq; omega, by unfold pq; omega⟩)).trans pl.2.2.1.1
  have f45 : F m4 (pq p 45) = ((l : Nat) : Int) := (congrArg Int32.toInt (kc (pq p 45) ⟨by unfold pq; omega, by unfold pq; omega⟩)).trans hl
  have f05 : F m4 1105 = ((a : Nat) : Int) := by
    rw [← h05]
    rcases hM with ⟨-, rfl, -⟩ | ⟨m1, w1, xm, -, -, rfl, -⟩ | ⟨-, U2, b2, -, xm, -⟩
    · rfl
    · exact congrArg Int32.toInt ((enS_1 (pq_n (by omega)) (pq_n (by omega)) (by omega)).trans (xm.1 1105 (by simp [pq_n])))
    · exact congrArg Int32.toInt (xm.1 1105 (by simp [pq_n]))
  unfold hb_Ma_toward_335 hm_Ma_answer hb_Ma_answer_0
  rw [show (2 : Int32) = I 2 from rfl, drop_e (W := W + 2) (k := 2) (x := 2) f26 rfl (by omega), bnd_so, show W + 2 - 2 = W by omega]
  simp only [bb_e, bnd_so]
  have e26' : F (wi m4 (pq p 26) ((W : Nat) : Int)) (pq p 26) = ((W : Nat) : Int) := wi_sm (by omega) (by omega)
  have e45' : F (wi m4 (pq p 26) ((W : Nat) : Int)) (pq p 45) = ((l : Nat) : Int) := by rw [wi_ne (pq_inj (by omega))]; exact f45
  refine l_bnd (pk_mo (push_m (N := N) (t := mk 1 0) e26' e45' (by omega) hl2.2) (fun m8 _ h => ?_))
  obtain ⟨y1, y2, y3⟩ := h
  have k05 : F m8 1105 = ((a : Nat) : Int) := by rw [FR.F y1 (by simp [pq_n]), wi_ne (pq_n (by omega))]; exact f05
  rw [I_F' k05, show I ((a : Nat) : Int) + I 2 = I ((a + 2 : Nat) : Int) from addN, wi_e]
  have f3 : FGm p m4 (wi m8 1105 ((a + 2 : Nat) : Int)) := FGm.tr (FGm.tr FGm.drop (FGm.push y1)) FGm.pc
  have gz : FGw p j w9 (Zp p W (mk 1 0) w9) := FGw_zp (by omega)
  have gm3 := GGm_fg f3
  have gwz := GGw_fg gz hj
  have live : XMm p m2 m4 → XMr p wd w9 → (∃ b3 U3 Y3, PLs b3 p (wi m4 (pq p 26) ((W + 1 : Nat) : Int)) w9 U3 B (W + 1) Y3) → PP Q (K1 (wi m8 1105 ((a + 2 : Nat) : Int))) (K2 (Zp p W (mk 1 0) w9)) := fun xm xr ⟨b3, U3, Y3, pl3⟩ => by
    have pd := PLs_drop (k := 1) (W := W) pl3 (by omega)
    rw [wi_wi] at pd
    have pl5 := PLs_pc (z := ((a + 2 : Nat) : Int)) (PLs_push (x := mk 1 0) pd (RTb_lit n1 n6) y1 y2 y3)
    rw [zp_put pl3.2.2.1.2.1] at pl5
    have rbd : RUb m2 wd p j nb Hs Os y := RUb_fg (RUs_b ru) f1 gd
    have pg9 := PGs_xm xm xr
    have rb9 : RUb m4 w9 p j nb Hs Os y := RUb_st rbd (EQm.xm xm p).n (EQw.xm xr p).v pg9
    obtain ⟨t1, ⟨t5, t6⟩, t7, ⟨t8, t9, t10⟩, t11, t12, t13⟩ := rb9
    have gmA := GGm.tr gm1 (GGm_xe xm)
    have gwA := GGw.tr gwd (GGw_xm xr)
    have h23 : A m4 23 = A m 23 := by funext k; show (m4.2.2.1 23 k).toInt = _; rw [gmA.2.1.1]; rfl
    have hRO : ROs w9 = ROs w := ROs_eq gwA.2.1.1
    have x98 : A (Zp p W (mk 1 0) w9) 98 (60 * p + j) = ((n + 1 : Nat) : Int) := by
      show A w9 98 (60 * p + j) = _
      rw [FR.A xr.1 (by simp)]
      exact d98
    have ru3 := RUs_mk (a2 := a + 2) (n2 := n + 1) t1 t5 t6 t7 t8 t9 t10 t11 t12 t13 f3 gz (wi_sm (by omega) (by omega)) x98 (by rw [h23, hRO, gwA.2.1.2.1]; exact cr)
    have sc9 : SCs p m4 w9 := SC_eq (SC_fg sc f1 gd) hb15.2 (EQm.xm xm p) (EQw.xm xr p)
    have gm := GGm.tr gmA gm3
    have gw := GGw.tr gwA gwz
    exact kA b3 U3 Y3 _ _ (fun s3 => WL_own (WL_t wl) hpp hal hal' s3 gm gw pl5 (SC_fg sc9 f3 gz) ru3) pl5 ru3 (EG_ggm gm) (EG_ggw gw)
  rcases hM with ⟨-, rfl, rfl⟩ | ⟨m1, w1, xm, xr, x5, rfl, rfl⟩ | ⟨hY, U2, b2, pl2, xm, xr⟩
  · exact live FR.rf XMr.rf ⟨b, U, Y, pld⟩
  · 
    have v := enS_v (m := m1) (q := p) (t := mk 1 20) (hm := p) (e := e)
    have a9 := enR_9 (w := w1) (q := p) (wr := 0) (o := p) (x := mk 1 20) (e := e')
    obtain ⟨u1, u2⟩ := enS_q (m := m1) (t := mk 1 20) (hm := p) (show e < 1000 by omega) (show p < 1000 by omega)
    obtain ⟨v1, v2, v3, v4, v5⟩ := enR_q (w := w1) (x := mk 1 20) (wr := 0) (o := p) (show e' < 10000 by omega) (show p < 1000 by omega) (by omega) ⟨by omega, by omega⟩
    have fr := enR_fr (w := w1) (q := p) (wr := 0) (o := p) (x := mk 1 20) (e := e')
    have nE : ∀ k, k < 2000 → k ≠ 955 → (enS m1 p (mk 1 20) p e).1 k = m1.1 k := fun k hk h => enS_1 (pq_n hk) (pq_n hk) h
    have nk : ∀ k, k < 100 → k ≠ 9 → k ≠ 17 → (enS m1 p (mk 1 20) p e).1 (pq p k) = m1.1 (pq p k) := fun k h0 h1 h2 => enS_1 (pq_inj h1) (pq_inj h2) (fun c => pq_n (by omega) c.symm)
    have nA : ∀ K, K ≠ 54 → (enS m1 p (mk 1 20) p e).2.2.1 K = m1.2.2.1 K := fun K h => enS_3 h
    have LM : ∀ d, d ≠ p → LOCm d m1 (enS m1 p (mk 1 20) p e) := fun d hd => LOCm_en hd
    have u2' : A (enS m1 p (mk 1 20) p e) 54 e = ((p : Nat) : Int) := by rw [u2, if_pos rfl]
    have gmA := GGm.tr gm1 (GGm_xe xm)
    have gwA := GGw.tr gwd (GGw_xm xr)
    have sc1 : SCs p m1 w1 := SC_eq (SC_fg sc f1 gd) hb15.2 (EQm.xm xm p) (EQw.xm xr p)
    have e151 : F m1 (pq p 15) = F m2 (pq p 15) := FR.F xm (by simp; exact ⟨pq_inj (by omega), pq_inj (by omega), pq_inj (by omega)⟩)
    have hP : P (mk 1 20) := cx2.2.2.2.2.2.1 20 (by omega) (by have := cx2.2.2.2.1; omega)
    have hP' : P' (mk 1 20) := wl.1.2.2.1 20 (by omega) (by omega)
    have m20 : ¬ isH (mk 1 20) := nh_mk (by omega)
    have m26 : so (mk 1 20) = 6 → va (mk 1 20) = 0 := fun c => by rw [so_mk (by omega) (by omega)] at c; omega
    have e1109 : F m1 1109 = F m2 1109 := FR.F xm (by simp [pq_n])
    have w133 : F w1 133 = ((p : Nat) : Int) := by rw [FR.F xr.1 (by simp)]; exact d33
    generalize hmE : enS m1 p (mk 1 20) p e = mE at v u1 u2' nk nE LM nA f3 gm3 y1
    have h3k : ∀ k, k < 100 → k ≠ 26 → k ≠ 45 → (wi m8 1105 ((a + 2 : Nat) : Int)).1 (pq p k) = mE.1 (pq p k) := fun k h0 h1 h2 => by
      rw [wi_1 (fun c => pq_n (by omega) c.symm), y1.1 _ (by simp; exact ⟨pq_inj h1, pq_inj h2⟩), wi_1 (pq_inj h1)]
    have h3L : ∀ k, (wi m8 1105 ((a + 2 : Nat) : Int)).2.1 k = mE.2.1 k := fun k => y1.2.1 k (by simp)
    have h3A : ∀ K, (wi m8 1105 ((a + 2 : Nat) : Int)).2.2.1 K = mE.2.2.1 K := fun K => y1.2.2.1 K (by simp)
    generalize wi m8 1105 ((a + 2 : Nat) : Int) = m3 at f3 h3k h3L h3A gm3
    have k93 : F m3 (pq p 9) = 3 := (congrArg Int32.toInt (h3k 9 (by omega) (by omega) (by omega))).trans v.1
    have a9p : A (enR w1 p 0 ((p : Nat) : Int) (mk 1 20) e') 109 p = 3 := by rw [a9, if_pos rfl]
    have x148 : (enR w1 p 0 ((p : Nat) : Int) (mk 1 20) e').2.2.2 148 e' = mk 1 20 := by rw [v5, if_pos rfl]
    have z148 : (Zp p W (mk 1 0) (enR w1 p 0 ((p : Nat) : Int) (mk 1 20) e')).2.2.2 148 e' = mk 1 20 := by
      rw [zr_J (by omega)]
      exact x148
    have aw : ∀ K, K < 88 ∨ (118 ≤ K ∧ K ≤ 130) ∨ K = 113 ∨ K = 114 ∨ K = 116 ∨ K = 117 ∨ K = 90 → (enR w1 p 0 ((p : Nat) : Int) (mk 1 20) e').2.2.1 K = w1.2.2.1 K := fun K h => fr.2.2.1 K (by simp; omega)
    have nW : ∀ k, k ≠ 150 → (enR w1 p 0 ((p : Nat) : Int) (mk 1 20) e').1 k = w1.1 k := fun k h => fr.1 k (by simpa using h)
    have LW : ∀ d, d ≠ p → LOCw d w (Zp p W (mk 1 0) (enR w1 p 0 ((p : Nat) : Int) (mk 1 20) e')) := fun d hd => (gwA.1 d hd).tr2 ((LOCw_en hd).tr2 (gwz.1 d hd))
    have rq : RQs Fv P Fv' P' PR m3 (Zp p W (mk 1 0) (enR w1 p 0 ((p : Nat) : Int) (mk 1 20) e')) p 0 p ((Zp p W (mk 1 0) (enR w1 p 0 ((p : Nat) : Int) (mk 1 20) e')).2.2.2 148 e') := by
      rw [z148]
      refine ⟨p, 0, by rw [h3k 17 (by omega) (by omega) (by omega), v.2.1]; exact rf_some (by omega), hpp, k93, Or.inr ⟨hpp, a9p⟩, ?_, Or.inl ⟨m20, hP'⟩⟩
      rw [h3L, v.2.2]
      exact SRs_lit m20 m26 hP hP' (by omega) (by omega)
    have qe : QEs m3 (Zp p W (mk 1 0) (enR w1 p 0 ((p : Nat) : Int) (mk 1 20) e')) p := by
      refine QE_sc sc1 (by rw [e151]; exact hb15) x5 (fun k hk => ?_) ?_ (fun K hK => ?_) ?_ ?_
      · rw [h3k k (by omega) (by omega) (by omega), nk k (by omega) (by omega) (by omega)]
      · rw [h3A, nA _ (fun c => pq_n (by omega) c.symm)]
      · show (enR w1 p 0 ((p : Nat) : Int) (mk 1 20) e').2.2.1 K p = _
        rw [aw K (by omega)]
      · exact aw 116 (by omega)
      · exact aw 117 (by omega)
    refine kD m3 _ (fun s3 => ?_) k93 a9p ⟨fun K h1 h2 => ?_, fun k h1 h2 => ?_⟩ ⟨fun K h => (aw K (by omega)).trans (gwA.2.2.2.2.2.1 K h), fun k h => (nW k (by omega)).trans (gwA.2.2.2.2.2.2 k h)⟩ ⟨?_, ?_⟩
    · refine WL_endp (WL_t wl) hal hpp hq9 s3 (fun d hd => ⟨LOCm.tr (LOCm.tr (gmA.1 d hd) (LM d hd)) (gm3.1 d hd), fun _ => LW d hd⟩) ?_ ?_ ?_ v1 (by show A (enR w1 p 0 ((p : Nat) : Int) (mk 1 20) e') 145 e' = _; rw [v2, if_pos rfl]) (by show A (enR w1 p 0 ((p : Nat) : Int) (mk 1 20) e') 146 e' = _; rw [v3, if_pos rfl]) (by show A (enR w1 p 0 ((p : Nat) : Int) (mk 1 20) e') 147 e' = _; rw [v4, if_pos rfl]) ⟨k93, a9p⟩ rq qe
      · exact ⟨⟨gm3.2.1.1.trans ((nA 23 (by omega)).trans gmA.2.1.1), gm3.2.1.2.1.trans ((nE 22 (by omega) (by omega)).trans gmA.2.1.2.1), ATc_eq (gm3.2.1.2.2.1.trans ((nA 2 (by omega)).trans gmA.2.1.2.2.1)) (gm3.2.1.2.2.2.trans ((nA 3 (by omega)).trans gmA.2.1.2.2.2))⟩, fun K hK => (aw K (by unfold PRr at hK; omega)).trans (gwA.2.1.1 K hK), (gwz.2.1.2.1.trans (fr.2.2.2 34 (by simp))).trans gwA.2.1.2.1, (aw 12 (by omega)).trans gwA.2.1.2.2.1, (aw 13 (by omega)).trans gwA.2.1.2.2.2.1, (nW 14 (by omega)).trans gwA.2.1.2.2.2.2⟩
      · rw [show F m3 955 = F mE 955 from congrArg Int32.toInt gm3.2.2.1]
        exact u1
      · rw [show A m3 54 e = A mE 54 e from congrArg Int32.toInt (congrFun gm3.2.2.2.1 e)]
        exact u2'
    · rw [gm3.2.2.2.2.2.1 K h1, nA K h2, gmA.2.2.2.2.2.1 K h1]
    · rw [gm3.2.2.2.2.2.2 k h1, nE k (by omega) h2, gmA.2.2.2.2.2.2 k h1]
    · rw [← e1109]
      show (m3.1 1109).toInt = (m1.1 1109).toInt
      rw [f3.1 1109 (by simp [pq_n]), nE 1109 (by omega) (by omega)]
    · show ((enR w1 p 0 ((p : Nat) : Int) (mk 1 20) e').1 133).toInt = _
      rw [nW 133 (by omega)]
      exact w133
  · exact live xm xr ⟨b2, U2, Y + 1, pl2⟩
end
end
section
set_option maxRecDepth 100000
section
variable {α β : Type} {b : Int → Nat → Nat → Prop} {Fv Fv' : Int64 → Int64 → Prop} {P P' : Int64 → Prop} {N PR p U B W Y l : Nat} {m w1 : MS} {Q : MS → α → MS → β → Prop} {K1 : MS → Option (MS × α)} {K2 : MS → Option (MS × β)}
theorem tow_hd2 {d k : Int} (hd : (d = 2 ∧ k = 2) ∨ (d = 3 ∧ k = 3) ∨ (d = 15 ∧ k = 16)) (hp1 : p < 24) (dwc : DWc Fv P PR m) (hP4 : so (m.2.2.2 (pq p 35) W) = 4 → 0 ≤ va (m.2.2.2 (pq p 35) W) ∧ va (m.2.2.2 (pq p 35) W) < ((PR : Nat) : Int)) (h133 : F w1 133 = ((p : Nat) : Int)) (hW : W + 1 ≤ 46000) (hl : F m (pq p 45) = ((l : Nat) : Int)) (hl2 : W + 1 ≤ l ∧ l ≤ 1000000) (pl : PLs b p m w1 U B (W + 1) Y)
    (kT : ∀ q : Nat, q < PR → so (m.2.2.2 (pq p 35) W) = 4 → PP Q (bnd (hb_Ma_toward_95 N () m p (I d) 1 (some q)) (fun u _ => K1 u)) (bnd (fb_M_processRun_151 N () w1 (I k) 0 (I ((q : Nat) : Int)) 92 (I ((p : Nat) : Int)) (I ((W + 1 : Nat) : Int)) 1) (fun u _ => K2 u)))
    (kX : PP Q (K1 (tld m 1 (-1) (mk 1 11))) (bnd (fr_M_error N w1 11) (fun u _ => K2 u))) : PP Q (bnd (hm_Ma_toward N m p (I d)) (fun u _ => K1 u)) (bnd (fm_M_predefinedRun N w1 (I k)) (fun u _ => K2 u)) := by
  by_cases e4 : so (m.2.2.2 (pq p 35) W) = 4
  · exact tow_hd hd hp1 dwc hP4 h133 hW hl hl2 pl (fun q hq => kT q hq e4) kX
  have rt := pl.2.2.1.2.2 W (by omega)
  have be : hm_Fr_below N m p 0 = some (m, m.2.2.2 (pq p 35) W) := by
    have := below_e (N := N) (x := 0) (k := 0) (W := W + 1) (l := l) pl.2.2.1.1 hl hl2.1 hl2.2 rfl (by omega)
    rw [show W + 1 - 1 - 0 = W by omega] at this
    exact this
  have all : PP Q (bnd (bnd (hm_Ma_processAt N m p 0) (fun u65 r65 => br (decide (r65 = none)) (bnd (hm_Ma_wrong N u65 p 11) (fun u61 _ => some (u61, ()))) (hb_Ma_toward_95 N () u65 p (I d) 1 r65))) (fun u _ => K1 u)) (bnd (prcR N w1 (I k)) (fun u _ => K2 u)) := by
    unfold prcR
    refine r_bb (r_bb ?_)
    refine r_bnd (pk_mo (top_r (N := N) (k := 0) hp1 h133 pl.2.2.1.2.1 (by omega) (by omega)) (fun w4 r e => ?_))
    obtain ⟨rfl, rfl⟩ := e
    rw [show 46000 * p + (W + 1 - 1 - 0) = 46000 * p + W by omega, sortOf_e, bnd_so, RTb_so rt, show decide (I (so (m.2.2.2 (pq p 35) W)) = 4) = false from by rw [show (4 : Int32) = I 4 from rfl, decE (so_r _).1 (so_r _).2 (by omega) (by omega)]; exact decide_eq_false e4]
    rw [pat_0 be e4, bnd_so, br_fq, show decide ((none : Option Nat) = none) = true from rfl, br_tq, wrong_e9, bnd_so, bnd_so]
    refine r_bb ?_
    exact kX
  rcases hd with ⟨rfl, rfl⟩ | ⟨rfl, rfl⟩ | ⟨rfl, rfl⟩
  · rw [tw2, prc2]; exact all
  · rw [tw3, prc3]; exact all
  · rw [tw15, prc16]; exact all
theorem tow_hd4 (hp1 : p < 24) (dwc : DWc Fv P PR m) (hP4 : so (m.2.2.2 (pq p 35) W) = 4 → 0 ≤ va (m.2.2.2 (pq p 35) W) ∧ va (m.2.2.2 (pq p 35) W) < ((PR : Nat) : Int)) (h133 : F w1 133 = ((p : Nat) : Int)) (h950 : F m 950 = F w1 125 ∧ 0 ≤ F m 950 ∧ F m 950 ≤ 200) (hW : W + 1 ≤ 46000) (hl : F m (pq p 45) = ((l : Nat) : Int)) (hl2 : W + 1 ≤ l ∧ l ≤ 1000000) (pl : PLs b p m w1 U B (W + 1) Y)
    (kT : ∀ q : Nat, q < PR → so (m.2.2.2 (pq p 35) W) = 4 → F m 950 < 200 → PP Q (bnd (hb_Ma_toward_95 N () m p (I 4) 1 (some q)) (fun u _ => K1 u)) (bnd (fb_M_processRun_151 N () w1 (I 4) 0 (I ((q : Nat) : Int)) 92 (I ((p : Nat) : Int)) (I ((W + 1 : Nat) : Int)) 1) (fun u _ => K2 u)))
    (kX : PP Q (K1 (tld m 1 (-1) (mk 1 11))) (bnd (fr_M_error N w1 11) (fun u _ => K2 u))) : PP Q (bnd (hm_Ma_toward N m p (I 4)) (fun u _ => K1 u)) (bnd (fm_M_predefinedRun N w1 (I 4)) (fun u _ => K2 u)) := by
  have rt := pl.2.2.1.2.2 W (by omega)
  have be : hm_Fr_below N m p 0 = some (m, m.2.2.2 (pq p 35) W) := by
    have := below_e (N := N) (x := 0) (k := 0) (W := W + 1) (l := l) pl.2.2.1.1 hl hl2.1 hl2.2 rfl (by omega)
    rw [show W + 1 - 1 - 0 = W by omega] at this
    exact this
  obtain ⟨h1, h2, h3⟩ := h950
  rw [tw4, prd4, prs4]
  refine r_bb (r_bb ?_)
  refine r_bnd (pk_mo (show PK _ (fm_M_top N w1 0) from top_r (N := N) (k := 0) hp1 h133 pl.2.2.1.2.1 (by omega) (by omega)) (fun w4 r e => ?_))
  obtain ⟨rfl, rfl⟩ := e
  rw [show 46000 * p + (W + 1 - 1 - 0) = 46000 * p + W by omega, prt4, sortOf_e, bnd_so, RTb_so rt, show decide (I (so (m.2.2.2 (pq p 35) W)) = 4) = decide (so (m.2.2.2 (pq p 35) W) = 4) from by rw [show (4 : Int32) = I 4 from rfl, decE (so_r _).1 (so_r _).2 (by omega) (by omega)]]
  by_cases e4 : so (m.2.2.2 (pq p 35) W) = 4
  · have xt := RTb_n rt (by unfold isH; omega)
    obtain ⟨v0, v1⟩ := hP4 e4
    obtain ⟨q, hq⟩ : ∃ q : Nat, va (m.2.2.2 (pq p 35) W) = ((q : Nat) : Int) := ⟨(va (m.2.2.2 (pq p 35) W)).toNat, by omega⟩
    rw [pat_4 be e4 hq dwc (by omega), bnd_so, decide_eq_true e4, br_tq, show decide ((some q : Option Nat) = none) = false from rfl, br_fq, I_F (k := 950), I_F (w := w4) (k := 125), ← h1, show (200 : Int32) = I 200 from rfl, decL (by omega) (by omega) (by omega) (by omega), decE (by omega) (by omega) (by omega) (by omega)]
    by_cases c : F m 950 < 200
    · rw [decide_eq_true c, br_tq, decide_eq_false (show ¬ F m 950 = 200 by omega), br_fq, valueOf_e, bnd_so, xt, hq, I_F' h133, tnI (n := p) rfl (by omega), I_A' pl.2.2.1.2.1]
      refine rb_ck (fun _ => ?_)
      have := kT q (by omega) e4 c
      simp only [bb_e, bnd_so] at this ⊢
      exact this
    · rw [decide_eq_false c, br_fq, decide_eq_true (show F m 950 = 200 by omega), br_tq, wrong_e9, bnd_so, bnd_so]
      simp only [bb_e, bnd_so]
      exact kX
  · rw [pat_0 be e4, bnd_so, decide_eq_false e4, br_fq, show decide ((none : Option Nat) = none) = true from rfl, br_tq, wrong_e9, bnd_so, bnd_so]
    simp only [bb_e, bnd_so]
    exact kX
end
end
section
set_option maxRecDepth 100000
section
variable {α β : Type}
theorem bnd_cg {o : Option (MS × α)} {f g : MS → α → Option (MS × β)} (h : ∀ u r, o = some (u, r) → f u r = g u r) : bnd o f = bnd o g := by
  cases o with
  | none => rfl
  | some y =>
    obtain ⟨u, r⟩ := y
    exact h u r rfl
end
def stC (N : Nat) (u : MS) (p : Nat) : Option (MS × Unit) := bnd (hm_Co_at N u (u.1 1105)) (fun u17 r17 => br (decide (r17 = 39)) (bnd (hm_Co_at N u17 ((u17.1 1105) + 1)) (fun u29 r29 => bnd (hm_Ma_predefined N u29 p r29) (fun u _ => some (u, ())))) (br (decide (r17 = 40)) (bnd (hm_Co_at N u17 ((u17.1 1105) + 1)) (fun u24 r24 => bnd (hm_Ma_toward N u24 p r24) (fun u _ => some (u, ())))) (br (decide (8 ≤ r17)) (br (decide (18 ≤ r17)) (bnd (hm_Ma_flow N u17 p r17) (fun u _ => some (u, ()))) (bnd (hm_Ma_value N u17 p r17) (fun u _ => some (u, ())))) (bnd (hm_Ma_making N u17 p r17) (fun u _ => some (u, ()))))))
section
variable {Sf : MS → Int32 → Prop} {T : Nat → Option (Nat × Nat × List Nat × Nat × Nat)} {Fv : Int64 → Int64 → Prop} {P : Int64 → Prop} {u w : MS} {PR N q i h m g x j wb nb cb rk c f : Nat} {L : List Nat} {G G' : MS → Nat → Int32 → Option (MS × Int32)} {v : Nat}
theorem stC_k {K : MS → Option (MS × Int32)} : bnd (stC N u q) (fun w _ => K w) = bnd (hm_Co_at N u (u.1 1105)) (fun u17 r17 => br (decide (r17 = 39)) (bnd (hm_Co_at N u17 ((u17.1 1105) + 1)) (fun u29 r29 => bnd (hm_Ma_predefined N u29 q r29) (fun u31 _ => K u31))) (br (decide (r17 = 40)) (bnd (hm_Co_at N u17 ((u17.1 1105) + 1)) (fun u24 r24 => bnd (hm_Ma_toward N u24 q r24) (fun u26 _ => K u26))) (br (decide (8 ≤ r17)) (br (decide (18 ≤ r17)) (bnd (hm_Ma_flow N u17 q r17) (fun u19 _ => K u19)) (bnd (hm_Ma_value N u17 q r17) (fun u20 _ => K u20))) (bnd (hm_Ma_making N u17 q r17) (fun u21 _ => K u21))))) := by
  unfold stC
  simp only [bb_e, bnd_br, bnd_so]
theorem stC_pk (M : MIc T Fv P PR q u i h m L g x j wb nb cb rk) (t9 : F u 1109 = 0) (t8 : F u 1108 = 0) (hf : PHc T u q i x rk ≤ c) (hN : 600000000010 ≤ N) : PK (fun w (_ : Unit) => ∃ PR2, OPQ T Fv P PR2 q c w) (stC N u q) := by
  intro w r e
  have ok := op_ok (K := fun w => @ite _ (∃ PR2, OPQ T Fv P PR2 q c w) (Classical.propDecidable _) (some (w, (0 : Int32))) none) (Q := fun _ _ => True) M t9 t8 hf hN (fun w PR2 o => by
    rw [@if_pos _ (Classical.propDecidable _) (⟨PR2, o⟩ : ∃ PR2, OPQ T Fv P PR2 q c w)]
    exact ok_some.mpr trivial)
  rw [← stC_k, e] at ok
  by_cases z : ∃ PR2, OPQ T Fv P PR2 q c w
  · exact z
  · exfalso
    have e2 : bnd (some (w, r)) (fun w (_ : Unit) => @ite _ (∃ PR2, OPQ T Fv P PR2 q c w) (Classical.propDecidable _) (some (w, (0 : Int32))) none) = none := @if_neg _ (Classical.propDecidable _) z _ _ _
    rw [e2] at ok
    obtain ⟨_, _, e3, -⟩ := ok
    cases e3
theorem q206_eq (l : LPQ T Fv P PR q c u) (hs : Sf u (I ((v : Nat) : Int))) (hG : ∀ w, LPQ T Fv P PR q c w → G w q (I ((v + 1 : Nat) : Int)) = G' w q (I ((v + 1 : Nat) : Int))) (hN : 3000000 ≤ N) : q206 Sf N G u q (I ((v : Nat) : Int)) = hb_Ma_goOn_206 N G' u q (I ((v : Nat) : Int)) := by
  have d : DWc Fv P PR u ∧ CTX Fv P u := by
    rcases l with ⟨⟨i, h, m, L, g, x, j, wb, nb, cb, rk, M, hf⟩, -⟩ | ⟨G, -⟩ | ⟨G, -⟩
    · exact ⟨M.1.1, M.1.2.1⟩
    · exact ⟨G.1, G.2.1⟩
    · exact ⟨G.1, G.2.1⟩
  unfold q206 hb_Ma_goOn_206
  rw [rsc_t hs, show I ((v : Nat) : Int) + 1 = I ((v + 1 : Nat) : Int) from addN]
  exact bnd_cg (fun w r e => hG w (LPQ_w l (pk_ok (settle_ok (N := N) d.1 d.2 hN) w r e)))
theorem q195_eq (hS : ∀ PR c u (v : Nat), OPQ T Fv P PR q c u → c + v + 1 ≤ 900000000 → Sf u (I ((v : Nat) : Int))) (o : OPQ T Fv P PR q c u) (hv : c + v + 1 ≤ 900000000) (hG : ∀ w, LPQ T Fv P PR q c w → G w q (I ((v + 1 : Nat) : Int)) = G' w q (I ((v + 1 : Nat) : Int))) (hN : 3000000 ≤ N) : q195 Sf N G u q (I ((v : Nat) : Int)) = hb_Ma_goOn_195 N G' u q (I ((v : Nat) : Int)) := by
  have hs := hS _ _ _ _ o hv
  have r9 := F_r u 1109
  unfold q195 hb_Ma_goOn_195
  rw [rsc_t hs]
  have lp : F u 1109 = 0 → LPQ T Fv P PR q c u := fun z => by
    rcases o with o | o | o | o
    · exact Or.inl o
    · exfalso
      obtain ⟨v, how, ar, t, -, -, -, -, hh, ha, rfl⟩ := o
      have e : F (wi (wi v 1109 how) 1111 ar) 1109 = 0 := z
      rw [F_wi (by omega) (by omega), if_neg (by decide), F_wi (by omega) (by omega), if_pos rfl] at e
      omega
    · exact Or.inr (Or.inl o)
    · exact Or.inr (Or.inr o)
  by_cases z : F u 1109 = 0
  · rw [I_F' z, show decide (I 0 = 0) = true from rfl, br_tq, br_tq]
    exact q206_eq (lp z) hs hG hN
  · have er : ERR T Fv P PR q c u := by
      rcases o with o | o | o | o
      · exact absurd o.2.1 z
      · exact o
      · exact absurd o.2.2.1 z
      · exact absurd o.2.2.1 z
    rw [I_F (k := 1109), show decide (I (F u 1109) = 0) = false from by rw [show (0 : Int32) = I 0 from rfl, decE r9.1 r9.2 (by omega) (by omega)]; exact decide_eq_false z, br_fq, br_fq]
    refine bnd_cg (fun w r e => ?_)
    rcases pk_ok (raise_ok (N := N) er hN) w r e with hw | hw
    · exact q206_eq (Or.inl hw) (hS _ _ _ _ (Or.inl hw) hv) hG hN
    · exact q206_eq (Or.inr (Or.inl hw)) (hS _ _ _ _ (Or.inr (Or.inr (Or.inl hw))) hv) hG hN
theorem qgo_eq (hN : 600000000010 ≤ N) (hS : ∀ PR c u (v : Nat), OPQ T Fv P PR q c u → c + v + 1 ≤ 900000000 → Sf u (I ((v : Nat) : Int))) : ∀ (K f PR v : Nat) (u : MS), f + v ≤ 900000000 → LPQ T Fv P PR q f u → qgo Sf N K u q (I ((v : Nat) : Int)) = hg_Ma_goOn N K u q (I ((v : Nat) : Int)) := by
  intro K
  induction K with
  | zero => intro f PR v u _ _; rfl
  | succ K ih =>
    intro f PR v u hv l
    show q67 Sf N (qgo Sf N K) u q (I ((v : Nat) : Int)) = hb_Ma_goOn_67 N (hg_Ma_goOn N K) u q (I ((v : Nat) : Int))
    have e219 : hb_Ma_goOn_219 N (qgo Sf N K) u q = hb_Ma_goOn_219 N (hg_Ma_goOn N K) u q := rfl
    unfold q67 hb_Ma_goOn_67
    rw [e219, ← stC_k (K := fun w => q195 Sf N (qgo Sf N K) w q (I ((v : Nat) : Int))), ← stC_k (K := fun w => hb_Ma_goOn_195 N (hg_Ma_goOn N K) w q (I ((v : Nat) : Int)))]
    rcases l with ⟨⟨i, h, m, L, g, x, j, wb, nb, cb, rk, M, hf⟩, t9, t8⟩ | l | l
    · have st := stC_pk (N := N) (c := f - 1) M t9 t8 (by omega) hN
      rw [bnd_cg (fun w r e => ?_)]
      obtain ⟨PR2, o⟩ := st w r e
      exact q195_eq hS o (by omega) (fun w l => ih (f - 1) PR2 (v + 1) w (by omega) l) (by omega)
    · have e3 := l.2.1
      rw [I_F' e3]
      rfl
    · by_cases z : F u (pq q 9) = 0
      · have r8 := F_r u 1108
        rw [I_F (k := 1108), show decide (I (F u 1108) = 0) = false from by rw [show (0 : Int32) = I 0 from rfl, decE r8.1 r8.2 (by omega) (by omega)]; exact decide_eq_false (l.2.1.2 z), br_fq, br_fq]
      · have r9 := F_r u (pq q 9)
        rw [I_F (k := pq q 9), show decide (I (F u (pq q 9)) = 0) = false from by rw [show (0 : Int32) = I 0 from rfl, decE r9.1 r9.2 (by omega) (by omega)]; exact decide_eq_false z, br_fq, br_fq]
end
end
section
set_option maxRecDepth 100000
section
variable {b : Int → Nat → Nat → Prop} {Fv Fv' : Int64 → Int64 → Prop} {P P' : Int64 → Prop} {p U B W Y : Nat} {ow kd ow' kd' : Nat → Nat} {m w : MS}
def bGd (b : Int → Nat → Nat → Prop) (U : Nat) (ow' kd' : Nat → Nat) (k : Int) (a c : Nat) : Prop := b k a c ∧ c < U ∧ ow' c = c ∧ ((kd' c : Nat) : Int) = k
theorem bGd_t {t x : Int64} (r : RTb b t x) (g : GT U ow' kd' P' x) : RTb (bGd b U ow' kd') t x := by
  rcases r with r | ⟨r1, r2, r3, r4⟩
  · exact Or.inl r
  · have zx : isH x := by unfold isH; rw [r2]; exact r1
    rcases g with g | ⟨-, g1, g2, g3, g4⟩
    · exact absurd zx g.1
    · exact Or.inr ⟨r1, r2, r3, r4, g2, g3, by rw [g4, r2]⟩
theorem bGd_i {h h' : Nat → Int64} (s : ISb b h U h' U) (g : HP h' U ow' kd' Fv' P') : ISb (bGd b U ow' kd') h U h' U := by
  refine ⟨fun t x z r => ?_, fun k l a c a2 c2 h1 h2 => s.2.1 k l a c a2 c2 h1.1 h2.1, fun k a c h => s.2.2 k a c h.1⟩
  obtain ⟨⟨v1, v2⟩, b1, b2, b3, b4⟩ := RTb_h r z
  have so1 := RTb_so r
  have zx := (RTb_isH r).mpr z
  have rb : RTb b t x := Or.inr ⟨z, so1, ⟨v1, v2⟩, b1⟩
  obtain ⟨⟨e1, e2, e3⟩, e4, e5⟩ := s.1 t x z rb
  refine ⟨⟨e1, e2, e3⟩, fun j h1 h2 => ?_, e5⟩
  have gx : GT U ow' kd' P' x := Or.inr ⟨zx, v2, b2, b3, by rw [b4, so1]⟩
  obtain ⟨f, sz, q, -⟩ := g x zx gx
  cases f with
  | zero => exact q.elim
  | succ f =>
    rcases q with ⟨q, -⟩ | ⟨-, -, c, q3, -⟩
    · exact absurd zx q
    · exact bGd_t (e4 j h1 h2) (SZ_gt (q3 j (by rw [RTb_prt rb]; exact h1) (by rw [e1]; exact h2)))
theorem PLs_gd (pl : PLs b p m w U B W Y) (xc : CX w p (hp w p) U ow' kd' Fv' P' W B Y) : PLs (bGd b U ow' kd') p m w U B W Y := by
  obtain ⟨⟨p1, p4, p5⟩, ⟨p6, p7, p8⟩, ⟨p9, p10, p11⟩, p12, p13, p14⟩ := pl
  obtain ⟨-, x2, -, -, -, -, -, x8, x9, x10, -⟩ := xc
  exact ⟨⟨p1, bGd_i p4 x2, p5⟩, ⟨p6, p7, fun i hi => bGd_t (p8 i hi) (x9 i hi)⟩, ⟨p9, p10, fun i hi => bGd_t (p11 i hi) (x8 i hi)⟩, p12, p13, fun i hi => bGd_t (p14 i hi) (x10 i hi)⟩
theorem gd_t {t x : Int64} (hP : ∀ t, P t → P' t) (r : RTb (bGd b U ow' kd') t x) (g : GT U ow kd P t) : GT U ow' kd' P' x := by
  rcases r with ⟨r1, r2, -⟩ | ⟨r1, r2, ⟨-, v2⟩, -, r4, r5, r6⟩
  · rcases g with g | g
    · exact Or.inl ⟨by rw [r2]; exact r1, by rw [r2]; exact hP _ g.2⟩
    · exact absurd g.1 r1
  · exact Or.inr ⟨by unfold isH; rw [r2]; exact r1, v2, r4, r5, by rw [r6, r2]⟩
theorem CXf_of (hP : ∀ t, P t → P' t) (pl : PLs (bGd b U ow' kd') p m w U B W Y) (pt : PTQ m p U ow kd Fv P B W Y) (g : HP (hp w p) U ow' kd' Fv' P') (hp1 : p < 24) (bd : W ≤ 46000 ∧ B ≤ 2500 ∧ Y ≤ 30) : CXf w p (hp w p) U ow' kd' Fv' P' W B Y := by
  obtain ⟨⟨p1, p4, p5⟩, ⟨p6, p7, p8⟩, ⟨p9, p10, p11⟩, p12, p13, p14⟩ := pl
  exact ⟨rfl, g, p1.2.2, hp1, ⟨p10, bd.1⟩, ⟨p7, bd.2.1⟩, ⟨p13, bd.2.2⟩, fun i hi => gd_t hP (p11 i hi) (pt.2.2.1.2 i hi), fun i hi => gd_t hP (p8 i hi) (pt.2.1.2 i hi), fun i hi => gd_t hP (p14 i hi) (pt.2.2.2.1.2 i hi), trivial⟩
theorem CXf_cx (x : CXf w p (hp w p) U ow' kd' Fv' P' W B Y) (h : F w 140 = -1) : CX w p (hp w p) U ow' kd' Fv' P' W B Y := by
  obtain ⟨x1, x2, x3, x4, x5, x6, x7, x8, x9, x10, -⟩ := x
  exact ⟨x1, x2, x3, x4, x5, x6, x7, x8, x9, x10, fun e => by omega⟩
end
end
section
set_option maxRecDepth 100000
def LIs (m w : MS) (p j : Nat) (nb : Nat → Nat) (Hs Os : Nat → List Nat) (a n : Nat) : Prop := (FAs m w p j nb Hs Os ∧ CTs m w p j nb Hs Os) ∧ (F m 1105 = ((a : Nat) : Int) ∧ A w 98 (60 * p + j) = ((n : Nat) : Int)) ∧ (∃ f, CRs (A m 23) (ROs w) (w.2.2.2 34) f none a n (Hs j) (Os j)) ∧ (F m (pq p 9) = 0 ∧ A w 109 p = 0) ∧ (F m 1108 ≠ 0 ∧ F m 1109 = 0 ∧ F w 151 ≠ 0) ∧ F w 133 = ((p : Nat) : Int) ∧ m.1 1106 = w.1 165
def SPs (p : Nat) (m w : MS) : Prop := (∃ j nb Hs Os y a n, RUs m w p j nb Hs Os y a n) ∨ (∃ j nb Hs Os sc, WTn m w p j nb Hs Os sc) ∨ ∃ j nb Hs Os a n, LIs m w p j nb Hs Os a n
section
variable {p : Nat} {m w m2 w2 : MS}
theorem SPs_st (h : SPs p m w) (h1 : EQn p m m2) (h2 : EQv p w w2) (pg : PGs m w m2 w2) : SPs p m2 w2 := by
  obtain ⟨⟨⟨g1, -, -⟩, g4, g5, -⟩, g7, g8⟩ := id pg
  have h23 : A m2 23 = A m 23 := by funext i; show (m2.2.2.1 23 i).toInt = _; rw [g1]; rfl
  have hRO := ROs_eq g4
  have hP : ∀ K, PRr K → A w2 K = A w K := fun K c => by funext i; show (w2.2.2.1 K i).toInt = _; rw [g4 K c]; rfl
  have fm : ∀ k, 1100 ≤ k → k < 1120 → F m2 k = F m k := fun k c1 c2 => congrArg Int32.toInt (g7 k c1 c2).1
  have fw : ∀ k, k = 133 ∨ (151 ≤ k ∧ k ≤ 165) → F w2 k = F w k := fun k c => congrArg Int32.toInt (g8 k c)
  have fq : ∀ k, k = 8 ∨ k = 9 → F m2 (pq p k) = F m (pq p k) := fun k hk => congrArg Int32.toInt (h1.1 k (by omega) (by simp; omega))
  have aw : ∀ K i, OWi p K i → K ≠ 116 → K ≠ 117 ∧ K ≠ 113 → A w2 K i = A w K i := fun K i a b c => congrArg Int32.toInt (h2.1 K i a b c)
  rcases h with ⟨j, nb, Hs, Os, y, a, n, h⟩ | ⟨j, nb, Hs, Os, sc, h⟩ | ⟨j, nb, Hs, Os, a, n, h⟩
  · exact Or.inl ⟨j, nb, Hs, Os, y, a, n, RUs_st h h1 h2 pg⟩
  · obtain ⟨t1, ⟨t2, t3⟩, t4, t5, t6, ⟨t7, t8, t9⟩, t10, t11, n, t12, t13, t14, t15, g, t16⟩ := h
    have hj : j < 60 := t1.1.1.2.2
    refine Or.inr (Or.inl ⟨j, nb, Hs, Os, sc, FC_eq t1 h1 h2, ⟨by rw [fq 9 (by omega)]; exact t2, by rw [aw 109 p (Or.inl ⟨by omega, rfl⟩) (by omega) (by omega)]; exact t3⟩, by rw [fq 8 (by omega), aw 110 p (Or.inl ⟨by omega, rfl⟩) (by omega) (by omega)]; exact t4, by rw [h1.2.1 10 (by omega) (by omega), h2.2.1]; exact t5, by rw [fm 1105 (by omega) (by omega)]; exact t6, ⟨by rw [fm 1108 (by omega) (by omega)]; exact t7, by rw [fm 1109 (by omega) (by omega)]; exact t8, by rw [fw 151 (by omega)]; exact t9⟩, by rw [(g7 1106 (by omega) (by omega)).1, g8 165 (by omega)]; exact t10, by rw [fw 133 (by omega)]; exact t11, n, by rw [aw 98 _ (Or.inr (Or.inl ⟨⟨by omega, by omega⟩, by omega, by omega⟩)) (by omega) (by omega)]; exact t12, by rw [hP 23 (by unfold PRr; omega)]; exact t13, by rw [hP 27 (by unfold PRr; omega)]; exact t14, t15, g, by rw [h23, hRO, g5]; exact t16⟩)
  · obtain ⟨t1, ⟨t2, t3⟩, ⟨f, t4⟩, ⟨t5, t6⟩, ⟨t7, t8, t9⟩, t10, t11⟩ := h
    have hj : j < 60 := t1.1.1.2.2
    exact Or.inr (Or.inr ⟨j, nb, Hs, Os, a, n, FC_eq t1 h1 h2, ⟨by rw [fm 1105 (by omega) (by omega)]; exact t2, by rw [aw 98 _ (Or.inr (Or.inl ⟨⟨by omega, by omega⟩, by omega, by omega⟩)) (by omega) (by omega)]; exact t3⟩, ⟨f, by rw [h23, hRO, g5]; exact t4⟩, ⟨by rw [fq 9 (by omega)]; exact t5, by rw [aw 109 p (Or.inl ⟨by omega, rfl⟩) (by omega) (by omega)]; exact t6⟩, ⟨by rw [fm 1108 (by omega) (by omega)]; exact t7, by rw [fm 1109 (by omega) (by omega)]; exact t8, by rw [fw 151 (by omega)]; exact t9⟩, by rw [fw 133 (by omega)]; exact t10, by rw [(g7 1106 (by omega) (by omega)).1, g8 165 (by omega)]; exact t11⟩)
theorem RRq_stb : STBl (RRx p (SPs p)) := fun q m w m2 w2 h h1 h2 pg => by
  rcases h with ⟨rfl, h⟩ | ⟨e, h⟩
  · exact Or.inl ⟨rfl, SPs_st h h1 h2 pg⟩
  · exact Or.inr ⟨e, WTr_st h h1 h2⟩
theorem WL_q {PR i j : Nat} {Fv Fv' : Int64 → Int64 → Prop} {P P' : Int64 → Prop} {cur : Option Nat} (wl : WLs (RRt p) PR Fv P Fv' P' cur i j m w) (h : F m (pq p 9) ≠ 3 → SPs p m w) : WLs (RRx p (SPs p)) PR Fv P Fv' P' cur i j m w := by
  obtain ⟨sf, q, pr, -⟩ := wl
  refine ⟨sf, q, fun r hr => ?_, RRq_stb⟩
  rcases pr r hr with ⟨x1, x2, b, U, B, W, Y, pl, sc, rr⟩ | x
  · refine Or.inl ⟨x1, x2, b, U, B, W, Y, pl, sc, ?_⟩
    by_cases e : r = p
    · subst e
      exact Or.inl ⟨rfl, h x1⟩
    · rcases rr with rr | rr
      · exact absurd rr e
      · exact Or.inr ⟨e, rr⟩
  · exact Or.inr x
end
section
variable {Sf : MS → Int32 → Prop} {β : Type} {Fv Fv' : Int64 → Int64 → Prop} {P P' : Int64 → Prop} {N PR p i k : Nat} {m w : MS} {RR : Nat → MS → MS → Prop} {G : MS → Nat → Int32 → Option (MS × Int32)} {Q : MS → Int32 → MS → β → Prop} {K : MS → Option (MS × β)}
theorem aft_206 (W : WLs RR PR Fv P Fv' P' none i 0 m w) (h956 : F m 956 = ((i : Nat) : Int)) (h149 : F w 149 = 0) (cn : CNq P P' m w) (wt : WTs PR m w) (hN : 3000000 ≤ N)
    (kA : ∀ m2 w2, Sf m (I ((k : Nat) : Int)) → hm_Wl_settle N m = some (m2, ()) → fm_M_allEnds N w = some (w2, ()) → FQs RR PR Fv P Fv' P' m2 w2 → Kwac m m2 → Kwbc w w2 → PP Q (G m2 p (I ((k + 1 : Nat) : Int))) (K w2)) : PP Q (q206 Sf N G m p (I ((k : Nat) : Int))) (bnd (fm_M_allEnds N w) (fun u _ => K u)) := by
  unfold q206 hb_Ma_goOn_206
  refine pp_cll (fun hs => ?_)
  rw [show I ((k : Nat) : Int) + 1 = I ((k + 1 : Nat) : Int) from addN]
  refine pp_bb (fun m2 _ w2 _ e1 e2 => ?_)
  exact kA m2 w2 hs e1 e2 (settle_pp ⟨i, 0, W, ⟨h956, h149⟩, cn, wt⟩ hN m2 () w2 () e1 e2) (ywa_hm_Wl_settle Kwa_rf m2 () e1) (ywb_fm_M_allEnds Kwb_rf w2 () e2)
theorem aft_195 (h9 : F m 1109 = 0) (W : WLs RR PR Fv P Fv' P' none i 0 m w) (h956 : F m 956 = ((i : Nat) : Int)) (h149 : F w 149 = 0) (cn : CNq P P' m w) (wt : WTs PR m w) (hN : 3000000 ≤ N)
    (kA : ∀ m2 w2, Sf m (I ((k : Nat) : Int)) → hm_Wl_settle N m = some (m2, ()) → fm_M_allEnds N w = some (w2, ()) → FQs RR PR Fv P Fv' P' m2 w2 → Kwac m m2 → Kwbc w w2 → PP Q (G m2 p (I ((k + 1 : Nat) : Int))) (K w2)) : PP Q (q195 Sf N G m p (I ((k : Nat) : Int))) (bnd (fm_M_allEnds N w) (fun u _ => K u)) := by
  unfold q195
  refine pp_cll (fun _ => ?_)
  rw [I_F' h9, show decide (I 0 = 0) = true from rfl, br_tq]
  exact aft_206 W h956 h149 cn wt hN kA
end
end
section
set_option maxRecDepth 100000
section
variable {p j k r : Nat} {m w : MS} {z : Int32} {nb : Nat → Nat} {Hs Os : Nat → List Nat}
theorem s30_A (h : k ≠ pq p 30) : (s30 m p j z).2.2.1 k = m.2.2.1 k := if_neg h
theorem s30_loc {d : Nat} (hd : d ≠ p) : LOCm d m (s30 m p j z) := fun k hk => ⟨rfl, rfl, s30_A (fun c => hd (pq_e hk (by omega) c).1), rfl⟩
theorem s30_pg : PG0 m w (s30 m p j z) w := ⟨⟨s30_A (fun c => pq_n (by omega) c), rfl, ATc_eq (s30_A (fun c => pq_n (by omega) c)) (s30_A (fun c => pq_n (by omega) c))⟩, fun _ _ => rfl, rfl, rfl, rfl, rfl⟩
theorem s30_23 : A (s30 m p j z) 23 = A m 23 := by
  funext k
  show ((s30 m p j z).2.2.1 23 k).toInt = _
  rw [s30_A (fun c => pq_n (by omega) c)]
  rfl
theorem s30_fc (hj : j < 60) (h : FAs m w p j nb Hs Os ∧ CTs m w p j nb Hs Os) : FAs (s30 m p (5 * j + 4) z) w p j nb Hs Os ∧ CTs (s30 m p (5 * j + 4) z) w p j nb Hs Os := by
  obtain ⟨⟨f1, f2, f3, f4⟩, n, c1, c2, c3, c4, c5⟩ := h
  have e30 : ∀ i, i ≠ 5 * j + 4 → A (s30 m p (5 * j + 4) z) (pq p 30) i = A m (pq p 30) i := fun i hi => by rw [s30_a, if_neg hi]
  have e32 : ∀ i, A (s30 m p (5 * j + 4) z) (pq p 32) i = A m (pq p 32) i := fun i => by
    show ((s30 m p (5 * j + 4) z).2.2.1 (pq p 32) i).toInt = _
    rw [s30_A (pq_inj (by omega))]
    rfl
  have e37 : ∀ i, A (s30 m p (5 * j + 4) z) (pq p 37) i = A m (pq p 37) i := fun i => by
    show ((s30 m p (5 * j + 4) z).2.2.1 (pq p 37) i).toInt = _
    rw [s30_37]
    rfl
  refine ⟨⟨f1, fun r hr => ?_, fun r hr => ?_, f4⟩, n, c1, c2, c3, c4, fun c hc => ?_⟩
  · obtain ⟨g1, g2, ⟨g3, g3'⟩, g4, g5, g6⟩ := f2 r hr
    refine ⟨by rw [e30 _ (by omega)]; exact g1, by rw [e30 _ (by omega)]; exact g2, ⟨by rw [e30 _ (by omega)]; exact g3, g3'⟩, by rw [e30 _ (by omega)]; exact g4, g5, fun i x hx => by rw [e32]; exact g6 i x hx⟩
  · obtain ⟨g1, a, n, g2, g3, f, g4⟩ := f3 r hr
    exact ⟨g1, a, n, by rw [e30 _ (by omega)]; exact g2, g3, f, by rw [s30_23]; exact g4⟩
  · obtain ⟨r, k, a, nd, nn, d1, d2, d3, d4, d5, d6, d7, d8, d9, d10, f, d11⟩ := c5 c hc
    exact ⟨r, k, a, nd, nn, d1, by rw [e37]; exact d2, d3, by rw [e37]; exact d4, d5, d6, by rw [e37]; exact d7, by rw [e37]; exact d8, d9, d10, f, by rw [s30_23]; exact d11⟩
theorem s30_wt (h : SPs p m w) (nr : F m (pq p 9) ≠ 0 ∨ F m 1108 ≠ 0) : ∃ j : Nat, F m (pq p 21) = ((j + 1 : Nat) : Int) ∧ j < 60 ∧ WTr p (s30 m p (5 * j + 4) (m.1 1105)) w := by
  rcases h with ⟨j, nb, Hs, Os, y, a, n, h⟩ | ⟨j, nb, Hs, Os, sc, h⟩ | ⟨j, nb, Hs, Os, a, n, h⟩
  · exfalso
    obtain ⟨-, -, -, ⟨r5, -⟩, -, ⟨r8, -⟩, -⟩ := h
    omega
  · obtain ⟨t1, ⟨t2, t3⟩, t4, t5, t6, -, -, -, n, t12, t13, t14, t15, g, t16⟩ := h
    obtain ⟨f1, -, hj⟩ := t1.1.1
    refine ⟨j, f1, hj, j, nb, Hs, Os, (s30_fc hj t1).1, (s30_fc hj t1).2, sc, by rw [s30_a, if_pos rfl]; exact t6, Or.inr (Or.inr ⟨t2, t3, Or.inr t4, t4, t5, n, t12, t13, t14, t15, g, by rw [s30_23]; exact t16⟩)⟩
  · obtain ⟨t1, ⟨t2, t3⟩, ⟨f, t4⟩, ⟨t5, t6⟩, -⟩ := h
    obtain ⟨f1, -, hj⟩ := t1.1.1
    exact ⟨j, f1, hj, j, nb, Hs, Os, (s30_fc hj t1).1, (s30_fc hj t1).2, a, by rw [s30_a, if_pos rfl]; exact t2, Or.inl ⟨t5, t6, n, t3, f, by rw [s30_23]; exact t4⟩⟩
end
section
variable {Sf : MS → Int32 → Prop} {Fv Fv' : Int64 → Int64 → Prop} {P P' : Int64 → Prop} {N PR p i M2 : Nat} {m w m2 : MS} {v3 : Int32} {G : MS → Nat → Int32 → Option (MS × Int32)} {Q : MS → Int32 → MS → Int32 → Prop}
theorem SC_s30 {q k : Nat} {z : Int32} (s : SCs q m w) : SCs q (s30 m p k z) w := by
  obtain ⟨s1, s2, s3, s4, s5, s6⟩ := s
  refine ⟨s1, s2, s3, s4, s5, fun i hi => ?_⟩
  rw [s30_A (fun c => by have := (pq_e (by omega) (by omega) c).2; omega)]
  exact s6 i hi
theorem WL_rest (W : WLs (RRx p (SPs p)) PR Fv P Fv' P' none i 0 m w) (hq : F m 955 = ((i : Nat) : Int)) (nr : F m (pq p 9) ≠ 0 ∨ F m 1108 ≠ 0) (hm2 : m2 = m ∨ ∃ j : Nat, F m (pq p 21) = ((j + 1 : Nat) : Int) ∧ m2 = s30 m p (5 * j + 4) (m.1 1105)) (al : F m (pq p 9) ≠ 3 → ∃ j : Nat, F m (pq p 21) = ((j + 1 : Nat) : Int) ∧ m2 = s30 m p (5 * j + 4) (m.1 1105)) (s2 : SFs Fv P Fv' P' PR m2 w) : WLs WTr PR Fv P Fv' P' none i 0 m2 w := by
  obtain ⟨sf, ⟨n0, q1, q2, -, -⟩, pr, -⟩ := id W
  have hn0 : n0 = 0 := by
    rw [hq] at q1
    omega
  subst hn0
  have e1 : m2.1 = m.1 := by
    rcases hm2 with rfl | ⟨j, -, rfl⟩
    · rfl
    · rfl
  have eF : ∀ k, F m2 k = F m k := fun k => by show (m2.1 k).toInt = _; rw [e1]; rfl
  refine ⟨s2, ⟨0, by rw [eF]; exact q1, q2, fun k hk => absurd hk (Nat.not_lt_zero k), fun k l hk hl _ => absurd hk (Nat.not_lt_zero k)⟩, fun r hr => ?_, fun q m w m2 w2 h h1 h2 _ => WTr_st h h1 h2⟩
  have loc : r ≠ p → LOCm r m m2 := fun hd => by
    rcases hm2 with rfl | ⟨j, -, rfl⟩
    · exact LOCm.rf
    · exact s30_loc hd
  have pg : PG0 m w m2 w := by
    rcases hm2 with rfl | ⟨j, -, rfl⟩
    · exact ⟨⟨rfl, rfl, rfl⟩, fun _ _ => rfl, rfl, rfl, rfl, rfl⟩
    · exact s30_pg
  rcases pr r hr with ⟨x1, x2, b, U, B, W4, Y, pl, sc, rr⟩ | ⟨x1, x2, x⟩
  · refine Or.inl ⟨by rw [eF]; exact x1, x2, b, U, B, W4, Y, ?_⟩
    rcases rr with ⟨rfl, sp⟩ | ⟨e, wt⟩
    · obtain ⟨j, f1, rfl⟩ := al x1
      obtain ⟨j', f2, hj, wt⟩ := s30_wt sp nr
      have ej : j' = j := by omega
      subst ej
      refine ⟨PLs_cg pl (fun _ _ => rfl) (fun _ _ => rfl) (fun _ _ => rfl) (fun _ _ => rfl) (fun _ _ => rfl) (fun _ _ => rfl) (fun _ _ => rfl) (fun _ _ => rfl) (fun _ _ => rfl) (fun _ _ => rfl), SC_s30 sc, wt⟩
    · obtain ⟨-, -, ⟨b1, b2, b3⟩, b4⟩ := SF_al sf hr x1 pl
      exact AL_loc ⟨pl, sc, wt⟩ ⟨pl.1.1.2.2, b1, b2, b3, b4.2⟩ pg (loc e) LOCw.rf
  · refine Or.inr ⟨by rw [eF]; exact x1, x2, Or.inr (Or.inr ?_)⟩
    rcases x with x | ⟨k, k1, k2, -⟩ | x
    · cases x
    · rw [hq] at k2
      omega
    · obtain ⟨d1, d2, d3, d4, d5, d6, d7⟩ := x
      have e4 : m2.2.2.2 = m.2.2.2 := by
        rcases hm2 with rfl | ⟨j, -, rfl⟩
        · rfl
        · rfl
      have e2 : m2.2.1 = m.2.1 := by
        rcases hm2 with rfl | ⟨j, -, rfl⟩
        · rfl
        · rfl
      refine ⟨by rw [eF]; exact d1, d2, RZs_st d3 pg (by rw [e1]) (by rw [e2]) (fun d hd => ⟨by rw [eF]; exact hd, by rw [e4]⟩) rfl (fun _ _ _ => rfl), by rw [e1]; exact d4, by rw [e1]; exact d5, by rw [e1]; exact d6, by rw [eF]; exact d7⟩
theorem exit_pp (hpp : p < 24) (hpr : p < PR) (fq : FQs (RRx p (SPs p)) PR Fv P Fv' P' m w) (nr : F m (pq p 9) ≠ 0 ∨ F m 1108 ≠ 0) (h21 : F m (pq p 9) = 3 → 0 ≤ F m (pq p 21) ∧ F m (pq p 21) ≤ 60) (hC : PK (fun m2 (_ : Int32) => DWc Fv P PR m2 ∧ CTX Fv P m2) (hb_Ma_goOn_219 N G m p))
    (kE : ∀ m2, FQs WTr PR Fv P Fv' P' m2 w → (m2 = m ∨ ∃ k z, m2 = s30 m p k z) → Q m2 (m.1 1106) w (w.1 165)) : PP Q (q67 Sf N G m p v3) (gg_M_go N (M2 + 1) w (I ((p : Nat) : Int))) := by
  obtain ⟨i, W, ⟨h956, h955⟩, ⟨h149, h150⟩, cn, wt⟩ := fq
  have r9 := F_r m (pq p 9)
  have r8 := F_r m 1108
  have a9 := A_r w 109 p
  have r1 := F_r w 151
  have lf : q67 Sf N G m p v3 = hb_Ma_goOn_219 N G m p := by
    unfold q67
    by_cases z : F m (pq p 9) = 0
    · have n8 : F m 1108 ≠ 0 := by omega
      rw [I_F' z, show decide (I 0 = 0) = true from rfl, br_tq, I_F (k := 1108), show decide (I (F m 1108) = 0) = false from by rw [show (0 : Int32) = I 0 from rfl, decE r8.1 r8.2 (by omega) (by omega)]; exact decide_eq_false n8, br_fq]
      cases decide ((1000000000 : Int32) ≤ v3) <;> rfl
    · rw [I_F (k := pq p 9), show decide (I (F m (pq p 9)) = 0) = false from by rw [show (0 : Int32) = I 0 from rfl, decE r9.1 r9.2 (by omega) (by omega)]; exact decide_eq_false z, br_fq]
      cases decide ((1000000000 : Int32) ≤ v3) <;> rfl
  have st : (F m (pq p 9) ≠ 3 ∧ SPs p m w) ∨ (F m (pq p 9) = 3 ∧ A w 109 p = 3) := by
    rcases W.2.2.1 p hpr with ⟨x1, x2, b, U, B, W4, Y, pl, sc, rr⟩ | ⟨x1, x2, -⟩
    · rcases rr with ⟨-, sp⟩ | ⟨e, -⟩
      · exact Or.inl ⟨x1, sp⟩
      · exact absurd rfl e
    · exact Or.inr ⟨x1, x2⟩
  have nw : A w 109 p ≠ 0 ∨ F w 151 ≠ 0 := by
    rcases st with ⟨-, sp⟩ | ⟨-, h⟩
    · rcases sp with ⟨j, nb, Hs, Os, y, a, n, h⟩ | ⟨j, nb, Hs, Os, sc, h⟩ | ⟨j, nb, Hs, Os, a, n, h⟩
      · exfalso
        obtain ⟨-, -, -, ⟨r5, -⟩, -, ⟨r8, -⟩, -⟩ := h
        omega
      · have := h.2.1.2
        exact Or.inl (by omega)
      · exact Or.inr h.2.2.2.2.1.2.2
    · exact Or.inl (by omega)
  have r243 : PP Q (hb_Ma_goOn_219 N G m p) (fb_M_go_243 N (gg_M_go N M2) w) := by
    unfold fb_M_go_243
    rw [ends_id h149 h150, bnd_so]
    intro m2 r w2 r2 e1 e2
    injection e2 with e2
    injection e2 with e3 e4
    subst e3
    subst e4
    have sc := hC m2 r e1
    have shape : (m2 = m ∨ ∃ j : Nat, F m (pq p 21) = ((j + 1 : Nat) : Int) ∧ j < 60 ∧ m2 = s30 m p (5 * j + 4) (m.1 1105)) ∧ r = m.1 1106 ∧ (0 < F m (pq p 21) → F m (pq p 21) ≤ 60 → ∃ j : Nat, F m (pq p 21) = ((j + 1 : Nat) : Int) ∧ m2 = s30 m p (5 * j + 4) (m.1 1105)) := by
      unfold hb_Ma_goOn_219 at e1
      by_cases z : F m (pq p 21) ≤ 0
      · have e : hm_Fr_setPlace N m p (m.1 1105) = some (m, ()) := by
          have r21 := F_r m (pq p 21)
          unfold hm_Fr_setPlace hb_Fr_setPlace_0 hm_Fr_set hb_Fr_set_0 hb_Fr_set_23
          rw [I_F (k := pq p 21), lit0q, decI r21.1 r21.2 (by decide) (by decide), decide_eq_true z, br_tq, bnd_so]
        rw [e, bnd_so] at e1
        injection e1 with e1
        injection e1 with e3 e4
        exact ⟨Or.inl e3.symm, by rw [← e4], fun h => by omega⟩
      · by_cases z6 : F m (pq p 21) ≤ 60
        · obtain ⟨jj, hj⟩ : ∃ jj : Nat, F m (pq p 21) = ((jj + 1 : Nat) : Int) := ⟨(F m (pq p 21)).toNat - 1, by omega⟩
          rw [setPlace_e hj (by omega), bnd_so] at e1
          injection e1 with e1
          injection e1 with e3 e4
          exact ⟨Or.inr ⟨jj, hj, by omega, e3.symm⟩, by rw [← e4]; rfl, fun _ _ => ⟨jj, hj, e3.symm⟩⟩
        · exfalso
          rcases st with ⟨x, sp⟩ | ⟨x, -⟩
          · obtain ⟨j, f1, f2, -⟩ := s30_wt sp nr
            omega
          · have := h21 x
            omega
    obtain ⟨sh, er, al⟩ := shape
    have sh' : m2 = m ∨ ∃ j : Nat, F m (pq p 21) = ((j + 1 : Nat) : Int) ∧ m2 = s30 m p (5 * j + 4) (m.1 1105) := by
      rcases sh with sh | ⟨j, h1, -, h2⟩
      · exact Or.inl sh
      · exact Or.inr ⟨j, h1, h2⟩
    have s2 : SFs Fv P Fv' P' PR m2 w := ⟨sc, W.1.2⟩
    have W2 := WL_rest W h955 nr sh' (fun x => by
      rcases st with ⟨-, sp⟩ | ⟨x3, -⟩
      · obtain ⟨j, f1, f2, -⟩ := s30_wt sp nr
        exact al (by omega) (by omega)
      · exact absurd x3 x) s2
    have e1' : m2.1 = m.1 := by
      rcases sh' with rfl | ⟨j, -, rfl⟩
      · rfl
      · rfl
    have eA : ∀ K, K < 2000 → m2.2.2.1 K = m.2.2.1 K := fun K hK => by
      rcases sh' with rfl | ⟨j, -, rfl⟩
      · rfl
      · exact s30_A (fun c => pq_n hK c)
    have eF : ∀ k, F m2 k = F m k := fun k => by show (m2.1 k).toInt = _; rw [e1']; rfl
    rw [er]
    refine kE m2 ⟨i, W2, ⟨by rw [eF]; exact h956, by rw [eF]; exact h955⟩, ⟨h149, h150⟩, ?_, WTs_st wt (by rw [e1']) (fun k hk => eA k (by omega)) rfl (fun _ _ => rfl)⟩ ?_
    · obtain ⟨n1, n2, n3, n4, n5, n6⟩ := cn
      refine ⟨fun t ht => ?_, n2, n3, n4, n5, fun t ht => by rw [eF]; exact n6 t ht⟩
      rw [show ATc m2 = ATc m from ATc_eq (eA 2 (by omega)) (eA 3 (by omega))]
      exact n1 t ht
    · rcases sh' with h | ⟨j, -, h⟩
      · exact Or.inl h
      · exact Or.inr ⟨_, _, h⟩
  rw [lf]
  show PP Q (hb_Ma_goOn_219 N G m p) (fb_M_go_199 N (gg_M_go N M2) w (I ((p : Nat) : Int)))
  unfold fb_M_go_199
  by_cases z : F w 151 = 0
  · rw [I_F' z, show decide (I 0 = 0) = true from rfl, br_tq]
    refine r_ck (fun _ => ?_)
    rw [tnI (n := p) rfl (by omega), I_A (k := 109), show decide (I (A w 109 p) = 0) = false from by rw [show (0 : Int32) = I 0 from rfl, decE a9.1 a9.2 (by omega) (by omega)]; exact decide_eq_false (by omega), br_fq]
    exact r243
  · rw [I_F (k := 151), show decide (I (F w 151) = 0) = false from by rw [show (0 : Int32) = I 0 from rfl, decE r1.1 r1.2 (by omega) (by omega)]; exact decide_eq_false z, br_fq]
    exact r243
end
end
section
set_option maxRecDepth 100000
abbrev TYc := Nat → Option (Nat × Nat × List Nat × Nat × Nat)
def FUs (m w : MS) : Prop := ∀ u : Nat, ((u : Nat) : Int) < F m 449 → u < 400 ∧ ∃ (ar e ad L c : Nat) (H : List Nat), A m 30 u = ((ar : Nat) : Int) ∧ A m 31 u = ((e : Nat) : Int) ∧ A m 32 u = ((ad : Nat) : Int) ∧ A m 23 ad = ((L : Nat) : Int) ∧ ad + 1 + L < 24000 ∧ H.length = L ∧ (∀ i x : Nat, H[i]? = some x → A m 23 (ad + 1 + i) = ((x : Nat) : Int)) ∧ H.Nodup ∧ A w 53 u = ((c : Nat) : Int) ∧ c < 100000 ∧ A w 41 c = ((ar : Nat) : Int) ∧ A w 54 u = ((L : Nat) : Int) ∧ ∃ g g2, ZRs (A m 23) (ROs w) (w.2.2.2 34) (CRs (A m 23) (ROs w) (w.2.2.2 34) g) 0 0 H [] g2 e ((c : Nat) : Int)
def FAr (m w : MS) : Prop := ∀ f : Nat, ((f : Nat) : Int) < F m 442 → A m 25 f = A w 48 f
def CLk (m w : MS) : Prop := m.1 944 = w.1 120 ∧ 0 ≤ F w 120
theorem CLk_st {m w m2 w2 : MS} (h : CLk m w) (e1 : m2.1 944 = m.1 944) (e2 : w2.1 120 = w.1 120) : CLk m2 w2 := by
  refine ⟨by rw [e1, e2]; exact h.1, ?_⟩
  show 0 ≤ (w2.1 120).toInt
  rw [e2]
  exact h.2
def TBs (m w : MS) : Prop := (FTs m w ∧ FAr m w ∧ FUs m w) ∧ PNx m w ∧ (CLk m w ∧ m.1 945 = w.1 121 ∧ m.1 946 = w.1 119) ∧ m.1 1106 = w.1 165 ∧ ∃ fa na, ATf m w fa na
section
variable {m w m2 w2 : MS} {p : Nat}
theorem TB_tab (h : FTs m w ∧ FAr m w ∧ FUs m w) (e1 : m2.1 442 = m.1 442 ∧ m2.1 449 = m.1 449) (e2 : ∀ K, K = 23 ∨ K = 25 ∨ K = 29 ∨ K = 30 ∨ K = 31 ∨ K = 32 → m2.2.2.1 K = m.2.2.1 K) (e3 : ∀ K, PRr K → w2.2.2.1 K = w.2.2.1 K) (e4 : w2.2.2.2 34 = w.2.2.2 34) : FTs m2 w2 ∧ FAr m2 w2 ∧ FUs m2 w2 := by
  obtain ⟨t1, t2, t3⟩ := h
  have f1 : F m2 442 = F m 442 := congrArg Int32.toInt e1.1
  have f2 : F m2 449 = F m 449 := congrArg Int32.toInt e1.2
  have am : ∀ K i, K = 23 ∨ K = 25 ∨ K = 29 ∨ K = 30 ∨ K = 31 ∨ K = 32 → A m2 K i = A m K i := fun K i h => by show (m2.2.2.1 K i).toInt = _; rw [e2 K h]; rfl
  have aw : ∀ K i, PRr K → A w2 K i = A w K i := fun K i h => by show (w2.2.2.1 K i).toInt = _; rw [e3 K h]; rfl
  have h23 : A m2 23 = A m 23 := funext fun i => am 23 i (by omega)
  have ro := ROs_eq e3
  refine ⟨fun f hf => ?_, fun f hf => ?_, fun u hu => ?_⟩
  · rw [f1] at hf
    obtain ⟨a1, e, c, a2, a3, a4⟩ := t1 f hf
    exact ⟨a1, e, c, by rw [am 29 f (by omega)]; exact a2, by rw [aw 50 f (by unfold PRr; omega)]; exact a3, by rw [h23, ro, e4]; exact a4⟩
  · rw [f1] at hf
    rw [am 25 f (by omega), aw 48 f (by unfold PRr; omega)]
    exact t2 f hf
  · rw [f2] at hu
    obtain ⟨a0, ar, e, ad, L, c, H, a1, a2, a3, a4, a5, a6, a7, a8, a9, a10, a11, a12, a13⟩ := t3 u hu
    exact ⟨a0, ar, e, ad, L, c, H, by rw [am 30 u (by omega)]; exact a1, by rw [am 31 u (by omega)]; exact a2, by rw [am 32 u (by omega)]; exact a3, by rw [h23]; exact a4, a5, a6, fun i x hx => by rw [h23]; exact a7 i x hx, a8, by rw [aw 53 u (by unfold PRr; omega)]; exact a9, a10, by rw [aw 41 c (by unfold PRr; omega)]; exact a11, by rw [aw 54 u (by unfold PRr; omega)]; exact a12, by rw [h23, ro, e4]; exact a13⟩
theorem PN_st (h : PNx m w) (e1 : m2.1 953 = m.1 953) (e2 : ∀ K, K = 52 ∨ K = 53 → m2.2.2.1 K = m.2.2.1 K) (e3 : w2.1 128 = w.1 128) (e4 : ∀ K, K = 126 ∨ K = 127 → w2.2.2.1 K = w.2.2.1 K) : PNx m2 w2 := by
  refine ⟨by rw [e1, e3]; exact h.1, fun l hl => ?_⟩
  have hl' : ((l : Nat) : Int) < F m 953 := by
    rw [show F m2 953 = F m 953 from congrArg Int32.toInt e1] at hl
    exact hl
  obtain ⟨b1, b2⟩ := h.2 l hl'
  refine ⟨by rw [e2 53 (by omega), e4 127 (by omega)]; exact b1, fun i hi => ?_⟩
  rw [e2 52 (by omega), e4 126 (by omega)]
  refine b2 i ?_
  rw [show A m2 53 l = A m 53 l from by show (m2.2.2.1 53 l).toInt = _; rw [e2 53 (by omega)]; rfl] at hi
  exact hi
theorem TB_gg (h : TBs m w) (f : GGm p m m2) (g : GGw p w w2) : TBs m2 w2 := by
  obtain ⟨t1, t2, ⟨t3, t4, t5⟩, t6, fa, na, t7⟩ := h
  have fi := f.2.2.2.2.2.2
  have fA := f.2.2.2.2.2.1
  have gi := g.2.2.2.2.2.2
  have gA := g.2.2.2.2.2.1
  exact ⟨TB_tab t1 ⟨fi 442 (by omega), fi 449 (by omega)⟩ (fun K h => fA K (by omega)) g.2.1.1 g.2.1.2.1, PN_st t2 (fi 953 (by omega)) (fun K h => fA K (by omega)) (gi 128 (by omega)) (fun K h => gA K (by omega)), ⟨CLk_st t3 (fi 944 (by omega)) (gi 120 (by omega)), by rw [fi 945 (by omega), gi 121 (by omega)]; exact t4, by rw [fi 946 (by omega), gi 119 (by omega)]; exact t5⟩, by rw [fi 1106 (by omega), gi 165 (by omega)]; exact t6, fa, na, ATf_k t7 (fi 22 (by omega)) (fA 2 (by omega)) (fA 3 (by omega)) (gi 14 (by omega)) (gA 12 (by omega)) (gA 13 (by omega))⟩
theorem TB_eg (h : TBs m w) (f : EGm m m2) (g : EGw w w2) (h34 : w2.2.2.2 34 = w.2.2.2 34) : TBs m2 w2 := by
  obtain ⟨t1, t2, ⟨t3, t4, t5⟩, t6, fa, na, t7⟩ := h
  have fi := f.2
  have fA := f.1
  have gi := g.2
  have gA := g.1
  exact ⟨TB_tab t1 ⟨fi 442 (by omega) (by omega), fi 449 (by omega) (by omega)⟩ (fun K h => fA K (by omega) (by omega)) (fun K h => gA K (by unfold PRr at h; omega)) h34, PN_st t2 (fi 953 (by omega) (by omega)) (fun K h => fA K (by omega) (by omega)) (gi 128 (by omega)) (fun K h => gA K (by omega)), ⟨CLk_st t3 (fi 944 (by omega) (by omega)) (gi 120 (by omega)), by rw [fi 945 (by omega) (by omega), gi 121 (by omega)]; exact t4, by rw [fi 946 (by omega) (by omega), gi 119 (by omega)]; exact t5⟩, by rw [fi 1106 (by omega) (by omega), gi 165 (by omega)]; exact t6, fa, na, ATf_k t7 (fi 22 (by omega) (by omega)) (fA 2 (by omega) (by omega)) (fA 3 (by omega) (by omega)) (gi 14 (by omega)) (gA 12 (by omega)) (gA 13 (by omega))⟩
theorem TB_en (h : TBs m w) (f : WFR m m2) (g : FR [125, 136, 138, 140, 144, 149, 150] [139] [89, 90, 108, 109, 113, 116, 117, 122, 123, 124, 131, 132, 135, 142, 143, 145, 146, 147] [88, 91, 93, 107, 134, 137, 141, 148] w w2) : TBs m2 w2 := by
  obtain ⟨t1, t2, ⟨t3, t4, t5⟩, t6, fa, na, t7⟩ := h
  have fi : ∀ k, k < 2000 → k ≠ 950 → k ≠ 955 → k ≠ 956 → m2.1 k = m.1 k := fun k h1 h2 h3 h4 => f.2.1 k h1 (by simp; omega)
  have fA : ∀ K, K < 49 ∨ K = 52 ∨ K = 53 → m2.2.2.1 K = m.2.2.1 K := fun K h => f.2.2.2.1 K (by omega) (by simp; omega)
  exact ⟨TB_tab t1 ⟨fi 442 (by omega) (by omega) (by omega) (by omega), fi 449 (by omega) (by omega) (by omega) (by omega)⟩ (fun K h => fA K (by omega)) (fun K h => g.2.2.1 K (by unfold PRr at h; simp; omega)) (g.2.2.2 34 (by simp)), PN_st t2 (fi 953 (by omega) (by omega) (by omega) (by omega)) (fun K h => fA K (by omega)) (g.1 128 (by simp)) (fun K h => g.2.2.1 K (by simp; omega)), ⟨CLk_st t3 (fi 944 (by omega) (by omega) (by omega) (by omega)) (g.1 120 (by simp)), by rw [fi 945 (by omega) (by omega) (by omega) (by omega), g.1 121 (by simp)]; exact t4, by rw [fi 946 (by omega) (by omega) (by omega) (by omega), g.1 119 (by simp)]; exact t5⟩, by rw [fi 1106 (by omega) (by omega) (by omega) (by omega), g.1 165 (by simp)]; exact t6, fa, na, ATf_k t7 (fi 22 (by omega) (by omega) (by omega) (by omega)) (fA 2 (by omega)) (fA 3 (by omega)) (g.1 14 (by simp)) (g.2.2.1 12 (by simp)) (g.2.2.1 13 (by simp))⟩
end
def PWs (AN : Nat) (t : Int64) : Prop := so t = 0 ∨ so t = 2 ∨ so t = 6 ∨ so t = 4 ∨ (so t = 1 ∧ 0 ≤ va t ∧ va t < AN)
theorem PW_q {AN PR : Nat} : ∀ t, PQ AN PR t → PWs AN t := fun t h => by
  rcases h with h | h | h | h | h
  · exact Or.inl h
  · exact Or.inr (Or.inl h)
  · exact Or.inr (Or.inr (Or.inl h))
  · exact Or.inr (Or.inr (Or.inr (Or.inr h)))
  · exact Or.inr (Or.inr (Or.inr (Or.inl h.1)))
theorem PB_mo {P P2 : Int64 → Prop} {PR : Nat} (hP : ∀ t, P t → P2 t) (h : PB P PR) : PB P2 PR := ⟨fun a h1 h2 => hP _ (h.1 a h1 h2), fun p h1 => hP _ (h.2.1 p h1), fun r h1 h2 => hP _ (h.2.2.1 r h1 h2), fun r h1 h2 => hP _ (h.2.2.2.1 r h1 h2), hP _ h.2.2.2.2⟩
theorem DW_mo {Fv : Int64 → Int64 → Prop} {P P2 : Int64 → Prop} {PR : Nat} {w : MS} (hP : ∀ t, P t → P2 t) (d : DW Fv P PR w) : DW Fv P2 PR w := by
  obtain ⟨d1, d2, ⟨n4, ow4, kd4, d3a, d3b, d3c⟩, d4, ⟨eF, eM, e1, e2, e3, e4, e5⟩, d6⟩ := d
  refine ⟨d1, fun q hq => ?_, ⟨n4, ow4, kd4, d3a, d3b, HP_mo hP d3c⟩, d4, ⟨eF, eM, e1, e2, e3, e4, fun i h1 h2 => ?_⟩, d6⟩
  · obtain ⟨n, ow, kd, a, b, c, h1, h2⟩ := d2 q hq
    exact ⟨n, ow, kd, a, b, c, h1, CX_mo hP h2⟩
  · obtain ⟨f1, f2, f3, f4⟩ := e5 i h1 h2
    refine ⟨f1, f2, f3, ?_⟩
    rcases f4 with f4 | ⟨g1, g2, g3⟩
    · exact Or.inl ⟨f4.1, hP _ f4.2⟩
    · exact Or.inr ⟨g1, g2, GTP_mo hP g3⟩
def SIA (T : TYc) (Fv : Int64 → Int64 → Prop) (P : Int64 → Prop) (Fv' : Int64 → Int64 → Prop) (AN : Nat) (TT : TY) (CC : CY) (pM pE : Nat → Nat) (ND CN PN SN UN FN p v : Nat) (m w : MS) : Prop := ∃ PR f mu, p < PR ∧ (f + v ≤ 900000000 ∧ LPQ T Fv P PR p f m) ∧ (ALT Fv' (PQ AN PR) PR TT CC ND CN p mu w ∧ WLD w TT ND UN FN PR p ∧ PER Fv' AN TT CC pM pE ND CN PN SN UN FN w) ∧ FQs (RRx p (SPs p)) PR Fv P Fv' (PWs AN) m w ∧ TBs m w
def SAf (T : TYc) (Fv : Int64 → Int64 → Prop) (P : Int64 → Prop) (p : Nat) (u : MS) (v : Int32) : Prop := ∃ PR c k : Nat, v = I ((k : Nat) : Int) ∧ c + k + 1 ≤ 900000000 ∧ OPQ T Fv P PR p c u
section
variable {T : TYc} {Fv Fv' : Int64 → Int64 → Prop} {P : Int64 → Prop} {AN : Nat} {TT : TY} {CC : CY} {pM pE : Nat → Nat} {ND CN PN SN UN FN N PR p i v mu M1 M2 : Nat} {m w m3 w3 : MS} {Q : MS → Int32 → MS → Int32 → Prop}
theorem OPQ_d {c : Nat} (o : OPQ T Fv P PR p c m) (h9 : F m 1109 = 0) : DWc Fv P PR m ∧ CTX Fv P m ∧ LPQ T Fv P PR p c m := by
  rcases o with o | o | o | o
  · obtain ⟨⟨i, h, mm, L, g, x, j, wb, nb, cb, rk, M, -⟩, -⟩ := id o
    exact ⟨M.1.1, M.1.2.1, Or.inl o⟩
  · exfalso
    obtain ⟨u, how, ar, t, -, -, -, -, hh, ha, rfl⟩ := o
    have e : F (wi (wi u 1109 how) 1111 ar) 1109 = 0 := h9
    rw [F_wi (by omega) (by omega), if_neg (by decide), F_wi (by omega) (by omega), if_pos rfl] at e
    omega
  · exact ⟨o.1.1, o.1.2.1, Or.inr (Or.inl o)⟩
  · exact ⟨o.1.1, o.1.2.1, Or.inr (Or.inr o)⟩
theorem OPQ_e {c : Nat} (o : OPQ T Fv P PR p c m) (h3 : F m (pq p 9) = 3) : DWc Fv P PR m ∧ CTX Fv P m ∧ LPQ T Fv P PR p c m ∧ F m 1109 = 0 := by
  rcases o with o | o | o | o
  · obtain ⟨⟨i, h, mm, L, g, x, j, wb, nb, cb, rk, M, -⟩, -⟩ := id o
    have := M.2.1
    omega
  · exfalso
    obtain ⟨u, how, ar, t, ⟨i, h, mm, L, g, x, j, wb, nb, cb, rk, M, -⟩, -, -, -, hh, ha, rfl⟩ := o
    have e : F (wi (wi u 1109 how) 1111 ar) (pq p 9) = 3 := h3
    rw [wi_ne (fun c => pq_n (by omega) c.symm), wi_ne (fun c => pq_n (by omega) c.symm)] at e
    have := M.2.1
    omega
  · exact ⟨o.1.1, o.1.2.1, Or.inr (Or.inl o), o.2.2.1⟩
  · exfalso
    exact o.2.1.1 h3
theorem CN_pg {P' : Int64 → Prop} (c : CNq P P' m w) (pg : PG0 m w m3 w3) (at3 : ATM w3) : CNq P P' m3 w3 := by
  obtain ⟨n1, n2, n3, n4, n5, n6⟩ := c
  obtain ⟨⟨-, g2, g3⟩, -, -, g6, g7, g8⟩ := pg
  have e14 : F w3 14 = F w 14 := congrArg Int32.toInt g8
  have e22 : F m3 22 = F m 22 := congrArg Int32.toInt g2
  have eA := ATr_eq g6 g7
  exact ⟨fun t ht => by rw [g3, eA]; exact n1 t (by rw [← e14]; exact ht), at3, by rw [e14]; exact n3, fun a ha => by rw [eA]; exact n4 a ha, fun t ht => by rw [e14]; exact n5 t ht, fun t ht => by rw [e22]; exact n6 t ht⟩
theorem aft_on (hN : 11000000 ≤ N) (per : PER Fv' AN TT CC pM pE ND CN PN SN UN FN w) (ih : ∀ M1 v m w, SIA T Fv P Fv' AN TT CC pM pE ND CN PN SN UN FN p v m w → PP Q (qgo (SAf T Fv P p) N M1 m p (I ((v : Nat) : Int))) (gg_M_go N M2 w (I ((p : Nat) : Int))))
    (hpp : p < PR) (hv : v < 2000000000) (n942 : F m3 942 = ((PR : Nat) : Int)) (n118 : F w3 118 = ((PR : Nat) : Int)) (h9 : F m3 1109 = 0 ∨ F m3 (pq p 9) = 3) (W : SFs Fv P Fv' (PWs AN) PR m3 w3 → WLs (RRx p (SPs p)) PR Fv P Fv' (PWs AN) none i 0 m3 w3) (h956 : F m3 956 = ((i : Nat) : Int)) (h149 : F w 149 = 0) (cn : ATM w3 → CNq P (PWs AN) m3 w3) (wt : WTs PR m3 w3) (tb : TBs m3 w3) :
    PP Q (q195 (SAf T Fv P p) N (qgo (SAf T Fv P p) N M1) m3 p (I ((v : Nat) : Int))) (rsc (RSW Fv' AN TT CC ND CN UN FN p mu w w3) (bnd (fm_M_allEnds N w3) (fun u _ => gg_M_go N M2 u (I ((p : Nat) : Int))))) ∧ PP Q (q206 (SAf T Fv P p) N (qgo (SAf T Fv P p) N M1) m3 p (I ((v : Nat) : Int))) (rsc (RSW Fv' AN TT CC ND CN UN FN p mu w w3) (bnd (fm_M_allEnds N w3) (fun u _ => gg_M_go N M2 u (I ((p : Nat) : Int))))) := by
  have core : SAf T Fv P p m3 (I ((v : Nat) : Int)) → F m3 1109 = 0 ∧ PP Q (q206 (SAf T Fv P p) N (qgo (SAf T Fv P p) N M1) m3 p (I ((v : Nat) : Int))) (rsc (RSW Fv' AN TT CC ND CN UN FN p mu w w3) (bnd (fm_M_allEnds N w3) (fun u _ => gg_M_go N M2 u (I ((p : Nat) : Int))))) := fun hs => by
    obtain ⟨PR2, c, k, ek, hk, o⟩ := hs
    have ev : v = k := by
      have := congrArg Int32.toInt ek
      rw [I_ti (by omega) (by omega), I_ti (by omega) (by omega)] at this
      omega
    subst ev
    obtain ⟨dc, cx, lp, t9⟩ : DWc Fv P PR2 m3 ∧ CTX Fv P m3 ∧ LPQ T Fv P PR2 p c m3 ∧ F m3 1109 = 0 := by
      rcases h9 with h | h
      · obtain ⟨a1, a2, a3⟩ := OPQ_d o h
        exact ⟨a1, a2, a3, h⟩
      · exact OPQ_e o h
    refine ⟨t9, pp_clr (fun rs => ?_)⟩
    obtain ⟨PR', hp', al, wd, gf⟩ := rs
    obtain ⟨mu2, al2⟩ : ∃ mu2, ALT Fv' (PQ AN PR') PR' TT CC ND CN p mu2 w3 := by
      rcases al with al | al | al | ⟨mm, h1, h2⟩
      · exact ⟨0, Or.inl al⟩
      · exact ⟨0, Or.inr (Or.inl al)⟩
      · exact ⟨0, Or.inr (Or.inr (Or.inl al))⟩
      · exact ⟨mm + 1, Or.inr (Or.inr (Or.inr ⟨mm, by omega, h2⟩))⟩
    have dw := ALT_dw al2
    have per3 : PER Fv' AN TT CC pM pE ND CN PN SN UN FN w3 := PER_fr per gf (by decide) (by decide)
    have e2 : PR2 = PR := by
      have := dc.1.1.1
      omega
    subst e2
    have e3 : PR' = PR2 := by
      have := dw.1.1
      omega
    subst e3
    have pb := PQ_b per3.2.2.2.2.1 dw.1.2
    have s3 : SFs Fv P Fv' (PWs AN) PR' m3 w3 := ⟨⟨dc, cx⟩, ⟨DW_mo PW_q dw, wd.1, wd.2.1⟩, PB_mo PW_q pb⟩
    have h149' : F w3 149 = 0 := by rw [FR.F gf (by decide)]; exact h149
    refine aft_206 (W s3) h956 h149' (cn per3.2.2.1) wt (by omega) (fun m4 w4 _ e1 e2 fq _ _ => ?_)
    have wq := pk_ok (settle_ok (N := N) dc cx (by omega)) m4 () e1
    have ae := pk_ok (ae_step (N := N) per3 al2 wd hN) w4 () e2
    have fr := pk_ok (allEnds_ok (N := N) pb PQ_s hN ⟨dw, wd.1, wd.2.1⟩ per3.2.2.1 (PER_pa per3)) w4 () e2
    exact ih M1 (v + 1) m4 w4 ⟨PR', c, mu2, hpp, ⟨by omega, LPQ_w lp wq⟩, ⟨ae.1, ae.2.1, PER_g per3 ae.2.2.2.2.2.2⟩, fq, TB_en tb wq.2.1 fr.2.1⟩
  constructor
  · unfold q195
    refine pp_cll (fun hs => ?_)
    obtain ⟨t9, h⟩ := core hs
    rw [I_F' t9, show decide (I 0 = 0) = true from rfl, br_tq]
    exact h
  · unfold q206
    refine pp_cll (fun hs => ?_)
    have h := (core hs).2
    unfold q206 at h
    rw [rsc_t hs] at h
    exact h
def BAs (Fv : Int64 → Int64 → Prop) (P : Int64 → Prop) (Fv' : Int64 → Int64 → Prop) (P' : Int64 → Prop) (PR p i : Nat) (m w : MS) : Prop := p < PR ∧ WLs (RRt p) PR Fv P Fv' P' none i 0 m w ∧ (F m 955 = ((i : Nat) : Int) ∧ F m 956 = ((i : Nat) : Int)) ∧ (F w 149 = 0 ∧ F w 150 = 0) ∧ CNq P P' m w ∧ WTs PR m w ∧ TBs m w ∧ (F m (pq p 9) ≠ 3 ∧ A w 109 p ≠ 3) ∧ (F m 942 = ((PR : Nat) : Int) ∧ F w 118 = ((PR : Nat) : Int))
theorem aft_gg {b : Int → Nat → Nat → Prop} {U B W Y : Nat} {w0 : MS} (hN : 11000000 ≤ N) (per : PER Fv' AN TT CC pM pE ND CN PN SN UN FN w0) (h149 : F w0 149 = 0) (ih : ∀ M1 v m w, SIA T Fv P Fv' AN TT CC pM pE ND CN PN SN UN FN p v m w → PP Q (qgo (SAf T Fv P p) N M1 m p (I ((v : Nat) : Int))) (gg_M_go N M2 w (I ((p : Nat) : Int))))
    (ba : BAs Fv P Fv' (PWs AN) PR p i m w) (hv : v < 2000000000) (gm : GGm p m m3) (gw : GGw p w w3) (pl : PLs b p m3 w3 U B W Y) (sc : SCs p m w → SCs p m3 w3) (sp : SPs p m3 w3) (al : F m3 (pq p 9) ≠ 3 ∧ A w3 109 p ≠ 3) (h9 : F m3 1109 = 0) :
    PP Q (q195 (SAf T Fv P p) N (qgo (SAf T Fv P p) N M1) m3 p (I ((v : Nat) : Int))) (rsc (RSW Fv' AN TT CC ND CN UN FN p mu w0 w3) (bnd (fm_M_allEnds N w3) (fun u _ => gg_M_go N M2 u (I ((p : Nat) : Int))))) ∧ PP Q (q206 (SAf T Fv P p) N (qgo (SAf T Fv P p) N M1) m3 p (I ((v : Nat) : Int))) (rsc (RSW Fv' AN TT CC ND CN UN FN p mu w0 w3) (bnd (fm_M_allEnds N w3) (fun u _ => gg_M_go N M2 u (I ((p : Nat) : Int))))) := by
  obtain ⟨hpp, W, ⟨h955, h956⟩, -, cn, wt, tb, ⟨hal, hal'⟩, n1, n2⟩ := ba
  have fi := gm.2.2.2.2.2.2
  have fA := gm.2.2.2.2.2.1
  have gi := gw.2.2.2.2.2.2
  have gA := gw.2.2.2.2.2.1
  have scp : SCs p m w := by
    rcases W.2.2.1 p hpp with ⟨-, -, _, _, _, _, _, _, s, -⟩ | ⟨x, -⟩
    · exact s
    · exact absurd x hal
  refine aft_on (i := i) hN per ih hpp hv ?_ ?_ (Or.inl h9) (fun s3 => WL_q (WL_ownt W hpp hal hal' s3 gm gw pl (sc scp) al) (fun _ => sp)) ?_ h149 (fun a3 => CN_pg cn (PG0_gg gm gw) a3) (WTs_st wt (fi 950 (by omega)) (fun k hk => fA k (by omega)) (gi 125 (by omega)) (fun k hk => gA k (by omega))) (TB_gg tb gm gw)
  · rw [← n1]
    exact congrArg Int32.toInt (fi 942 (by omega))
  · rw [← n2]
    exact congrArg Int32.toInt (gi 118 (by omega))
  · rw [← h956]
    exact congrArg Int32.toInt gm.2.2.2.2.1
theorem aft_end {w0 : MS} {wr : Int} {t x : Int64} {ee ee' : Nat} (hN : 11000000 ≤ N) (per : PER Fv' AN TT CC pM pE ND CN PN SN UN FN w0) (h149 : F w0 149 = 0) (ih : ∀ M1 v m w, SIA T Fv P Fv' AN TT CC pM pE ND CN PN SN UN FN p v m w → PP Q (qgo (SAf T Fv P p) N M1 m p (I ((v : Nat) : Int))) (gg_M_go N M2 w (I ((p : Nat) : Int))))
    (ba : BAs Fv P Fv' (PWs AN) PR p i m w) (hv : v < 2000000000) (gm : GGm p m m3) (gw : GGw p w w3) (sc : SCs p m w → SCs p m3 w3) (h5 : m3.1 (pq p 5) = w3.2.2.1 90 p) (hee : F m 955 = ((ee : Nat) : Int) ∧ ee < 24) (hee' : F w 150 = ((ee' : Nat) : Int) ∧ ee' < 4000) (hw : wr = 0 ∨ wr = 1 ∨ wr = 2) (rq : RQs Fv P Fv' (PWs AN) PR (enS m3 p t p ee) (enR w3 p wr ((p : Nat) : Int) x ee') p wr p x) :
    PP Q (q195 (SAf T Fv P p) N (qgo (SAf T Fv P p) N M1) (enS m3 p t p ee) p (I ((v : Nat) : Int))) (rsc (RSW Fv' AN TT CC ND CN UN FN p mu w0 (wi (enR w3 p wr ((p : Nat) : Int) x ee') 151 1)) (bnd (fm_M_allEnds N (wi (enR w3 p wr ((p : Nat) : Int) x ee') 151 1)) (fun u _ => gg_M_go N M2 u (I ((p : Nat) : Int))))) ∧ PP Q (q206 (SAf T Fv P p) N (qgo (SAf T Fv P p) N M1) (enS m3 p t p ee) p (I ((v : Nat) : Int))) (rsc (RSW Fv' AN TT CC ND CN UN FN p mu w0 (wi (enR w3 p wr ((p : Nat) : Int) x ee') 151 1)) (bnd (fm_M_allEnds N (wi (enR w3 p wr ((p : Nat) : Int) x ee') 151 1)) (fun u _ => gg_M_go N M2 u (I ((p : Nat) : Int))))) := by
  obtain ⟨hpp, W, ⟨h955, h956⟩, -, cn, wt, tb, ⟨hal, hal'⟩, n1, n2⟩ := ba
  have p24 := W.1.2.1.1.1.2
  have fi := gm.2.2.2.2.2.2
  have fA := gm.2.2.2.2.2.1
  have gi := gw.2.2.2.2.2.2
  have gA := gw.2.2.2.2.2.1
  have scp : SCs p m w := by
    rcases W.2.2.1 p hpp with ⟨-, -, _, _, _, _, _, _, s, -⟩ | ⟨x, -⟩
    · exact s
    · exact absurd x hal
  have v := enS_v (m := m3) (q := p) (t := t) (hm := p) (e := ee)
  have e1 : ∀ k, k < 2000 → k ≠ 955 → (enS m3 p t p ee).1 k = m3.1 k := fun k h1 h2 => enS_1 (pq_n h1) (pq_n h1) h2
  have eA : ∀ K, K ≠ 54 → (enS m3 p t p ee).2.2.1 K = m3.2.2.1 K := fun K h => enS_3 h
  have fr := enR_fr (w := w3) (q := p) (wr := wr) (o := p) (x := x) (e := ee')
  have fr2 : FR [150, 151] [] [109, 145, 146, 147] [148] w3 (wi (enR w3 p wr ((p : Nat) : Int) x ee') 151 1) := FR.wi (FR.mo fr (by simp) (by simp) (by simp) (by simp)) (by simp)
  have eg1 : EGm m3 (enS m3 p t p ee) := ⟨fun K _ h => eA K h, fun k h1 h2 => e1 k (by omega) h2⟩
  have eg2 : EGw w3 (wi (enR w3 p wr ((p : Nat) : Int) x ee') 151 1) := ⟨fun K h => fr2.2.2.1 K (by simp; omega), fun k h => fr2.1 k (by simp; omega)⟩
  have pg : PG0 m3 w3 (enS m3 p t p ee) (wi (enR w3 p wr ((p : Nat) : Int) x ee') 151 1) := ⟨⟨eA 23 (by omega), e1 22 (by omega) (by omega), ATc_eq (eA 2 (by omega)) (eA 3 (by omega))⟩, fun K hK => fr2.2.2.1 K (by unfold PRr at hK; simp; omega), fr2.2.2.2 34 (by simp), fr2.2.2.1 12 (by simp), fr2.2.2.1 13 (by simp), fr2.1 14 (by simp)⟩
  refine aft_on (i := i) hN per ih hpp hv ?_ ?_ (Or.inr v.1) (fun s3 => ?_) ?_ h149 (fun a3 => CN_pg cn (PG0.tr (PG0_gg gm gw) pg) a3) (WTs_st wt ((e1 950 (by omega) (by omega)).trans (fi 950 (by omega))) (fun k hk => (eA k (by omega)).trans (fA k (by omega))) ((fr2.1 125 (by simp)).trans (gi 125 (by omega))) (fun k hk => (fr2.2.2.1 k (by simp; omega)).trans (gA k (by omega)))) (TB_eg (TB_gg tb gm gw) eg1 eg2 (fr2.2.2.2 34 (by simp)))
  · rw [← n1]
    exact congrArg Int32.toInt ((e1 942 (by omega) (by omega)).trans (fi 942 (by omega)))
  · rw [← n2]
    exact congrArg Int32.toInt ((fr2.1 118 (by simp)).trans (gi 118 (by omega)))
  · have rg : RGw (enR w3 p wr ((p : Nat) : Int) x ee') (wi (enR w3 p wr ((p : Nat) : Int) x ee') 151 1) := FR.wi FR.rf (by simp)
    have rgb : RGw (wi (enR w3 p wr ((p : Nat) : Int) x ee') 151 1) (enR w3 p wr ((p : Nat) : Int) x ee') := ⟨fun k hk => (if_neg (fun c => hk (by rw [c]; simp))).symm, fun _ _ => rfl, fun _ _ => rfl, fun _ _ => rfl⟩
    have s2 : SFs Fv P Fv' (PWs AN) PR (enS m3 p t p ee) (enR w3 p wr ((p : Nat) : Int) x ee') := by
      obtain ⟨⟨d, cx⟩, ⟨dw, lk, wq⟩, pb⟩ := s3
      refine ⟨⟨d, cx⟩, ⟨?_, ?_, ?_⟩, pb⟩
      · exact DW_fr dw rgb (by simp) (by simp) (by simp) (by simp) (by simp) (by simp) (by simp) (by simp) (by simp) (by simp) (by simp) (by simp) (by simp) (by simp) (by simp) (by simp) (by simp)
      · exact LK_fr lk rgb (by simp) (by simp)
      · exact WTQ_fr wq rgb (by simp) (by simp) (by simp)
    have e15 : F (enS m3 p t p ee) (pq p 15) = F m3 (pq p 15) := congrArg Int32.toInt (enS_1 (pq_inj (by omega)) (pq_inj (by omega)) (fun c => pq_n (by omega) c.symm))
    have b15 : 0 ≤ F m3 (pq p 15) ∧ F m3 (pq p 15) ≤ 24 := by
      have := (s3.1.1.2 p hpp).1.1
      omega
    have W2 := WL_end2 (wr := wr) W hpp ⟨hal, hal'⟩ (fun c => by cases c) gm gw (sc scp) b15 h5 hee hee' ⟨by omega, by omega⟩ (by omega) s2 rq
    exact WL_q (WL_reg W2 FR.rf rg) (fun h => absurd v.1 h)
  · rw [← h956]
    exact congrArg Int32.toInt ((e1 956 (by omega) (by omega)).trans gm.2.2.2.2.1)
end
end
section
set_option maxRecDepth 100000
section
variable {Fv Fv' : Int64 → Int64 → Prop} {P P' : Int64 → Prop} {PR p i j0 : Nat} {m w : MS} {RR : Nat → MS → MS → Prop} {cur : Option Nat} {x1 x2 : Int}
theorem WL_946 (W0 : WLs RR PR Fv P Fv' P' cur i j0 m w) : WLs RR PR Fv P Fv' P' cur i j0 (wi m 946 x1) (wi w 119 x2) := by
  obtain ⟨⟨d, cx⟩, ⟨dw, lk, wt⟩, pb⟩ := W0.1
  have f1 : FR [946] [] [] [] m (wi m 946 x1) := FR.wi FR.rf (by simp)
  have f2 : FR [119] [] [] [] w (wi w 119 x2) := FR.wi FR.rf (by simp)
  have fc : FC 0 [946] [] [] [] [] [] [] m (wi m 946 x1) := FC.of f1 (by simp) (by simp) (by simp) (by simp)
  have d2 : DWc Fv P PR (wi m 946 x1) := DWc_gl d fc (by simp) (by simp) (fun h0 => by
    have := (d.2 0 h0).1
    unfold SMQ at this ⊢
    rw [fc.Fq (by omega) (by simp), fc.Fq (by omega) (by simp), fc.Fq (by omega) (by simp), fc.Fq (by omega) (by simp)]
    exact this) (by simp) (by rw [fc.Fg (by omega) (by simp)]; exact d.1.2.2.1) (by rw [fc.Fg (by omega) (by simp)]; exact ⟨d.1.2.2.2.1.2.1, d.1.2.2.2.1.2.2⟩) (by simp)
  have lm : ∀ d, LOCm d m (wi m 946 x1) := fun d k hk => ⟨wi_1 (fun c => pq_n (by omega) c.symm), rfl, rfl, rfl⟩
  have lw : ∀ d, LOCw d w (wi w 119 x2) := fun d => ⟨fun _ _ _ => rfl, fun _ _ => rfl, fun _ _ _ => rfl, rfl, fun _ _ _ => rfl, fun _ _ _ => rfl, fun _ _ _ => rfl, fun _ _ _ => rfl⟩
  exact WL_same W0 ⟨⟨d2, CTX_fr cx (f1.1 22 (by simp)) rfl⟩, ⟨DW_fr dw f2 (by simp) (by simp) (by simp) (by simp) (by simp) (by simp) (by simp) (by simp) (by simp) (by simp) (by simp) (by simp) (by simp) (by simp) (by simp) (by simp) (by simp), LK_fr lk f2 (by simp) (by simp), WTQ_fr wt f2 (by simp) (by simp) (by simp)⟩, pb⟩ (PGs_fr f1 f2 (by simp) (by simp) (by simp) (by simp) (by simp) (by simp)) lm lw (f1.1 955 (by simp)) rfl (f2.1 150 (by simp)) (fun _ _ => rfl) rfl
theorem BA_cb (ba : BAs Fv P Fv' P' PR p i m w) : BAs Fv P Fv' P' PR p i (cbM m) (cbW w) := by
  obtain ⟨hpp, W, ⟨h955, h956⟩, ⟨h149, h150⟩, cn, wt, tb, ⟨hal, hal'⟩, n1, n2⟩ := ba
  have m1 : ∀ k, k ≠ 946 → k ≠ 1106 → (cbM m).1 k = m.1 k := fun k h1 h2 => by unfold cbM; rw [wi_1 h2, wi_1 h1]
  have w1 : ∀ k, k ≠ 119 → k ≠ 165 → (cbW w).1 k = w.1 k := fun k h1 h2 => by unfold cbW; rw [wi_1 h2, wi_1 h1]
  have mF : ∀ k, k ≠ 946 → k ≠ 1106 → F (cbM m) k = F m k := fun k h1 h2 => congrArg Int32.toInt (m1 k h1 h2)
  have wF : ∀ k, k ≠ 119 → k ≠ 165 → F (cbW w) k = F w k := fun k h1 h2 => congrArg Int32.toInt (w1 k h1 h2)
  have W2 : WLs (RRt p) PR Fv P Fv' P' none i 0 (cbM m) (cbW w) := WL_reg (WL_946 W) (FR.wi FR.rf (by simp)) (FR.wi FR.rf (by simp))
  obtain ⟨t1, t2, ⟨t3, t4, t5⟩, t6, fa, na, t7⟩ := tb
  obtain ⟨c1, c2, c3, c4, c5, c6⟩ := cn
  have g1 : F m 946 = F w 119 := congrArg Int32.toInt t5
  have g2 : F m 1106 = F w 165 := congrArg Int32.toInt t6
  refine ⟨hpp, W2, ⟨by rw [mF 955 (by omega) (by omega)]; exact h955, by rw [mF 956 (by omega) (by omega)]; exact h956⟩, ⟨by rw [wF 149 (by omega) (by omega)]; exact h149, by rw [wF 150 (by omega) (by omega)]; exact h150⟩, ⟨c1, ?_, by rw [wF 14 (by omega) (by omega)]; exact c3, c4, fun t ht => by rw [wF 14 (by omega) (by omega)]; exact c5 t ht, fun t ht => by rw [mF 22 (by omega) (by omega)]; exact c6 t ht⟩, WTs_st wt (m1 950 (by omega) (by omega)) (fun _ _ => rfl) (w1 125 (by omega) (by omega)) (fun _ _ => rfl), ⟨TB_tab t1 ⟨m1 442 (by omega) (by omega), m1 449 (by omega) (by omega)⟩ (fun _ _ => rfl) (fun _ _ => rfl) rfl, PN_st t2 (m1 953 (by omega) (by omega)) (fun _ _ => rfl) (w1 128 (by omega) (by omega)) (fun _ _ => rfl), ⟨CLk_st t3 (m1 944 (by omega) (by omega)) (w1 120 (by omega) (by omega)), by rw [m1 945 (by omega) (by omega), w1 121 (by omega) (by omega)]; exact t4, ?_⟩, ?_, fa, na, ATf_k t7 (m1 22 (by omega) (by omega)) rfl rfl (w1 14 (by omega) (by omega)) rfl rfl⟩, ⟨?_, hal'⟩, by rw [mF 942 (by omega) (by omega)]; exact n1, by rw [wF 118 (by omega) (by omega)]; exact n2⟩
  · unfold ATM at c2 ⊢
    rw [wF 14 (by omega) (by omega)]
    exact c2
  · unfold cbM cbW
    rw [wi_1 (by omega), wi_s1, wi_1 (by omega), wi_s1, g1]
  · unfold cbM cbW
    rw [wi_s1, wi_s1, g2]
  · rw [mF _ (fun c => pq_n (by omega) c.symm) (fun c => pq_n (by omega) c.symm)]
    exact hal
end
end
section
set_option maxRecDepth 100000
section
variable {T : TYc} {b : Int → Nat → Nat → Prop} {Fv Fv' : Int64 → Int64 → Prop} {P P' : Int64 → Prop} {PR p f j U B W Y AN : Nat} {m w m3 w3 : MS} {nb : Nat → Nat} {Hs Os : Nat → List Nat}
theorem PT_pw {na : Nat} {fa : Nat → Nat} (cx : CTX Fv P m) (at1 : ATf m w fa na) (hA : F w 14 = ((AN : Nat) : Int)) : ∀ t, P t → PWs AN t := fun t h => by
  obtain ⟨h1, h2⟩ := cx.2.1 t h
  have e1 : F m 22 = ((na : Nat) : Int) := by
    show (m.1 22).toInt = _
    rw [at1.1.1, I_ti (by omega) (by have := at1.1.2.2.2.2; omega)]
  have e2 : F w 14 = ((na : Nat) : Int) := by
    show (w.1 14).toInt = _
    rw [at1.2.1.1, I_ti (by omega) (by have := at1.1.2.2.2.2; omega)]
  rcases h1 with h | h | h | h | h
  · exact Or.inl h
  · have := h2 h
    exact Or.inr (Or.inr (Or.inr (Or.inr ⟨h, this.1, by omega⟩)))
  · exact Or.inr (Or.inl h)
  · exact Or.inr (Or.inr (Or.inr (Or.inl h)))
  · exact Or.inr (Or.inr (Or.inl h))
theorem cl_fct (l : LPQ T Fv P PR p f m) (ru : RUb m w p j nb Hs Os none) (pl : PLs b p m w3 U B W Y) : (p < PR ∧ CTX Fv P m ∧ LNB m p ∧ DWc Fv P PR m) ∧ (∃ ow kd, PTQ m p U ow kd Fv P B W Y) ∧ (nb j ≤ 2360 ∧ B ≤ nb j + 40 ∧ Y ≤ 30 ∧ 0 ≤ F m (pq p 8)) ∧ CTa m w p W ∧ WFT T m ∧ ∃ i h mm L x wb, T i = some (h, mm, L, 0, x) ∧ F m 1105 = ((i : Nat) : Int) ∧ W = wb + h ∧ (x ≠ 0 → x ≠ i → F m (pq p 8) < F m (pq p 7)) ∧ UNc m p x := by
  obtain ⟨⟨fa, ct⟩, ⟨h9, -⟩, gd, ⟨h8, h1109, -⟩, -⟩ := id ru
  obtain ⟨i, h, mm, L, g, x, j', wb, nb', cb, rk, M⟩ : ∃ i h mm L g x j' wb nb' cb rk, MIc T Fv P PR p m i h mm L g x j' wb nb' cb rk := by
    rcases l with ⟨⟨i, h, mm, L, g, x, j', wb, nb', cb, rk, M, -⟩, -⟩ | l | l
    · exact ⟨i, h, mm, L, g, x, j', wb, nb', cb, rk, M⟩
    · have := l.2.1
      omega
    · exact absurd h8 (l.2.1.2 h9)
  obtain ⟨G, -, st, ⟨ti, e5⟩, ⟨e26, e24⟩, gds, xx, un⟩ := M
  have wt := G.2.2.1
  have hp := G.2.2.2.2.2.2.1
  have h12 : F m 1112 = 0 := by
    rcases gd with ⟨-, h, -⟩ | ⟨_, _, _, c, -⟩
    · exact h
    · cases c
  obtain ⟨-, ⟨-, hmm, -⟩, -, gr, -⟩ := wt _ _ _ _ _ _ ti
  have g0 : g = 0 := by
    by_cases z : g = 0
    · exact z
    · exfalso
      obtain ⟨-, hg, n, t, -, -, -, -, e, hi, -⟩ := gr z
      have := (gds.2 z).1
      omega
  subst g0
  have ej : j' = j := by
    have h1 := st.2.1.1
    have h2 := fa.1.1
    omega
  subst ej
  have en : nb' = nb j' := by
    have h1 := st.2.2.1.1
    have h2 := (fa.2.1 j' (Nat.le_refl _)).2.2.1.1
    omega
  subst en
  have fb := FBc_b wt st.1
  have hj := st.2.1.2
  have eB : B = nb j' + mm := by
    have := pl.2.1.1
    omega
  have eW : W = wb + h := by
    have := pl.2.2.1.1
    omega
  obtain ⟨s1, -, s3⟩ := G.1.2 p hp
  obtain ⟨n, ow, kd, B', W', Y', pt⟩ := s3 (by omega)
  have q1 : n = U := by have := pt.1.1; have := pl.1.1.1; omega
  have q2 : B' = B := by have := pt.2.1.1; have := pl.2.1.1; omega
  have q3 : W' = W := by have := pt.2.2.1.1; have := pl.2.2.1.1; omega
  have q4 : Y' = Y := by have := pt.2.2.2.1.1; have := pl.2.2.2.1; omega
  subst q1 q2 q3 q4
  have ca : CTa m w p W' := fun c hc => by
    obtain ⟨n, c1, c2, c3, -, c5⟩ := ct
    have hn : n = c + 1 := by omega
    subst hn
    have e28 := st.2.2.2.1
    obtain ⟨j2, wb2, nb2, cb2, rk2, tg, h2, m2, L2, -, -, -, -, -, -, u7, ⟨-, -, u8, -⟩, u9, -, -⟩ := UNW_top (tr := 0) wt st ti (by omega)
    have ec : cb2 + L2.length = c := by omega
    rw [ec] at u8
    obtain ⟨r, k, a, nd, nn, -, -, -, -, -, -, d6, -⟩ := c5 c (by omega)
    have r3 := A_r w 103 (1600 * p + c)
    exact ⟨by omega, ⟨wb2 + h2, by rw [← d6]; exact u8, by omega⟩, fun nd hnd => by omega⟩
  exact ⟨⟨hp, G.2.1, GEN_ln G hp, G.1⟩, ⟨ow, kd, pt⟩, ⟨by omega, by omega, pt.2.2.2.2.2.2, s1.2.1⟩, ca, wt, i, h, mm, L, x, wb, ti, e5, eW, xx, un⟩
theorem CTa_w (h : CTa m w p W) (e3 : w3.2.2.1 103 = w.2.2.1 103) (e4 : w3.2.2.1 104 = w.2.2.1 104) : CTa m w3 p W := fun c hc => by
  obtain ⟨h1, ⟨W0, h2, h3⟩, h4⟩ := h c hc
  refine ⟨h1, ⟨W0, ?_, h3⟩, fun nd hnd => h4 nd ?_⟩
  · show (w3.2.2.1 104 _).toInt = _
    rw [e4]
    exact h2
  · show (w.2.2.1 103 _).toInt = _
    rw [← e3]
    exact hnd
end
end
section
set_option maxRecDepth 100000
section
variable {T : TYc} {u : MS} {i h m g x : Nat} {L : List Nat}
theorem in_19 (q : IN1 T u i h m L g x ∨ IN2 T u i h m L g x ∨ IN3 T u i h m L g x) (e : A u 23 i = 19) : (∃ n : Nat, A u 23 (i + 1) = ((n : Nat) : Int) ∧ n ≤ h) ∨ (A u 23 (i + 1) = -1 ∧ 1 ≤ h) ∨ (A u 23 (i + 1) = -2 ∧ x ≠ 0) := by
  rcases q with q | q | q
  · exfalso
    rcases q with q | q | q | q | q | q | q | q | q | q | q | q | q <;> (have := q.1; omega)
  · rcases q with q | q | q | q | q | q | q | q | q | q | q
    · exfalso; have := q.1; omega
    · exact q.2.2.1
    all_goals (exfalso; have := q.1; omega)
  · exfalso
    rcases q with q | q | q | q | q | q | q | q | q
    · have := q.1; omega
    · have := q.1; omega
    · have := q.1; omega
    · have := q.1; omega
    · have := q.1; omega
    · omega
    · have := q.1; omega
    · have := q.1; omega
    · have := q.1; omega
theorem in_37 (q : IN1 T u i h m L g x ∨ IN2 T u i h m L g x ∨ IN3 T u i h m L g x) (e : A u 23 i = 37) : 1 ≤ h := by
  rcases q with q | q | q
  · exfalso
    rcases q with q | q | q | q | q | q | q | q | q | q | q | q | q <;> (have := q.1; omega)
  · exfalso
    rcases q with q | q | q | q | q | q | q | q | q | q | q <;> (have := q.1; omega)
  · rcases q with q | q | q | q | q | q | q | q | q
    · exfalso; have := q.1; omega
    · exfalso; have := q.1; omega
    · exfalso; have := q.1; omega
    · exfalso; have := q.1; omega
    · exfalso; have := q.1; omega
    · exfalso; omega
    · exact q.2
    · exfalso; have := q.1; omega
    · exfalso; have := q.1; omega
theorem in_34 (q : IN1 T u i h m L g x ∨ IN2 T u i h m L g x ∨ IN3 T u i h m L g x) (e : A u 23 i = 34) : x ≠ 0 ∧ A u 23 (i + 1) = ((x : Nat) : Int) := by
  rcases q with q | q | q
  · exfalso
    rcases q with q | q | q | q | q | q | q | q | q | q | q | q | q <;> (have := q.1; omega)
  · exfalso
    rcases q with q | q | q | q | q | q | q | q | q | q | q <;> (have := q.1; omega)
  · rcases q with q | q | q | q | q | q | q | q | q
    · exfalso; have := q.1; omega
    · exfalso; have := q.1; omega
    · exfalso; have := q.1; omega
    · exact ⟨q.2.2.1, q.2.2.2.2.1⟩
    · exfalso; have := q.1; omega
    · exfalso; omega
    · exfalso; have := q.1; omega
    · exfalso; have := q.1; omega
    · exfalso; have := q.1; omega
end
section
variable {T : TYc} {Fv Fv' : Int64 → Int64 → Prop} {P : Int64 → Prop} {AN : Nat} {TT : TY} {CC : CY} {pM pE : Nat → Nat} {ND CN PN SN UN FN N PR p i v mu M1 M2 : Nat} {m m0 w0 w00 m3 w3 : MS} {Q : MS → Int32 → MS → Int32 → Prop}
theorem LPQ_dc {f : Nat} (l : LPQ T Fv P PR p f m) : DWc Fv P PR m ∧ CTX Fv P m := by
  rcases l with ⟨⟨i, h, m, L, g, x, j, wb, nb, cb, rk, M, hf⟩, -⟩ | ⟨G, -⟩ | ⟨G, -⟩
  · exact ⟨M.1.1, M.1.2.1⟩
  · exact ⟨G.1, G.2.1⟩
  · exact ⟨G.1, G.2.1⟩
theorem SAf_l (hs : SAf T Fv P p m3 (I ((v : Nat) : Int))) (hv : v < 2000000000) (h9 : F m3 1109 = 0) (n942 : F m3 942 = ((PR : Nat) : Int)) : ∃ c, c + (v + 1) ≤ 900000000 ∧ LPQ T Fv P PR p c m3 := by
  obtain ⟨PR2, c, k, ek, hk, o⟩ := hs
  have ev : v = k := by
    have := congrArg Int32.toInt ek
    rw [I_ti (by omega) (by omega), I_ti (by omega) (by omega)] at this
    omega
  subst ev
  obtain ⟨a1, a2, a3⟩ := OPQ_d o h9
  have e2 : PR2 = PR := by
    have := a1.1.1.1
    omega
  subst e2
  exact ⟨c, by omega, a3⟩
theorem aft_67 {b : Int → Nat → Nat → Prop} {U B W Y j a n f : Nat} {nb : Nat → Nat} {Hs Os : Nat → List Nat} {y : Option (Nat × Nat × Nat)} (per : PER Fv' AN TT CC pM pE ND CN PN SN UN FN w00) (h149 : F w00 149 = 0) (ih : ∀ M1 v m w, SIA T Fv P Fv' AN TT CC pM pE ND CN PN SN UN FN p v m w → PP Q (qgo (SAf T Fv P p) N M1 m p (I ((v : Nat) : Int))) (gg_M_go N M2 w (I ((p : Nat) : Int))))
    (ba : BAs Fv P Fv' (PWs AN) PR p i m0 w0) (hf : f + v ≤ 900000000) (l : LPQ T Fv P PR p f m3) (gm : GGm p m0 m3) (gw : GGw p w0 w3) (pl : PLs b p m3 w3 U B W Y) (sc : SCs p m0 w0 → SCs p m3 w3) (ru : RUs m3 w3 p j nb Hs Os y a n) : PP Q (q67 (SAf T Fv P p) N (qgo (SAf T Fv P p) N M1) m3 p (I ((v : Nat) : Int))) (rsc (RSW Fv' AN TT CC ND CN UN FN p mu w00 w3) (bnd (fm_M_allEnds N w3) (fun u _ => gg_M_go N M2 u (I ((p : Nat) : Int))))) := by
  obtain ⟨hpr, W0, ⟨h955, h956⟩, ⟨g149, g150⟩, cn, wt, tb, ⟨hal, hal'⟩, n1, n2⟩ := ba
  obtain ⟨r5, r6⟩ := id ru.2.2.2.1
  refine pp_clr (fun rs => ?_)
  obtain ⟨PR', hp', al, wd, gf⟩ := rs
  obtain ⟨mu2, al2⟩ : ∃ mu2, ALT Fv' (PQ AN PR') PR' TT CC ND CN p mu2 w3 := by
    rcases al with al | al | al | ⟨mm, h1, h2⟩
    · exact ⟨0, Or.inl al⟩
    · exact ⟨0, Or.inr (Or.inl al)⟩
    · exact ⟨0, Or.inr (Or.inr (Or.inl al))⟩
    · exact ⟨mm + 1, Or.inr (Or.inr (Or.inr ⟨mm, by omega, h2⟩))⟩
  have dw := ALT_dw al2
  have per3 : PER Fv' AN TT CC pM pE ND CN PN SN UN FN w3 := PER_fr per gf (by decide) (by decide)
  have fi := gm.2.2.2.2.2.2
  have fA := gm.2.2.2.2.2.1
  have gi := gw.2.2.2.2.2.2
  have gA := gw.2.2.2.2.2.1
  have w118 : F w3 118 = ((PR : Nat) : Int) := by
    rw [← n2]
    exact congrArg Int32.toInt (gi 118 (by omega))
  have e3 : PR' = PR := by
    have := dw.1.1
    omega
  subst e3
  have pb := PQ_b per3.2.2.2.2.1 dw.1.2
  have s3 : SFs Fv P Fv' (PWs AN) PR' m3 w3 := ⟨LPQ_dc l, ⟨DW_mo PW_q dw, wd.1, wd.2.1⟩, PB_mo PW_q pb⟩
  have h149' : F w3 149 = 0 := by rw [FR.F gf (by decide)]; exact h149
  have h150' : F w3 150 = 0 := by
    rw [← g150]
    exact congrArg Int32.toInt gw.2.2.1
  have scp : SCs p m0 w0 := by
    rcases W0.2.2.1 p hpr with ⟨-, -, _, _, _, _, _, _, s, -⟩ | ⟨x, -⟩
    · exact s
    · exact absurd x hal
  rw [ends_id h149' h150', bnd_so]
  refine ih (M1 + 1) v m3 w3 ⟨PR', f, mu2, hpr, ⟨hf, l⟩, ⟨al2, wd, per3⟩, ⟨i, WL_q (WL_ownt W0 hpr hal hal' s3 gm gw pl (sc scp) ⟨by omega, by omega⟩) (fun _ => Or.inl ⟨j, nb, Hs, Os, y, a, n, ru⟩), ⟨?_, ?_⟩, ⟨h149', h150'⟩, CN_pg cn (PG0_gg gm gw) per3.2.2.1, WTs_st wt (fi 950 (by omega)) (fun k hk => fA k (by omega)) (gi 125 (by omega)) (fun k hk => gA k (by omega))⟩, TB_gg tb gm gw⟩
  · rw [← h956]
    exact congrArg Int32.toInt gm.2.2.2.2.1
  · rw [← h955]
    exact congrArg Int32.toInt gm.2.2.1
theorem tr_pp (hN : 11000000 ≤ N) (hpp : p < 24) (per : PER Fv' AN TT CC pM pE ND CN PN SN UN FN w00) (h149 : F w00 149 = 0) (hAN : F w0 14 = ((AN : Nat) : Int)) (ih : ∀ M1 v m w, SIA T Fv P Fv' AN TT CC pM pE ND CN PN SN UN FN p v m w → PP Q (qgo (SAf T Fv P p) N M1 m p (I ((v : Nat) : Int))) (gg_M_go N M2 w (I ((p : Nat) : Int))))
    (ba : BAs Fv P Fv' (PWs AN) PR p i m0 w0) : ∀ (M1 M d v f : Nat) (b : Int → Nat → Nat → Prop) (U B W Y j kd sc a : Nat) (nb : Nat → Nat) (Hs Os : Nat → List Nat) (k : Int) (ow' kd' : Nat → Nat) (m w : MS), f + v ≤ 900000000 → LPQ T Fv P PR p f m → TRs m w p j nb Hs Os kd sc a k → PLs (bGd b U ow' kd') p m (wa w 94 p ((B : Nat) : Int)) U B W Y → B = nb j + (Hs j ++ Os j).length → HP (hp w p) U ow' kd' Fv' (PWs AN) → F w 140 = -1 → W < 46000 → GGm p m0 m → GGw p w0 w → (SCs p m0 w0 → SCs p m w) → PP Q (q67 (SAf T Fv P p) N (qgo (SAf T Fv P p) N M1) m p (I ((v : Nat) : Int))) (bnd (gg_M_choose N (rc_M_error N d) M w 1) (fun w3 _ => rsc (RSW Fv' AN TT CC ND CN UN FN p mu w00 w3) (bnd (fm_M_allEnds N w3) (fun u _ => gg_M_go N M2 u (I ((p : Nat) : Int)))))) := by
  intro M1
  induction M1 using Nat.strongRecOn with
  | _ M1 IH =>
  intro M d v f b U B W Y j kd sc a nb Hs Os k ow' kd' m w hf l tt pl hB hp2 h140 hW gm gw sc0
  cases M with
  | zero => exact pp_nr
  | succ M =>
  obtain ⟨ru, hpc, ⟨h153, h154, h156⟩, tr, nd, fz, g, zr⟩ := id tt
  obtain ⟨hpr, W0, ⟨h955, h956⟩, ⟨g149, g150⟩, cn, wt, tb, ⟨hal, hal'⟩, n1, n2⟩ := id ba
  have hi : i < 24 := by
    have h1 := W0.1.1.1.1
    have h2 := h1.2.2.2.1.1
    have h3 := cEc_lt (m := m0) (q := p) PR hpr hal
    have h4 := h1.1.2
    omega
  have gw' : GGw p w0 (wa w 94 p ((B : Nat) : Int)) := GGw.tr gw GGw_94
  have sc' : SCs p m0 w0 → SCs p m (wa w 94 p ((B : Nat) : Int)) := fun s => SC_94 (sc0 s)
  have ru' : RUb m (wa w 94 p ((B : Nat) : Int)) p j nb Hs Os none := RUb_94 ru
  obtain ⟨⟨-, cx, lb, dc⟩, ⟨ow, kw, pt⟩, ⟨bn, bB, bY, b8⟩, ca, wft, i2, h, mm, L, x, wb, ti, e5, eW, xx, un⟩ := cl_fct l ru' pl
  have ei : a = i2 := by omega
  subst ei
  obtain ⟨-, -, -, -, ⟨-, hx⟩, ins⟩ := wft _ _ _ _ _ _ ti
  have m955 : F m 955 = ((i : Nat) : Int) := by
    rw [← h955]
    exact congrArg Int32.toInt gm.2.2.1
  have m956 : F m 956 = ((i : Nat) : Int) := by
    rw [← h956]
    exact congrArg Int32.toInt gm.2.2.2.2.1
  have m942 : F m 942 = ((PR : Nat) : Int) := by
    rw [← n1]
    exact congrArg Int32.toInt (gm.2.2.2.2.2.2 942 (by omega))
  have w150 : F (wa w 94 p ((B : Nat) : Int)) 150 = ((0 : Nat) : Int) := (congrArg Int32.toInt gw'.2.2.1).trans g150
  have hB' : B = nb j + (Hs j).length + (Os j).length := by rw [hB, List.length_append]; omega
  obtain ⟨-, -, ⟨t944, -, -⟩, -, fa', na, atf⟩ := TB_gg tb gm gw'
  have hAN' : F (wa w 94 p ((B : Nat) : Int)) 14 = ((AN : Nat) : Int) := (congrArg Int32.toInt gw'.2.1.2.2.2.2).trans hAN
  have hP : ∀ t, P t → PWs AN t := PT_pw cx atf hAN'
  have hp2' : HP (hp (wa w 94 p ((B : Nat) : Int)) p) U ow' kd' Fv' (PWs AN) := hp2
  have xf : CXf (wa w 94 p ((B : Nat) : Int)) p (hp (wa w 94 p ((B : Nat) : Int)) p) U ow' kd' Fv' (PWs AN) W B Y := CXf_of hP pl pt hp2' hpp ⟨by omega, by omega, bY⟩
  have xc := CXf_cx xf h140
  have pb : PB (PWs AN) PR := W0.1.2.2
  obtain ⟨⟨l3, c1, c2, c3⟩, ⟨l5, d1, d2, d3⟩, -⟩ := pt.2.2.2.2
  have h42 : ((B : Nat) : Int) ≤ F m (pq p 42) := by
    obtain ⟨-, ⟨bb, -, y1, y2⟩, -⟩ := lb
    omega
  have Y7 : F m (pq p 7) = ((Y : Nat) : Int) := pl.2.2.2.1
  have go : ∀ (M' M4 d' v' : Nat) (B4 W4 Y4 j4 kd4 sc4 a4 : Nat) (nb4 : Nat → Nat) (Hs4 Os4 : Nat → List Nat) (k4 : Int) (m4 w4 : MS), M' ≤ M1 → v' < 1000000000 → TRs m4 w4 p j4 nb4 Hs4 Os4 kd4 sc4 a4 k4 → PLs (bGd b U ow' kd') p m4 (wa w4 94 p ((B4 : Nat) : Int)) U B4 W4 Y4 → B4 = nb4 j4 + (Hs4 j4 ++ Os4 j4).length → (w4.2.2.2 88 = w.2.2.2 88 ∧ w4.1 140 = w.1 140) → W4 < 46000 → GGm p m m4 → GGw p w w4 → (SCs p m w → SCs p m4 w4) → PP Q (q195 (SAf T Fv P p) N (qgo (SAf T Fv P p) N M') m4 p (I ((v' : Nat) : Int))) (bnd (gg_M_choose N (rc_M_error N d') M4 w4 1) (fun w3 _ => rsc (RSW Fv' AN TT CC ND CN UN FN p mu w00 w3) (bnd (fm_M_allEnds N w3) (fun u _ => gg_M_go N M2 u (I ((p : Nat) : Int)))))) := by
    intro M' M4 d' v' B4 W4 Y4 j4 kd4 sc4 a4 nb4 Hs4 Os4 k4 m4 w4 hM hv t4 pl4 hB4 e8 hW4 a3 a4' a5
    have h9 : F m4 1109 = 0 := t4.1.2.2.2.1.2.1
    have q5 : F m4 955 ≤ F m4 956 := by
      have y1 : F m4 955 = F m 955 := congrArg Int32.toInt a3.2.2.1
      have y2 : F m4 956 = F m 956 := congrArg Int32.toInt a3.2.2.2.2.1
      omega
    refine go195 h9 q5 (fun hsf => ?_)
    have m9 : F m4 942 = ((PR : Nat) : Int) := (congrArg Int32.toInt (a3.2.2.2.2.2.2 942 (by omega))).trans m942
    obtain ⟨c, cc1, cc2⟩ := SAf_l hsf (by omega) h9 m9
    cases M' with
    | zero => exact pp_nl
    | succ M' =>
    show PP Q (q67 (SAf T Fv P p) N (qgo (SAf T Fv P p) N M') m4 p (I ((v' + 1 : Nat) : Int))) _
    have e88 : hp w4 p = hp w p := by
      unfold hp
      rw [e8.1]
    exact IH M' (by omega) M4 d' (v' + 1) c b U B4 W4 Y4 j4 kd4 sc4 a4 nb4 Hs4 Os4 k4 ow' kd' m4 w4 cc1 cc2 t4 pl4 hB4 (by rw [e88]; exact hp2) ((congrArg Int32.toInt e8.2).trans h140) hW4 (GGm.tr gm a3) (GGw.tr gw a4') (fun s => a5 (sc0 s))
  have kk : ∀ (K2 : MS → Option (MS × Int32)), (∀ (D : Option (MS × Int32)) (w3 : MS), PP Q D (rsc (RSW Fv' AN TT CC ND CN UN FN p mu w00 w3) (bnd (fm_M_allEnds N w3) (fun u _ => gg_M_go N M2 u (I ((p : Nat) : Int))))) → PP Q D (K2 w3)) → ∀ b3 U3 W3 r k a0 nn m3 w3, PLs b3 p m3 w3 U3 (nb r + (Hs r).length + k) (W3 + 1) Y → RUs m3 w3 p r nb Hs (tkO Os r k) none a0 nn → GGm p m m3 → GGw p (wa w 94 p ((B : Nat) : Int)) w3 → (SCs p m (wa w 94 p ((B : Nat) : Int)) → SCs p m3 w3) → PP Q (q206 (SAf T Fv P p) N (qgo (SAf T Fv P p) N M1) m3 p (I ((v : Nat) : Int))) (K2 w3) := fun K2 cv b3 U3 W3 r k a0 nn m3 w3 a1 a2 a3 a4 a5 => cv _ _ (aft_gg hN per h149 ih ba (by omega) (GGm.tr gm a3) (GGw.tr gw' a4) a1 (fun s => a5 (sc' s)) (Or.inl ⟨r, nb, Hs, _, none, a0, nn, a2⟩) (by obtain ⟨y1, y2⟩ := a2.2.2.2.1; omega) a2.2.2.2.2.2.1.2.1).2
  have ke : ∀ (K2 : MS → Option (MS × Int32)), (∀ (D : Option (MS × Int32)) (w3 : MS), PP Q D (rsc (RSW Fv' AN TT CC ND CN UN FN p mu w00 w3) (bnd (fm_M_allEnds N w3) (fun u _ => gg_M_go N M2 u (I ((p : Nat) : Int))))) → PP Q D (K2 w3)) → ∀ m3 w3 wr t3 x3, GGm p m m3 → GGw p (wa w 94 p ((B : Nat) : Int)) w3 → (SCs p m (wa w 94 p ((B : Nat) : Int)) → SCs p m3 w3) → m3.1 (pq p 5) = w3.2.2.1 90 p → (wr = 0 ∨ wr = 1 ∨ wr = 2) → RQs Fv P Fv' (PWs AN) PR (enS m3 p t3 p i) (enR w3 p wr ((p : Nat) : Int) x3 0) p wr p x3 → PP Q (q206 (SAf T Fv P p) N (qgo (SAf T Fv P p) N M1) (enS m3 p t3 p i) p (I ((v : Nat) : Int))) (K2 (wi (enR w3 p wr ((p : Nat) : Int) x3 0) 151 1)) := fun K2 cv m3 w3 wr t3 x3 a1 a2 a3 a4 a5 a6 => cv _ _ (aft_end hN per h149 ih ba (by omega) (GGm.tr gm a1) (GGw.tr gw' a2) (fun s => a3 (sc' s)) a4 ⟨h955, hi⟩ (show F w0 150 = ((0 : Nat) : Int) ∧ 0 < 4000 from ⟨g150, by decide⟩) a5 a6).2
  cases g with
  | zero => exact zr.elim
  | succ g =>
  obtain ⟨za, zr⟩ := zr
  rcases zr with ⟨rfl, zn⟩ | ⟨k0, ⟨rfl, hk0⟩, e, O2, z1, z2⟩
  · 
    have up : ∀ (c : Nat), c < 22 → ∀ (d2 : Nat) (K2 : MS → Option (MS × Int32)), (∀ (D : Option (MS × Int32)) (w3 : MS), PP Q D (rsc (RSW Fv' AN TT CC ND CN UN FN p mu w00 w3) (bnd (fm_M_allEnds N w3) (fun u _ => gg_M_go N M2 u (I ((p : Nat) : Int))))) → PP Q D (K2 w3)) → PP Q (q195 (SAf T Fv P p) N (qgo (SAf T Fv P p) N M1) (tld m 1 (-1) (mk 1 ((c : Nat) : Int))) p (I ((v : Nat) : Int))) (bnd (fm_M_goesUp N (rc_M_error N d2) (wa w 94 p ((B : Nat) : Int)) (I 0) (mk 1 ((c : Nat) : Int))) (fun u _ => K2 u)) := fun c hc d2 K2 cv =>
      wrong_up (Or.inl ⟨rfl, rfl⟩) hpp hpr (by rw [wi_id pl.2.2.1.1]; exact pl) ru' (Nat.le_refl _) ⟨by omega, hW⟩ lb pt cx xc pb (GT_at cx hc) (GT_atom pb ⟨by omega, by omega⟩) (lit_b (Or.inr (Or.inl rfl)) (fun z => by omega) ⟨by omega, by omega⟩) ca ⟨m955, hi⟩ ⟨w150, by omega⟩ (by omega) (kk K2 cv) (ke K2 cv)
    rcases zn with ⟨rfl, c36⟩ | ⟨rfl, c37⟩ | ⟨rfl, c38⟩ | ⟨rfl, c34, csc⟩
    · exact none02_pp (c := 14) (wd := 36) hpp (Or.inl ⟨rfl, rfl, rfl⟩) tt hB' (by omega) (fun d2 K2 cv => up 14 (by omega) d2 K2 cv)
    · have h1 := in_37 ins c37
      obtain ⟨W1, rfl⟩ : ∃ W1, W = W1 + 1 := ⟨W - 1, by omega⟩
      exact none1_pp hpp tt hB' (by omega) pl (by omega) d1 ⟨d2, d3⟩ (fun d2 K2 cv => errOf_pp (ar := 15) hpp hpr pl ru' ⟨by omega, hW⟩ lb pt cx xc pb (pt.2.2.1.2 W1 (by omega)) (xc.2.2.2.2.2.2.2.1 W1 (by omega)) (pl.2.2.1.2.2 W1 (by omega)) ca ⟨by omega, by omega⟩ ⟨m955, hi⟩ ⟨w150, by omega⟩ (by omega) (kk K2 cv) (ke K2 cv))
    · exact none02_pp (c := 16) (wd := 38) hpp (Or.inr ⟨rfl, rfl, rfl⟩) tt hB' (by omega) (fun d2 K2 cv => up 16 (by omega) d2 K2 cv)
    · obtain ⟨x0, x1⟩ := in_34 ins c34
      have x2 := hx (by omega)
      have x3 := xx x0 (by omega)
      have es : sc = x := by omega
      obtain ⟨t, ht⟩ : ∃ t : Nat, F m (pq p 8) = ((t : Nat) : Int) := ⟨(F m (pq p 8)).toNat, by omega⟩
      refine none3_pp (t := t) hpp tt pl hB' (by omega) bY ht (by omega) (by omega) (by omega) t944.1 (fun z => un x0 (by rw [← es]; exact z)) (fun n hn => by have := F_r w 159; omega) (fun M' vk' m3 w3 q1 q2 a1 a2 a3 a4 a5 => ?_) (fun M' vk' m3 w3 l2 q q1 q2 a1 a2 a3 a4 a5 => ?_) (fun M' vk' m3 w3 k q1 q2 q3 a1 a2 a3 a4 a5 a6 a7 => go M' M d vk' B W Y j 3 sc (sc + 2) nb Hs Os k m3 w3 q1 (by omega) a1 a2 hB a7 hW a4 a5 a6)
      · exact (aft_gg hN per h149 ih ba (by omega) (GGm.tr gm a3) (GGw.tr gw a4) a2 (fun s => a5 (sc0 s)) (Or.inr (Or.inl ⟨j, nb, Hs, Os, sc, a1⟩)) (by obtain ⟨y1, y2⟩ := a1.2.1; omega) a1.2.2.2.2.2.1.2.1).1
      · exact (aft_gg hN per h149 ih ba (by omega) (GGm.tr gm a3) (GGw.tr gw a4) a2 (fun s => a5 (sc0 s)) (Or.inl ⟨j, nb, Hs, Os, none, l2, q, a1⟩) (by obtain ⟨y1, y2⟩ := a1.2.2.2.1; omega) a1.2.2.2.2.2.1.2.1).1
  · 
    have bb : (kd = 0 → ∃ n0 : Nat, A w 41 k0 = ((n0 : Nat) : Int) ∧ n0 ≤ W ∧ n0 ≤ 100) ∧ (kd = 1 → 1 ≤ W) ∧ (kd = 3 → Y ≤ 30 ∧ ∃ t : Nat, F m (pq p 8) = ((t : Nat) : Int) ∧ t < Y) := by
      rcases z1 with ⟨z1, -, -⟩ | ⟨c19, -, n, e2, hn, -⟩
      · refine ⟨fun c => ⟨0, ?_, by omega, by omega⟩, fun c => by omega, fun c => by omega⟩
        rcases z1 with z1 | ⟨-, z1⟩
        · omega
        · rw [ro_e (by unfold PRr; omega)] at z1
          exact z1
      · have q := in_19 ins c19
        have x2 := hx (by omega)
        rcases hn with ⟨rfl, n1, n2, n3⟩ | ⟨rfl, rfl, n3⟩ | ⟨rfl, rfl, n3⟩
        · rw [ro_e (by unfold PRr; omega)] at n2
          refine ⟨fun _ => ⟨n, n2, ?_, by omega⟩, fun c => by omega, fun c => by omega⟩
          rcases q with ⟨n', q1, q2⟩ | ⟨q1, -⟩ | ⟨q1, -⟩ <;> omega
        · refine ⟨fun c => by omega, fun _ => ?_, fun c => by omega⟩
          rcases q with ⟨n', q1, q2⟩ | ⟨q1, q2⟩ | ⟨q1, -⟩ <;> omega
        · refine ⟨fun c => by omega, fun c => by omega, fun _ => ⟨bY, (F m (pq p 8)).toNat, by omega, ?_⟩⟩
          have x0 : x ≠ 0 := by
            rcases q with ⟨n', q1, q2⟩ | ⟨q1, q2⟩ | ⟨-, q2⟩
            · omega
            · omega
            · exact q2
          have x3 := xx x0 (by omega)
          omega
    subst hB
    have fl := ru'.1.1.2.1 j (Nat.le_refl _)
    refine try_pp (fa' := fa') (na := na) hpp tt pl (by omega) hW (by omega) (by omega) ⟨⟨hpp, ru'.2.2.2.2.1⟩, ⟨ru'.1.1.1.2.1, ru'.1.1.1.2.2, fl.2.2.1.2, fl.2.2.2.2.1⟩, ⟨pl.1.2.1, pt.1.2.2, hp2', pl.1.1.2.2⟩, cx, per.2.1, atf, nd.2⟩ pt xf h42 (by omega) bb.1 bb.2.1 bb.2.2 (fun m4 w4 fl a1 a2 a3 a4 a5 a6 => go M1 M d v _ W Y j kd sc fl nb Hs Os _ m4 w4 (Nat.le_refl _) (by omega) a1 a2 rfl a6 hW a3 a4 a5) (fun M' vk' m3 w3 B3 W3 Y3 O2 y a n q1 q2 a1 a2 a3 a4 a5 => ?_) (fun M' vk' m3 w3 B3 W3 Y3 O2 a n q1 q2 a1 a2 a3 a4 a5 a6 => ?_)
    · exact (aft_gg hN per h149 ih ba (by omega) (GGm.tr gm a3) (GGw.tr gw a4) a1 (fun s => a5 (sc0 s)) (Or.inl ⟨j, nb, Hs, _, y, a, n, a2⟩) (by obtain ⟨y1, y2⟩ := a2.2.2.2.1; omega) a2.2.2.2.2.2.1.2.1).1
    · obtain ⟨f3, q3, l3⟩ : ∃ f3, f3 + vk' ≤ 900000000 ∧ LPQ T Fv P PR p f3 m3 := by
        rcases a6 with ⟨e1, e2⟩ | ⟨k, e, hs⟩
        · exact ⟨f, by omega, by rw [e1]; exact l⟩
        · obtain ⟨c, c1, c2⟩ := SAf_l hs (by omega) a2.2.2.2.2.2.1.2.1 ((congrArg Int32.toInt (a3.2.2.2.2.2.2 942 (by omega))).trans m942)
          exact ⟨c, by omega, c2⟩
      exact aft_67 per h149 ih ba q3 l3 (GGm.tr gm a3) (GGw.tr gw a4) a1 (fun s => a5 (sc0 s)) a2
end
end
