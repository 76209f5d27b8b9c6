/-! exit, toward a PROCESS: nothing comes of it -/
set_option maxRecDepth 100000
section
variable {N p q W l : Nat} {u w m : MS} {x t v2 : Int64} {v7 t1 t2 : Int32}
theorem tw95_29 : hb_Ma_toward_95 N () u p (I 29) 2 (some q) = bnd (hm_Fr_below N u p 0) (fun u43 r43 => br (decide ((lg_cmp r43 (mk 1 5)) = 0)) (bnd (hm_Wl_endsBy N u43 q 6) (fun u57 _ => hb_Ma_toward_335 N () u57 p 2 (mk 1 0))) (bnd (hm_Fr_below N u43 p 0) (fun u51 r51 => bnd (hm_Wl_signal N u51 (Int32.ofNat p) q r51 (some p)) (fun u54 _ => hb_Ma_toward_335 N () u54 p 2 (mk 1 0))))) := rfl
theorem prr_8 : fb_M_processRun_151 N () w (I 8) v2 v7 92 t1 t2 2 = ck (isK 92 4) (ck (inb t1 (ln 92)) (lt (upA w 92 (upd (w.2.2.1 92) t1.toNatClampNeg (t2 - 2))) (fun w3 => bnd (fm_M_truth N w3 1) (fun u4 r4 => bnd (fm_M_put N u4 r4) (fun u5 _ => bnd (fm_M_exitRun N u5 v7 v2) (fun u15 _ => some (u15, ()))))))) := rfl
theorem sub2 : I ((W + 2 : Nat) : Int) - 2 = I ((W : Nat) : Int) := by
  rw [show (2 : Int32) = I 2 from rfl, I_sub]
  congr 1
  omega
/-- there: one that has ENDED -/
theorem endB_d (h : F m (pq q 9) = 3) : hm_Wl_endsBy N m q 6 = some (m, ()) := by
  unfold hm_Wl_endsBy hb_Wl_endsBy_0 hm_Wl_endsWith hb_Wl_endsWith_0
  rw [show (1 : Int32) = I 1 from rfl, show (6 : Int32) = I 6 from rfl, e_make, bnd_so, I_F (k := pq q 9), h]
  rfl
theorem sig_d {v1 : Int32} {v5 : Option Nat} (h : F m (pq q 9) = 3) : hm_Wl_signal N m v1 q t v5 = some (m, ()) := by
  unfold hm_Wl_signal hb_Wl_signal_0
  rw [I_F (k := pq q 9), h]
  rfl
/-- there: normal, told to another that does not trap -/
theorem sig_n {v5 : Option Nat} (h9 : F m (pq q 9) ≠ 3) (h11 : F m (pq q 11) = 0) (hpq : p ≠ q) (hp1 : p < 1000) (hq1 : q < 1000) : hm_Wl_signal N m (I ((p : Nat) : Int)) q (mk 1 4) v5 = some (m, ()) := by
  have r9 := F_r m (pq q 9)
  unfold hm_Wl_signal hb_Wl_signal_0 hb_Wl_signal_43
  rw [I_F (k := pq q 9), show decide (I (F m (pq q 9)) = 3) = false from by rw [show (3 : Int32) = I 3 from rfl, decE r9.1 r9.2 (by omega) (by omega)]; exact decide_eq_false h9, br_f, I_F (k := pq q 11), h11, show decide (I 0 = 0) = true from rfl, br_t, show (1 : Int32) = I 1 from rfl, show (4 : Int32) = I 4 from rfl, e_make, bnd_so, show decide (lg_cmp (mk 1 4) (mk 1 4) = 0) = true from decide_eq_true ((lgc_eq _ _).mpr rfl), br_t, show decide (I 1 = 0) = false from rfl, br_f, oI, show decide (I ((p : Nat) : Int) = I ((q : Nat) : Int)) = false from by rw [decE (by omega) (by omega) (by omega) (by omega)]; exact decide_eq_false (by omega), br_f]
/-- here: one that has ENDED -/
theorem exr_d (hq : q < 24) (h : A w 109 q = 3) : PK (fun w2 (_ : Unit) => w2 = w) (fm_M_exitRun N w (I ((q : Nat) : Int)) x) := by
  unfold fm_M_exitRun fb_M_exitRun_0
  refine pk_ck (fun _ => ?_)
  rw [tnI (n := q) rfl (by omega), I_A (k := 109), h, show decide (I 3 = 3) = true from rfl, br_t]
  exact pk_some rfl
/-- here: normal -/
theorem exr_n (hq : q < 24) (h9 : A w 109 q ≠ 3) (h112 : A w 112 q = 0) (x33 : F w 133 = ((p : Nat) : Int)) (hp1 : p < 24) (hpq : p ≠ q) : PK (fun w2 (_ : Unit) => w2 = w) (fm_M_exitRun N w (I ((q : Nat) : Int)) (mk 1 4)) := by
  have r9 := A_r w 109 q
  unfold fm_M_exitRun fb_M_exitRun_0 fb_M_exitRun_111
  refine pk_ck (fun _ => ?_)
  rw [tnI (n := q) rfl (by omega), I_A (k := 109), show decide (I (A w 109 q) = 3) = false from by rw [show (3 : Int32) = I 3 from rfl, decE r9.1 r9.2 (by omega) (by omega)]; exact decide_eq_false h9, br_f, show (1 : Int32) = I 1 from rfl, show (5 : Int32) = I 5 from rfl, term_e, bnd_so, show decide (lg_cmp (mk 1 4) (mk 1 5) = 0) = false from decide_eq_false (fun c => absurd ((lgc_eq _ _).mp c) (by decide)), br_f]
  refine pk_ck (fun _ => ?_)
  rw [I_A (k := 112), h112, show decide (I 0 = 0) = true from rfl, br_t, I_F' x33, show decide (I ((q : Nat) : Int) = I ((p : Nat) : Int)) = false from by rw [decE (by omega) (by omega) (by omega) (by omega)]; exact decide_eq_false (by omega), br_f, show (4 : Int32) = I 4 from rfl, term_e, bnd_so, show decide (lg_cmp (mk 1 4) (mk 1 4) = 0) = true from decide_eq_true ((lgc_eq _ _).mpr rfl), br_t]
  exact pk_some rfl
end
section
variable {α β : Type} {b : Int → Nat → Nat → Prop} {Fv Fv' : Int64 → Int64 → Prop} {P P' : Int64 → Prop} {N PR p q i j0 U B W Y l j a n : Nat} {m w m2 w2 : MS} {nb : Nat → Nat} {Hs Os : Nat → List Nat} {y : Option (Nat × Nat × Nat)} {Q : MS → α → MS → β → Prop} {K1 : MS → Option (MS × α)} {K2 : MS → Option (MS × β)}
/-- true is answered to two ARGUMENTS -/
theorem ext_ans {KK : MS → Unit → Option (MS × β)} (hp1 : p < 24) (ru : RUs m w p j nb Hs Os y a n) (hW : W + 2 ≤ 46000) (hl : F m2 (pq p 45) = ((l : Nat) : Int)) (hl2 : W + 2 ≤ l ∧ l ≤ 1000000) (pl : PLs b p m2 w2 U B (W + 2) Y) (f1 : FGm p m m2) (h05 : F m2 1105 = ((a : Nat) : Int)) (g1 : FGw p j w w2) (h98 : A w2 98 (60 * p + j) = ((n + 1 : Nat) : Int)) (cr : ∃ f, CRs (A m 23) (ROs w) (w.2.2.2 34) f y (a + 2) (n + 1) (Hs j) (Os j))
    (c : ∀ m8 w8, PLs b p m8 w8 U B (W + 1) Y → RUs m8 w8 p j nb Hs Os y (a + 2) (n + 1) → FGm p m m8 → FGw p j w w8 → F w8 133 = ((p : Nat) : Int) → PP Q (K1 m8) (KK w8 ())) : PP Q (bnd (hb_Ma_toward_335 N () m2 p 2 (mk 1 0)) (fun u _ => K1 u)) (bnd (fm_M_put N (wa w2 92 p ((W : Nat) : Int)) (mk 1 0)) KK) := by
  have cb2 : a + 2 + 1 < 24000 := by
    obtain ⟨f9, cr9⟩ := cr
    exact (CR_b cr9).1
  have pd := PLs_drop (k := 2) (W := W) pl (by omega)
  have g3 : FGw p j w (wa w2 92 p ((W : Nat) : Int)) := FGw.tr g1 FGw.w92
  have h983 : A (wa w2 92 p ((W : Nat) : Int)) 98 (60 * p + j) = ((n + 1 : Nat) : Int) := by rw [wa_rne (by omega)]; exact h98
  unfold hb_Ma_toward_335 hm_Ma_answer hb_Ma_answer_0
  rw [show (2 : Int32) = I 2 from rfl, drop_e (W := W + 2) (k := 2) (x := 2) pl.2.2.1.1 rfl (by omega), bnd_so, show W + 2 - 2 = W by omega]
  simp only [bb_e, bnd_so]
  exact pre_pt (K2 := fun u => KK u ()) (l := l) hp1 ru (by omega) ⟨by omega, hl2.2⟩ (lit_b (b := b) (v := 1) (Or.inr (Or.inl rfl)) (z := 0) (fun h => by omega) ⟨by omega, by omega⟩) (FGm.tr f1 FGm.drop) g3 pd (by rw [wi_ne (pq_inj (by omega))]; exact hl) h983 (by rw [wi_ne (pq_n (by omega))]; exact h05) (by omega) cr c
/-- nothing comes of it: q has ENDED, or it is normal and q, another, does not trap -/
theorem op_exitN (hpp : p < PR) (hq : q < PR) (wl : WLs (RRp p) PR Fv P Fv' P' none i j0 m w) (ru : RUs m w p j nb Hs Os y a n) (sc : SCs p m w) (hW : W + 2 ≤ 46000) (hl : F m2 (pq p 45) = ((l : Nat) : Int)) (hl2 : W + 2 ≤ l ∧ l ≤ 1000000) (pl : PLs b p m2 w2 U B (W + 2) Y) (f1 : FGm p m m2) (h05 : F m2 1105 = ((a : Nat) : Int)) (g1 : FGw p j w w2) (h98 : A w2 98 (60 * p + j) = ((n + 1 : Nat) : Int)) (cr : ∃ f, CRs (A m 23) (ROs w) (w.2.2.2 34) f y (a + 2) (n + 1) (Hs j) (Os j))
    (hz : F m (pq q 9) = 3 ∨ (m2.2.2.2 (pq p 35) (W + 1) = mk 1 4 ∧ F m (pq q 9) ≠ 3 ∧ F m (pq q 11) = 0 ∧ q ≠ p))
    (c : ∀ m3 w3, (SFs Fv P Fv' P' PR m3 w3 → WLs (RRp p) PR Fv P Fv' P' none i j0 m3 w3) → PLs b p m3 w3 U B (W + 1) Y → RUs m3 w3 p j nb Hs Os y (a + 2) (n + 1) → FGm p m m3 → FGw p j w w3 → PP Q (K1 m3) (K2 w3)) : PP Q (bnd (hb_Ma_toward_95 N () m2 p (I 29) 2 (some q)) (fun u _ => K1 u)) (bnd (fb_M_processRun_151 N () w2 (I 8) (w2.2.2.2 91 (46000 * p + (W + 1))) (I ((q : Nat) : Int)) 92 (I ((p : Nat) : Int)) (I ((W + 2 : Nat) : Int)) 2) (fun u _ => K2 u)) := by
  obtain ⟨⟨fa, -⟩, -, -, ⟨q9, q9w⟩, -, -, r11, -, -⟩ := id ru
  have hj : j < 60 := fa.1.2.2
  have p24 : PR ≤ 24 := wl.1.2.1.1.1.2
  have rt := pl.2.2.1.2.2 (W + 1) (by omega)
  have be0 : hm_Fr_below N m2 p 0 = some (m2, m2.2.2.2 (pq p 35) (W + 1)) := by
    have := below_e (N := N) (x := 0) (k := 0) (W := W + 2) (l := l) pl.2.2.1.1 hl hl2.1 hl2.2 rfl (by omega)
    rw [show W + 2 - 1 - 0 = W + 1 by omega] at this
    exact this
  have e9 : F m2 (pq q 9) = F m (pq q 9) := congrArg Int32.toInt (f1.1 _ (by simp; exact ⟨fun c => by have := (pq_e (by omega) (by omega) c).2; omega, fun c => by have := (pq_e (by omega) (by omega) c).2; omega, fun c => by have := (pq_e (by omega) (by omega) c).2; omega, fun c => by have := (pq_e (by omega) (by omega) c).2; omega, fun c => pq_n (by omega) c.symm⟩))
  have e11 : F m2 (pq q 11) = F m (pq q 11) := congrArg Int32.toInt (f1.1 _ (by simp; exact ⟨fun c => by have := (pq_e (by omega) (by omega) c).2; omega, fun c => by have := (pq_e (by omega) (by omega) c).2; omega, fun c => by have := (pq_e (by omega) (by omega) c).2; omega, fun c => by have := (pq_e (by omega) (by omega) c).2; omega, fun c => pq_n (by omega) c.symm⟩))
  -- there
  have lf : hb_Ma_toward_95 N () m2 p (I 29) 2 (some q) = hb_Ma_toward_335 N () m2 p 2 (mk 1 0) := by
    rw [tw95_29, be0, bnd_so]
    rcases hz with h | ⟨h4, h9, h11, hqp⟩
    · rw [endB_d (by rw [e9]; exact h), bnd_so, be0, bnd_so, sig_d (by rw [e9]; exact h), bnd_so]
      cases decide (lg_cmp (m2.2.2.2 (pq p 35) (W + 1)) (mk 1 5) = 0) <;> rfl
    · rw [h4, show decide (lg_cmp (mk 1 4) (mk 1 5) = 0) = false from decide_eq_false (fun c => absurd ((lgc_eq _ _).mp c) (by decide)), br_f, be0, bnd_so, h4, oI, sig_n (p := p) (by rw [e9]; exact h9) (by rw [e11]; exact h11) (Ne.symm hqp) (by omega) (by omega), bnd_so]
  rw [lf, prr_8, sub2, tnI (n := p) rfl (by omega), wa_e]
  refine rb_ck (fun _ => rb_ck (fun _ => ?_))
  rw [lt_e, truth1, bnd_so]
  refine r_bb ?_
  refine ext_ans (by omega) ru hW hl hl2 pl f1 h05 g1 h98 cr (fun m8 w8 pl8 ru8 f8 g8 x33 => ?_)
  have fin : PP Q (K1 m8) (K2 w8) := c m8 w8 (fun s2 => WL_own (WL_t wl) hpp (by rw [q9]; omega) (by rw [q9w]; omega) s2 (GGm_fg f8) (GGw_fg g8 hj) pl8 (SC_fg sc f8 g8) ru8) pl8 ru8 f8 g8
  have er : PK (fun w9 (_ : Unit) => w9 = w8) (fm_M_exitRun N w8 (I ((q : Nat) : Int)) (w2.2.2.2 91 (46000 * p + (W + 1)))) := by
    rcases hz with h | ⟨h4, h9, h11, hqp⟩
    · exact exr_d (by omega) (by rw [FR.A g8.1 (by simp)]; exact dead_w wl hq h)
    · have xt : w2.2.2.2 91 (46000 * p + (W + 1)) = mk 1 4 := by
        rw [h4] at rt
        exact RTb_n rt (nh_mk (by omega))
      rw [xt]
      have h9w : A w 109 q ≠ 3 ∧ A w 112 q = 0 := by
        rcases wl.2.2.1 q hq with ⟨x1, x2, b', U', B', W', Y', pl', sc', -⟩ | ⟨x1, -⟩
        · refine ⟨x2, ?_⟩
          show (w.2.2.1 112 q).toInt = 0
          rw [← sc'.2.2.1]
          exact h11
        · exact absurd x1 h9
      exact exr_n (by omega) (by rw [FR.A g8.1 (by simp)]; exact h9w.1) (by rw [FR.A g8.1 (by simp)]; exact h9w.2) x33 (by omega) (Ne.symm hqp)
  refine rb_bnd (pk_mo er (fun w9 _ e => ?_))
  subst e
  exact fin
end
