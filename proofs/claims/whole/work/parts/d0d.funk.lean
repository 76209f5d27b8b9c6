/-! the reader of a text: CLAUSES, FUNCTIONS, all of it -/
set_option maxRecDepth 100000
/-- a CLAUSE of a FUNCTION -/
def CLScK (u : MS) (n lo hi a b q r : Nat) : Prop := HDc n lo hi a b q r ∧ lo + 5 ≤ hi ∧ A u 17 n = ((lo : Nat) : Int) ∧ A u 6 lo = 2 ∧ ∃ k ph, (k ≤ 6 ∧ A u 6 (lo + 1) = 20 ∧ A u 6 ph = 21) ∧ PRTcK u (PwK 0 u) (BwK 0 u) (GwK 0 u) k n (lo + 2) ph (ph + 1) hi a b q r
/-- g FUNCTIONS: p tokens, n nodes, q places -/
def FNScK (u : MS) : Nat → Nat → Nat → Nat → Prop
  | 0 => fun p n q => p = 0 ∧ n = 0 ∧ q = 0
  | g + 1 => fun p n q => ∃ p0 n0 q0 kc k first : Nat, FNScK u g p0 n0 q0 ∧ (p0 + 6 ≤ p ∧ A u 6 (p - 1) = 28) ∧ RWcK u 1 27 (CLScK u) kc first p0 (p - 1) n0 n q0 q ∧ (A u 27 g = ((first : Nat) : Int) ∧ A u 25 g = ((k : Nat) : Int) ∧ k ≤ 6 ∧ A u 24 g = A u 7 p0)
section
variable {u v w : MS} {N c p n q o s p2 n2 q2 m a b l lo hi r d most f t x q0 g z : Nat}
theorem CLS_bdK : BdE (CLScK u) := fun _ _ _ _ _ _ _ h => h.1
theorem CLS_kK (u w : MS) : StE u w (CLScK u) (CLScK w) := fun n lo hi a b q r h kn => by
  obtain ⟨h1, h2, h3, h4, k, ph, h5, h6⟩ := h
  obtain ⟨g1, g2, g3, g4, g5⟩ := kn.g h1.1
  exact ⟨h1, h2, by rw [g2]; exact h3, by show (w.2.2.1 6 lo).toInt = _; rw [kn.1.1]; exact h4, k, ph, ⟨h5.1, by rw [kn.a6]; exact h5.2.1, by rw [kn.a6]; exact h5.2.2⟩, PRT_kK (Pw_stK u w) (Bw_stK u w) (Gw_stK u w) (Pw_bdK u) (Bw_bdK u) (Gw_bdK u) h6 kn⟩
theorem RW_cntK {E : Nat → Nat → Nat → Nat → Nat → Nat → Nat → Prop} (hb : BdE E) : ∀ {k n lo hi a b q r : Nat}, RWcK u d z E k n lo hi a b q r → k + a ≤ b
  | 0, _, _, _, _, _, _, _, h => h.elim
  | k + 1, n, lo, hi, a, b, q, r, h => by
    obtain ⟨m, c, s, e, h⟩ := h
    have g := (hb _ _ _ _ _ _ _ e).1
    rcases h with ⟨h1, -, -, h2, -⟩ | ⟨h1, n2, -, h3⟩
    · omega
    · have := RW_cntK hb h3; omega
/-- what FUNCTIONS rest on -/
theorem FNS_kK (e6 : w.2.2.1 6 = u.2.2.1 6) (e7 : w.2.2.1 7 = u.2.2.1 7) : ∀ {g p n q : Nat}, (∀ k, k ≤ n → A w 16 k = A u 16 k ∧ A w 17 k = A u 17 k ∧ A w 18 k = A u 18 k ∧ A w 19 k = A u 19 k ∧ A w 20 k = A u 20 k ∧ A w 21 k = A u 21 k) → (∀ f, f < g → A w 24 f = A u 24 f ∧ A w 25 f = A u 25 f ∧ A w 27 f = A u 27 f) → FNScK u g p n q → FNScK w g p n q
  | 0, _, _, _, _, _, h => h
  | g + 1, p, n, q, hn, hg, h => by
    obtain ⟨p0, n0, q0, kc, k, first, h1, h2, h3, h4, h5, h6, h7⟩ := h
    have rh := (RW_hdK CLS_bdK h3).1.1
    obtain ⟨g1, g2, g3⟩ := hg g (by omega)
    have a7 : A w 7 p0 = A u 7 p0 := by show (w.2.2.1 7 p0).toInt = _; rw [e7]; rfl
    refine ⟨p0, n0, q0, kc, k, first, FNS_kK e6 e7 (fun k hk => hn k (by omega)) (fun f hf => hg f (by omega)) h1, ⟨h2.1, by show (w.2.2.1 6 _).toInt = _; rw [e6]; exact h2.2⟩, RW_kK (CLS_kK u w) CLS_bdK h3 ⟨⟨e6, e7⟩, fun k k1 k2 => ?_⟩, by rw [g3]; exact h4, by rw [g2]; exact h5, h6, by rw [g1, a7]; exact h7⟩
    obtain ⟨b1, b2, b3, b4, b5, b6⟩ := hn k k2
    exact ⟨⟨b1, b2, b3, b4, b5⟩, fun _ => b6⟩
theorem clause_okcK (h : PSI u c p n q 0 s) (hN : 10000 ≤ N) : OK (fun w r => NDQ (fun w m lo hi a b q r => CLScK w m lo hi a b q r ∧ A w 21 m = 0) u c p n q 0 s w r) (hm_Pa_clause N u) := by
  have hc := h.1.1
  have h2p := h.2.2.1.2
  obtain ⟨-, -, -, -, -, hU1, -, -, -, -, -, hPT, -⟩ := grpP_okK hN 300 0 (by omega)
  unfold hm_Pa_clause hb_Pa_clause_0
  rw [show (2 : Int32) = I 2 from rfl]
  refine need_T h (by omega) (fun w gw => ⟨gw, rfl⟩) (fun ea h2 => ?_)
  have g1 : KPG u (wi u 665 ((p + 1 : Nat) : Int)) := KPG_at
  have o1 : OLDc u (wi u 665 ((p + 1 : Nat) : Int)) n s := OLDc.row rfl
  generalize wi u 665 ((p + 1 : Nat) : Int) = v at h2 g1 o1
  rw [show (20 : Int32) = I 20 from rfl]
  refine need_T h2 (by omega) (fun w gw => ⟨g1.tr gw, rfl⟩) (fun e20 h3 => ?_)
  have g3 : KPG v (wi v 665 ((p + 1 + 1 : Nat) : Int)) := KPG_at
  have o3 : OLDc v (wi v 665 ((p + 1 + 1 : Nat) : Int)) n s := OLDc.row rfl
  generalize wi v 665 ((p + 1 + 1 : Nat) : Int) = w1 at h3 g3 o3
  refine ok_T (ok_mono (hU1 (by omega) 6 21 (by omega) (by omega) w1 c (p + 1 + 1) n q s h3) (fun w5 r hw5 => ?_))
  obtain ⟨g5, hw5⟩ := hw5
  cases r with
  | inr k => exact ⟨g1.tr (g3.tr g5), hw5⟩
  | inl x2 =>
    obtain ⟨mp, p5, n5, q5, rfl, ol5, hv5, hp5, hlo, k, hk6, em⟩ := hw5
    have oh := OR_hdK (Pw_bdK w5) em
    have eq : q = q5 := ORqK (fun _ _ _ _ _ _ _ h => PAqK h) em
    subst eq
    refine ok_T (ok_mono (hPT (by omega) w5 c p5 n5 q s p k mp (p + 1 + 1) (p5 - 1) n hv5 (by omega) (by omega) em) (fun w6 r hw6 => ?_))
    obtain ⟨g6, hw6⟩ := hw6
    cases r with
    | inr k => exact ⟨g1.tr (g3.tr (g5.tr g6)), hw6⟩
    | inl x2 =>
      obtain ⟨m2, p7, n7, q7, rfl, ol7, hv7, hp7, e1, e2, e3, e4, e5, e6, e7, e8⟩ := hw6
      have gu : KPG u w6 := g1.tr (g3.tr (g5.tr g6))
      refine ok_some.mpr ⟨gu, m2, p7, n7, q7, rfl, OLDc.tr o1 (OLDc.tr o3 (OLDc.tr ol5 ol7 (by omega)) (Nat.le_refl _)) (Nat.le_refl _), hv7, by omega, ⟨⟨⟨by omega, by omega⟩, by omega, by omega, by omega, by omega⟩, by omega, e8, by rw [gu.a6]; exact ea, k, p5 - 1, ⟨hk6, (g3.tr (g5.tr g6)).a6.trans e20, g6.a6.trans hlo.2⟩, ?_⟩, e7⟩
      rw [show p5 - 1 + 1 = p5 by omega]
      exact e1
/-- what is known when g FUNCTIONS are read -/
def PFIK (u v : MS) (c g p n q : Nat) : Prop := KPH u v ∧ PSI v c p n q 0 0 ∧ F v 442 = ((g : Nat) : Int) ∧ 6 * g ≤ p ∧ FNScK v g p n q
theorem oneFunction_okcK (h : PFIK u v c g p n q) (hN : 10000 ≤ N) : OK (fun w r => KPH u w ∧ match r with
    | .inr k => k = 3
    | .inl _ => ∃ p2 n2 q2, PFIK u w c (g + 1) p2 n2 q2 ∧ p < p2) (hm_Pa_oneFunction N v) := by
  obtain ⟨ku, hv, e442, hg6, fns⟩ := h
  have hc := hv.1.1
  have h2p := hv.2.2.1.2
  have pc0 := hv.2.1.2
  -- the end of it
  have e58 : ∀ (M k first l pp nn qq : Nat) (w : MS), KPG v w → OLDc v w n 0 → PSI w c pp nn qq 0 0 → p + 5 ≤ pp → RPcK w 1 27 (CLScK w) k first l p pp n nn q qq → A w 21 l = 0 → OK (fun w r => KPH u w ∧ match r with
    | .inr k => k = 3
    | .inl _ => ∃ p2 n2 q2, PFIK u w c (g + 1) p2 n2 q2 ∧ p < p2) (hb_Pa_oneFunction_58 N (hg_Pa_oneFunction N M) w (I ((p : Nat) : Int)) (I ((first : Nat) : Int))) := by
    intro M k first l pp nn qq w gw ow hw hpp rp l0
    unfold hb_Pa_oneFunction_58
    rw [show (28 : Int32) = I 28 from rfl]
    refine need_T hw (by omega) (fun w2 gw2 => ⟨ku.tr (gw.tr gw2).toH, rfl⟩) (fun e28 h2 => ?_)
    have rh := RP_hdK CLS_bdK rp
    have rw0 := RW_ofK CLS_bdK rp l0
    have g1 : KPG w (wi w 665 ((pp + 1 : Nat) : Int)) := KPG_at
    have o1 : OLDc w (wi w 665 ((pp + 1 : Nat) : Int)) nn 0 := OLDc.row rfl
    generalize wi w 665 ((pp + 1 : Nat) : Int) = w1 at h2 g1 o1
    have pc := h2.2.1.2
    have n8 : nn ≤ 8000 := by have := hw.2.2.1.2; have := hw.2.1.2; omega
    have rw1 := RW_kK (CLS_kK w w1) CLS_bdK rw0 (KN_old g1 o1 (Nat.le_refl _))
    -- the first CLAUSE's patterns
    obtain ⟨ka, ma, ca, pha, ea1, ea2, ea3, ea4⟩ : ∃ ka ma ca pha : Nat, ka ≤ 6 ∧ A w1 18 first = ((ma : Nat) : Int) ∧ ca ≤ nn ∧ ORcK w1 1 26 (PwK 0 w1) ka ma (p + 2) pha n ca q q := by
      cases k with
      | zero => exact rw1.elim
      | succ k =>
        obtain ⟨m, cc, ss, e, hh⟩ := rw1
        have hcc : cc ≤ nn := by
          rcases hh with ⟨-, -, -, h, -⟩ | ⟨-, n2, -, h3⟩
          · omega
          · have := (RW_hdK CLS_bdK h3).1.1; omega
        obtain ⟨e1, -, -, -, kk, ph, e2, e3⟩ := e
        obtain ⟨b1, b2, b3, mm, c1, gg, m2, c2, s2, kb, mb, c3, ⟨b4, b5⟩, ⟨b6, b7⟩, ⟨b8, b9⟩, b10⟩ := e3
        have o3 := (RW_hdK (Bw_bdK w1) b9).1.1
        have o2 : c1 ≤ c2 := by
          rcases b7 with b7 | ⟨-, kg, b7⟩
          · omega
          · have := (RW_hdK (Gw_bdK w1) b7).1.1; omega
        exact ⟨kk, mm, c1, ph, e2.1, b4, by omega, b5⟩
    have mb : ma ≤ 8015 := by
      rcases ea4 with ⟨-, h, -⟩ | ⟨-, h⟩
      · omega
      · have := (RW_hdK (Pw_bdK w1) h).1.1; omega
    refine e_in ⟨by omega, by omega⟩ (by decide) (e_in ⟨by omega, by omega⟩ (by decide) ?_)
    rw [tnI (n := p) rfl (by omega), tnI (n := first) rfl (by omega), I_A (k := 18), ea2, len_okK (Pw_bdK w1) hN (by omega) ea4, bnd_so]
    refine e_in ⟨by omega, by omega⟩ (by decide) ?_
    have hk1 : 1 ≤ k := (RW_hdK CLS_bdK rw1).2
    rw [len_okK CLS_bdK hN (by omega) (Or.inr ⟨hk1, rw1⟩), bnd_so]
    have kb : k ≤ 8015 := by have := RW_cntK CLS_bdK rw1; omega
    -- the row of FUNCTIONS
    have e442' : F w1 442 = ((g : Nat) : Int) := by rw [show F w1 442 = F w 442 from congrArg _ (g1.1 442 (by simp)), show F w 442 = F v 442 from congrArg _ (gw.1 442 (by simp))]; exact e442
    unfold hm_Co_addFunction hb_Co_addFunction_0
    have e1 : w1.1 442 = I ((g : Nat) : Int) := by rw [I_F (k := 442), e442']
    have i1 : inb (I ((g : Nat) : Int)) 666 = true := (I_inb (by omega) (by omega)).mpr ⟨by omega, by omega⟩
    have st : ∀ (z : MS) (r : Nat) (y : Int) (f : MS → Option (MS × Unit)), z.1 442 = I ((g : Nat) : Int) → ck (inb (z.1 442) 666) (lt (upA z r (upd (z.2.2.1 r) (z.1 442).toNatClampNeg (I y))) f) = f (wa z r g y) := fun z r y f e => by
      rw [e, i1, ck_t, lt_e, tnI (n := g) rfl (by omega), wa_e]
    rw [show decide (w1.1 442 < 666) = true from by rw [e1, show (666 : Int32) = I 666 from rfl, decL (by omega) (by omega) (by decide) (by decide)]; exact decide_eq_true (by omega), br_t, I_A (k := 7), I_A (k := 8)]
    have e2 : (wa w1 24 g (A w1 7 p)).1 442 = I ((g : Nat) : Int) := e1
    have e3 : (wa (wa w1 24 g (A w1 7 p)) 25 g ((ka : Nat) : Int)).1 442 = I ((g : Nat) : Int) := e1
    have e4 : (wa (wa (wa w1 24 g (A w1 7 p)) 25 g ((ka : Nat) : Int)) 26 g (A w1 8 p)).1 442 = I ((g : Nat) : Int) := e1
    have e5 : (wa (wa (wa (wa w1 24 g (A w1 7 p)) 25 g ((ka : Nat) : Int)) 26 g (A w1 8 p)) 27 g ((first : Nat) : Int)).1 442 = I ((g : Nat) : Int) := e1
    have e6 : (wa (wa (wa (wa (wa w1 24 g (A w1 7 p)) 25 g ((ka : Nat) : Int)) 26 g (A w1 8 p)) 27 g ((first : Nat) : Int)) 28 g ((k : Nat) : Int)).1 442 = I ((g : Nat) : Int) := e1
    rw [st _ _ _ _ e1, st _ _ _ _ e2, st _ _ _ _ e3, st _ _ _ _ e4, st _ _ _ _ e5, lt_e, e6, bnd_so, lit1, I_add, show ((g : Nat) : Int) + 1 = ((g + 1 : Nat) : Int) by omega, wi_e]
    have fR : FR [442] [] [24, 25, 26, 27, 28] [] w1 (wi (wa (wa (wa (wa (wa w1 24 g (A w1 7 p)) 25 g ((ka : Nat) : Int)) 26 g (A w1 8 p)) 27 g ((first : Nat) : Int)) 28 g ((k : Nat) : Int)) 442 ((g + 1 : Nat) : Int)) := FR.wi (FR.wa (FR.wa (FR.wa (FR.wa (FR.wa FR.rf (by simp)) (by simp)) (by simp)) (by simp)) (by simp)) (by simp)
    have fF : F (wi (wa (wa (wa (wa (wa w1 24 g (A w1 7 p)) 25 g ((ka : Nat) : Int)) 26 g (A w1 8 p)) 27 g ((first : Nat) : Int)) 28 g ((k : Nat) : Int)) 442 ((g + 1 : Nat) : Int)) 442 = ((g + 1 : Nat) : Int) := by rw [F_wi (by omega) (by omega), if_pos rfl]
    have fO : ∀ r f, f ≠ g → A (wi (wa (wa (wa (wa (wa w1 24 g (A w1 7 p)) 25 g ((ka : Nat) : Int)) 26 g (A w1 8 p)) 27 g ((first : Nat) : Int)) 28 g ((k : Nat) : Int)) 442 ((g + 1 : Nat) : Int)) r f = A w1 r f := fun r f hf => by
      show A (wa (wa (wa (wa (wa w1 24 g (A w1 7 p)) 25 g ((ka : Nat) : Int)) 26 g (A w1 8 p)) 27 g ((first : Nat) : Int)) 28 g ((k : Nat) : Int)) r f = _
      rw [wa_ne hf, wa_ne hf, wa_ne hf, wa_ne hf, wa_ne hf]
    have f24 : A (wi (wa (wa (wa (wa (wa w1 24 g (A w1 7 p)) 25 g ((ka : Nat) : Int)) 26 g (A w1 8 p)) 27 g ((first : Nat) : Int)) 28 g ((k : Nat) : Int)) 442 ((g + 1 : Nat) : Int)) 24 g = A w1 7 p := by
      show A (wa (wa (wa (wa (wa w1 24 g (A w1 7 p)) 25 g ((ka : Nat) : Int)) 26 g (A w1 8 p)) 27 g ((first : Nat) : Int)) 28 g ((k : Nat) : Int)) 24 g = _
      rw [wa_rne (by decide), wa_rne (by decide), wa_rne (by decide), wa_rne (by decide), wa_eq (A_r w1 7 p)]
    have f25 : A (wi (wa (wa (wa (wa (wa w1 24 g (A w1 7 p)) 25 g ((ka : Nat) : Int)) 26 g (A w1 8 p)) 27 g ((first : Nat) : Int)) 28 g ((k : Nat) : Int)) 442 ((g + 1 : Nat) : Int)) 25 g = ((ka : Nat) : Int) := by
      show A (wa (wa (wa (wa (wa w1 24 g (A w1 7 p)) 25 g ((ka : Nat) : Int)) 26 g (A w1 8 p)) 27 g ((first : Nat) : Int)) 28 g ((k : Nat) : Int)) 25 g = _
      rw [wa_rne (by decide), wa_rne (by decide), wa_rne (by decide), wa_eq ⟨by omega, by omega⟩]
    have f27 : A (wi (wa (wa (wa (wa (wa w1 24 g (A w1 7 p)) 25 g ((ka : Nat) : Int)) 26 g (A w1 8 p)) 27 g ((first : Nat) : Int)) 28 g ((k : Nat) : Int)) 442 ((g + 1 : Nat) : Int)) 27 g = ((first : Nat) : Int) := by
      show A (wa (wa (wa (wa (wa w1 24 g (A w1 7 p)) 25 g ((ka : Nat) : Int)) 26 g (A w1 8 p)) 27 g ((first : Nat) : Int)) 28 g ((k : Nat) : Int)) 27 g = _
      rw [wa_rne (by decide), wa_eq ⟨by omega, by omega⟩]
    generalize wi (wa (wa (wa (wa (wa w1 24 g (A w1 7 p)) 25 g ((ka : Nat) : Int)) 26 g (A w1 8 p)) 27 g ((first : Nat) : Int)) 28 g ((k : Nat) : Int)) 442 ((g + 1 : Nat) : Int) = z at fR fF fO f24 f25 f27
    have rA : ∀ r, r ∉ [24, 25, 26, 27, 28] → z.2.2.1 r = w1.2.2.1 r := fun r hr => fR.2.2.1 r hr
    have aA : ∀ r k, r ∉ [24, 25, 26, 27, 28] → A z r k = A w1 r k := fun r k hr => by show (z.2.2.1 r k).toInt = _; rw [rA r hr]; rfl
    have kz : ∀ {a b l}, KNc w1 z a b l := fun {a b l} => ⟨⟨rA 6 (by simp), rA 7 (by simp)⟩, fun k _ _ => ⟨⟨aA _ _ (by simp), aA _ _ (by simp), aA _ _ (by simp), aA _ _ (by simp), aA _ _ (by simp)⟩, fun _ => aA _ _ (by simp)⟩⟩
    have gvz : KPH v z := (gw.tr g1).toH.tr (FR.mo fR (by simp) (by simp) (by simp) (by simp))
    have oz : OLDc v w1 n 0 := OLDc.tr ow o1 (by omega)
    have fz : ∀ f, f < g → A z 24 f = A v 24 f ∧ A z 25 f = A v 25 f ∧ A z 27 f = A v 27 f := fun f hf => by
      have gv1 : KPG v w1 := gw.tr g1
      have e : ∀ r, r ∉ [16, 17, 18, 19, 20, 21, 34] → A w1 r f = A v r f := fun r hr => by show (w1.2.2.1 r f).toInt = _; rw [gv1.2.2.1 r hr]; rfl
      exact ⟨by rw [fO _ _ (by omega), e 24 (by simp)], by rw [fO _ _ (by omega), e 25 (by simp)], by rw [fO _ _ (by omega), e 27 (by simp)]⟩
    have fns2 : FNScK z g p n q := FNS_kK ((rA 6 (by simp)).trans ((gw.tr g1).2.2.1 6 (by simp))) ((rA 7 (by simp)).trans ((gw.tr g1).2.2.1 7 (by simp))) (fun k hk => by
      obtain ⟨b1, b2, b3, b4, b5, b6⟩ := oz.1 k hk
      exact ⟨by rw [aA _ _ (by simp)]; exact b1, by rw [aA _ _ (by simp)]; exact b2, by rw [aA _ _ (by simp)]; exact b3, by rw [aA _ _ (by simp)]; exact b4, by rw [aA _ _ (by simp)]; exact b5, by rw [aA _ _ (by simp)]; exact b6⟩) fz fns
    refine ok_some.mpr ⟨ku.tr gvz, pp + 1, nn, qq, ⟨ku.tr gvz, ?_, fF, by omega, p, n, q, k, ka, first, fns2, ⟨by omega, by rw [show pp + 1 - 1 = pp by omega, aA 6 _ (by simp), g1.a6]; exact e28⟩, ?_, f27, f25, ea1, ?_⟩, by omega⟩
    · obtain ⟨b1, b2, b3, b4, b5, b6⟩ := h2
      have e : ∀ k, k ≠ 442 → F z k = F w1 k := fun k hk => congrArg _ (fR.1 k (by simp; exact hk))
      refine ⟨?_, ⟨by rw [e 665 (by decide)]; exact b2.1, b2.2⟩, ⟨by rw [e 306 (by decide)]; exact b3.1, b3.2⟩, by rw [e 449 (by decide)]; exact b4, ⟨by rw [e 666 (by decide)]; exact b5.1, b5.2⟩, by rw [e 664 (by decide)]; exact b6.1, b6.2⟩
      unfold TKKc
      simp only [aA 6 _ (by simp)]; exact b1
    · rw [show pp + 1 - 1 = pp by omega]
      exact RW_kK (CLS_kK w1 z) CLS_bdK rw1 kz
    · rw [f24, aA 7 _ (by simp)]
  have gen : ∀ (M k j first l pp nn qq : Nat) (w : MS), KPG v w → OLDc v w n 0 → PSI w c pp nn qq 0 0 → p + 5 ≤ pp → RPcK w 1 27 (CLScK w) k first l p pp n nn q qq → A w 21 l = 0 → j + p ≤ pp → 4001 < M + pp → OK (fun w r => KPH u w ∧ match r with
    | .inr k => k = 3
    | .inl _ => ∃ p2 n2 q2, PFIK u w c (g + 1) p2 n2 q2 ∧ p < p2) (hg_Pa_oneFunction N M w (I ((p : Nat) : Int)) (I ((first : Nat) : Int)) (I ((l : Nat) : Int)) (I ((j : Nat) : Int))) := by
    intro M
    induction M with
    | zero =>
      intro k j first l pp nn qq w _ _ hw
      have := hw.2.1.2
      omega
    | succ M ih =>
      intro k j first l pp nn qq w gv ol hw hpp rp l0 hj hM
      show OK _ (hb_Pa_oneFunction_15 N (hg_Pa_oneFunction N M) w (I ((p : Nat) : Int)) (I ((first : Nat) : Int)) (I ((l : Nat) : Int)) (I ((j : Nat) : Int)))
      unfold hb_Pa_oneFunction_15
      have ppc := hw.2.1.2
      have rh := RP_hdK CLS_bdK rp
      have hk1 : 1 ≤ k := by
        cases k with
        | zero => exact rp.elim
        | succ k => omega
      have done := e58 M k first l pp nn qq w gv ol hw hpp rp l0
      rw [show (4000 : Int32) = I 4000 from rfl]
      refine k_le ⟨by decide, by decide⟩ ⟨by omega, by omega⟩ (fun _ => done) (fun hlt => look_T hw (fun w2 gw => ⟨ku.tr (gv.tr gw).toH, rfl⟩) (fun h45 => ?_))
      rw [show (27 : Int32) = I 27 from rfl]
      refine k_eq (A_r w 6 pp) ⟨by decide, by decide⟩ (fun e26 => ok_lt.mpr ?_) (fun _ => done)
      obtain ⟨hlt2, hv2⟩ := PSI_at hw ⟨by omega, by omega⟩
      rw [inc_e hw]
      have g2 : KPG w (wi w 665 ((pp + 1 : Nat) : Int)) := KPG_at
      have o2 : OLDc w (wi w 665 ((pp + 1 : Nat) : Int)) nn 0 := OLDc.row rfl
      generalize wi w 665 ((pp + 1 : Nat) : Int) = v2 at hv2 g2 o2
      refine ok_T (ok_mono (clause_okcK (N := N) hv2 hN) (fun w3 r hw3 => ?_))
      obtain ⟨gw, hw3⟩ := hw3
      cases r with
      | inr k => exact ⟨ku.tr (gv.tr (g2.tr gw)).toH, hw3⟩
      | inl x =>
        obtain ⟨m, p3, n3, q3, rfl, ol3, hv3, hp3, em, m0⟩ := hw3
        have hm := em.1
        have hm1 := hm.1
        have n3b : n3 ≤ 8000 := by have := hv3.2.2.1.2; have := hv3.2.1.2; omega
        show OK _ (bnd (hm_Pa_chain N w3 (I ((l : Nat) : Int)) (I ((m : Nat) : Int))) _)
        rw [chain_e (by omega), bnd_so, lit1, I_add, show ((j : Nat) : Int) + 1 = ((j + 1 : Nat) : Int) by omega]
        have ov : OLDc w w3 nn 0 := OLDc.tr o2 ol3 (Nat.le_refl _)
        have gw3 : KPG w w3 := g2.tr gw
        have gw2 : KPG w3 (wa w3 21 l ((m : Nat) : Int)) := FR.wa FR.rf (by simp)
        have a21 : ∀ k, k ≠ l → A (wa w3 21 l ((m : Nat) : Int)) 21 k = A w3 21 k := fun k hk => wa_ne hk
        have aO : ∀ r k, r ≠ 21 → A (wa w3 21 l ((m : Nat) : Int)) r k = A w3 r k := fun r k hr => wa_rne hr
        have a21l : A (wa w3 21 l ((m : Nat) : Int)) 21 l = ((m : Nat) : Int) := wa_eq ⟨by omega, by omega⟩
        have hv4 : PSI (wa w3 21 l ((m : Nat) : Int)) c p3 n3 q3 0 0 := ⟨TKK_g gw2 hv3.1, hv3.2⟩
        have e6 : (wa w3 21 l ((m : Nat) : Int)).2.2.1 6 = w3.2.2.1 6 := gw2.2.2.1 6 (by simp)
        have e7 : (wa w3 21 l ((m : Nat) : Int)).2.2.1 7 = w3.2.2.1 7 := gw2.2.2.1 7 (by simp)
        generalize wa w3 21 l ((m : Nat) : Int) = w5 at gw2 a21 aO a21l hv4 e6 e7
        have kv : KNc w w5 n nn l := ⟨⟨e6.trans (gw3.2.2.1 6 (by simp)), e7.trans (gw3.2.2.1 7 (by simp))⟩, fun k k1 k2 => by
          obtain ⟨b1, b2, b3, b4, b5, b6⟩ := ov.1 k k2
          exact ⟨⟨by rw [aO _ _ (by decide)]; exact b1, by rw [aO _ _ (by decide)]; exact b2, by rw [aO _ _ (by decide)]; exact b3, by rw [aO _ _ (by decide)]; exact b4, by rw [aO _ _ (by decide)]; exact b5⟩, fun k3 => by rw [a21 k k3]; exact b6⟩⟩
        have kw : KNc w3 w5 nn n3 m := ⟨⟨e6, e7⟩, fun k k1 k2 => ⟨⟨aO _ _ (by decide), aO _ _ (by decide), aO _ _ (by decide), aO _ _ (by decide), aO _ _ (by decide)⟩, fun k3 => a21 k (by omega)⟩⟩
        have rp5 := RP_kK (CLS_kK w w5) CLS_bdK rp kv
        have em5 := CLS_kK w3 w5 _ _ _ _ _ _ _ em kw
        refine ih (k + 1) (j + 1) first m p3 n3 q3 w5 (gv.tr (gw3.tr gw2)) ?_ hv4 (by omega) (Or.inr ⟨hk1, l, pp, nn, qq, rp5, ⟨a21l, fun _ => (gw3.tr gw2).a6.trans e26⟩, em5⟩) ?_ (by omega) (by omega)
        · have o6 := OLDc.tr ol ov (by omega)
          refine ⟨fun k hk => ?_, fun i hi => absurd hi (by omega)⟩
          obtain ⟨b1, b2, b3, b4, b5, b6⟩ := o6.1 k hk
          exact ⟨by rw [aO _ _ (by decide)]; exact b1, by rw [aO _ _ (by decide)]; exact b2, by rw [aO _ _ (by decide)]; exact b3, by rw [aO _ _ (by decide)]; exact b4, by rw [aO _ _ (by decide)]; exact b5, by rw [a21 k (by omega)]; exact b6⟩
        · rw [a21 m (by omega)]; exact m0
  unfold hm_Pa_oneFunction hb_Pa_oneFunction_0
  rw [show v.1 665 = I ((p : Nat) : Int) by rw [I_F (k := 665), hv.2.1.1]]
  refine ok_T (ok_mono (clause_okcK (N := N) hv hN) (fun w3 r hw3 => ?_))
  obtain ⟨gw, hw3⟩ := hw3
  cases r with
  | inr k => exact ⟨ku.tr gw.toH, hw3⟩
  | inl x =>
    obtain ⟨m, p3, n3, q3, rfl, ol3, hv3, hp3, em, m0⟩ := hw3
    have h5 := em.2.1
    exact gen N 1 0 m m p3 n3 q3 w3 gw ol3 hv3 (by omega) (Or.inl ⟨rfl, rfl, em⟩) m0 (by omega) (by omega)
end
