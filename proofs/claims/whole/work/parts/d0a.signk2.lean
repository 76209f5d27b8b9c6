/-! the reader of a text with the kinds of its tokens: units with signs between, all of it -/
set_option maxRecDepth 100000
section
variable {u v w : MS} {N c p n q o s p2 n2 q2 a b l lo hi r d most f t x q0 base first : Nat}
theorem SP_firstK {E : Nat → Nat → Nat → Nat → Nat → Nat → Nat → Prop} (hb : BdE E) : ∀ {j l x c r : Nat} {S : List Nat} {g : Bool}, SPcK u E n lo a q j l x c r S g → a < n ∧ n ≤ c
  | 0, _, _, _, _, _, _, h => h.elim
  | j + 1, l, x, c, r, S, g, h => by
    rcases h with ⟨h1, h2, h0, h3⟩ | ⟨h1, h0, l2, x2, c2, r2, S2, g2, h2, h3, h4⟩
    · have := (STP_hdK hb h3).1; omega
    · have := (STP_hdK hb h4).1
      have := SP_firstK hb h2
      omega
theorem SP_tkK {E : Nat → Nat → Nat → Nat → Nat → Nat → Nat → Prop} (hb : BdE E) : ∀ {j l x c r : Nat} {S : List Nat} {g : Bool}, SPcK u E n lo a q j l x c r S g → lo + 2 ≤ x ∧ 5 * r + lo + 2 ≤ 5 * q + x
  | 0, _, _, _, _, _, _, h => h.elim
  | j + 1, l, x, c, r, S, g, h => by
    rcases h with ⟨h1, h2, h0, h3⟩ | ⟨h1, h0, l2, x2, c2, r2, S2, g2, h2, h3, h4⟩
    · rcases h3 with ⟨⟨m, e1, e2⟩, -⟩ | ⟨-, st, -⟩
      · have := hb _ _ _ _ _ _ _ e1
        unfold HDc at this
        omega
      · cases st
    · have := STP_hdK hb h4
      have := SP_tkK hb h2
      omega
theorem signed_okcK {S : SF_Pa_matched} (ho : o ≤ 25)
    (hu : ∀ u c p n q s, PSI u c p n q o s → OK (fun w r => NDQ (fun w m lo hi a b q r => UwK 1 o w m lo hi a b q r ∧ A w 21 m = 0) u c p n q o s w r) (S.2.2.2.2.2.2.2.2.2.2.2.2.1 u))
    (h : PSI u c p n q o s) (hN : 10000 ≤ N) : OK (fun w r => NDQ (fun w m lo hi a b q r => UwK 2 o w m lo hi a b q r ∧ A w 21 m = 0) u c p n q o s w r) (hm_Pa_signed N S u) := by
  have hc := h.1.1
  have h2p := h.2.2.1.2
  -- the end of it
  have e155 : ∀ (M pp nn qq j l m mx z al : Nat) (aa oo : Option Nat) (Sg : List Nat) (first : Nat) (v : MS), SGIK u v c p n q o s pp nn qq j l m mx z aa oo Sg first → rnkc (A v 6 pp) = 0 → ((al = 1 ∧ j = 1 ∧ m = 0 ∧ l = first) ∨ (al = 0 ∧ 2 ≤ j ∧ nn + m + 2 + 2 * p ≤ n + 2 * pp)) → nn + m + 1 + 2 * p ≤ n + 2 * pp → OK (fun w r => NDQ (fun w m lo hi a b q r => UwK 2 o w m lo hi a b q r ∧ A w 21 m = 0) u c p n q o s w r) (hb_Pa_signed_155 N S (hg_Pa_signed N S M) v (I ((p : Nat) : Int)) (I ((s : Nat) : Int)) (I ((first : Nat) : Int)) (I ((l : Nat) : Int)) (I ((al : Nat) : Int))) := by
    intro M pp nn qq j l m mx z al aa oo Sg first v hs hr0 hal hcnt
    have hs' := hs
    obtain ⟨g, ol, hv, sp, ⟨stk, sgl⟩, l0⟩ := hs
    have ppc := hv.2.1.2
    unfold hb_Pa_signed_155
    rcases hal with ⟨h1, h2, h3, h4⟩ | ⟨h1, hj2, h2⟩
    · subst h1 h2 h3 h4
      refine ok_br.mpr ⟨fun z => absurd z (by decide), fun _ => ok_some.mpr ?_⟩
      rcases sp with ⟨-, -, -, st⟩ | ⟨h1, -⟩
      · rcases st with ⟨⟨mm, e1, e2⟩, -⟩ | ⟨-, st, -⟩
        · have e3 : mm = pp := by omega
          subst e3
          have hd := (Uw_bdK v _ _ _ _ _ _ _ e1).2.1
          exact ⟨g, l, mm, nn, qq, rfl, ol, hv, by omega, XP_kK (by omega) (by omega) _ _ _ _ _ _ _ e1 (KN_old KPG.rf (OLDc.rf (n := nn) (s := 0)) (Nat.le_refl _)), l0⟩
        · cases st
      · exact absurd h1 (by decide)
    · subst h1
      refine ok_br.mpr ⟨fun _ => ?_, fun z => absurd z (by decide)⟩
      rw [show (0 : Int32) = I ((0 : Nat) : Int) from rfl]
      have hm4 : m ≤ 4000 := by have := hv.2.2.2.2.2.2; omega
      refine ok_T (ok_mono (closeS_okK (N := N) (rk := 0) hN (by omega) N v pp nn qq j l m mx z aa oo Sg hs' (by rw [← g.a6]; exact hr0) hcnt h2p (by omega)) (fun w r hw => ?_))
      obtain ⟨gw, hw⟩ := hw
      cases r with
      | inr k => exact ⟨gw, hw⟩
      | inl x =>
        obtain ⟨nn2, j2, l2, m2, mx2, z2, aa2, oo2, S2, rfl, ⟨-, ol2, hv2, sp2, ⟨stk2, sgl2⟩, l20⟩, b3, b4, b5, b6⟩ := hw
        have m20 : m2 = 0 := by
          rcases b6 with b6 | b6 | b6
          · exact b6
          · omega
          · omega
        subst m20
        have hS2 : S2 = [] := sgl2
        subst hS2
        have sh := SP_hdK (Uw_bdK w) sp2
        have stk4 := SP_tkK (Uw_bdK w) sp2
        have n2b : nn2 ≤ 8000 := by have := hv2.2.2.1.2; omega
        have fb : first ≤ 8015 := by have := SP_firstK (Uw_bdK w) sp2; omega
        rw [show (22 : Int32) = I 22 from rfl]
        refine add_B hv2 (by omega) ⟨by decide, by decide⟩ ⟨by omega, by omega⟩ ⟨by omega, by omega⟩ ⟨by decide, by decide⟩ ⟨by decide, by decide⟩ (fun w6 g6 o6 h6 fa => ok_some.mpr ?_)
        obtain ⟨f1, f2, f3, f4, f5, f6⟩ := fa
        have sf : SFcK w (UwK 1 o w) pp nn2 qq j2 first p n q [] false := by
          have := SF_appK (i := 0) (n2 := 0) (hi := pp) (b := nn2) (r2 := qq) sp2 (by rw [l20]; rfl) ⟨rfl, rfl, rfl, rfl, rfl, rfl⟩
          exact this
        refine ⟨gw.tr g6, nn2 + 1, pp, nn2 + 1, qq, rfl, OLDc.tr ol2 (OLDc.mo o6 (by omega)) (by omega), h6, by omega, ?_, f6⟩
        exact ⟨⟨⟨by omega, by omega⟩, by omega, by omega, by omega, by omega⟩, ⟨p, f2, by omega, by omega⟩, ho, Or.inr (Or.inr (Or.inr (Or.inr (Or.inr (Or.inr (Or.inr (Or.inr (Or.inr (Or.inr (Or.inr (Or.inr (Or.inr (Or.inr (Or.inr (Or.inr ⟨f1, Nat.le_refl _, j2, first, nn2, f3, SF_kK (Uw_stK w w6) (Uw_bdK w) sf (KN_old g6 o6 (Nat.le_refl _)), by omega, by omega⟩)))))))))))))))⟩
  have gen : ∀ (M pp nn qq j l m mx z al i : Nat) (aa oo : Option Nat) (Sg : List Nat) (first : Nat) (v : MS), SGIK u v c p n q o s pp nn qq j l m mx z aa oo Sg first → ((al = 1 ∧ j = 1 ∧ m = 0 ∧ l = first) ∨ (al = 0 ∧ 2 ≤ j ∧ nn + m + 2 + 2 * p ≤ n + 2 * pp)) → nn + m + 1 + 2 * p ≤ n + 2 * pp → i + p ≤ pp → 4001 < M + pp → OK (fun w r => NDQ (fun w m lo hi a b q r => UwK 2 o w m lo hi a b q r ∧ A w 21 m = 0) u c p n q o s w r) (hg_Pa_signed N S M v (I ((p : Nat) : Int)) (I ((s : Nat) : Int)) (I ((first : Nat) : Int)) (I ((l : Nat) : Int)) (I ((al : Nat) : Int)) (I ((i : Nat) : Int))) := by
    intro M
    induction M with
    | zero =>
      intro pp nn qq j l m mx z al i aa oo Sg first v hs
      have := hs.2.2.1.2.1.2
      omega
    | succ M ih =>
      intro pp nn qq j l m mx z al i aa oo Sg first v hs hal hcnt hi hM
      have hs' := hs
      obtain ⟨g, ol, hv, sp, ⟨stk, sgl⟩, l0⟩ := hs
      have ppc := hv.2.1.2
      have smp := hv.2.2.2.2.2.2
      show OK _ (hb_Pa_signed_24 N S (hg_Pa_signed N S M) v (I ((p : Nat) : Int)) (I ((s : Nat) : Int)) (I ((first : Nat) : Int)) (I ((l : Nat) : Int)) (I ((al : Nat) : Int)) (I ((i : Nat) : Int)))
      unfold hb_Pa_signed_24
      rw [show (4000 : Int32) = I 4000 from rfl]
      refine k_le ⟨by decide, by decide⟩ ⟨by omega, by omega⟩ (fun hge => e155 M pp nn qq j l m mx z al aa oo Sg first v hs' (by
        have ec : pp = c := by omega
        rw [ec]
        rcases hv.1.2.1 with y | y <;> rw [y] <;> rfl) hal hcnt) (fun hlt => look_T hv (fun w gw => ⟨g.tr gw, rfl⟩) (fun h45 => ?_))
      have tr := tk_rng hv.1 ppc
      have rk6 := rk_le (A v 6 pp)
      rw [rank_e tr, bnd_so, lit0]
      refine k_le ⟨by omega, by omega⟩ ⟨by decide, by decide⟩ (fun hz => e155 M pp nn qq j l m mx z al aa oo Sg first v hs' (by omega) hal hcnt) (fun hrk => look_T hv (fun w gw => ⟨g.tr gw, rfl⟩) (fun _ => ?_))
      rw [rank_e tr, bnd_so]
      have k0 : A v 6 pp ≠ 0 := fun z => by rw [z] at hrk; exact absurd hrk (by decide)
      have hm4 : m ≤ 4000 := by omega
      refine ok_T (ok_mono (closeS_okK (N := N) (rk := rnkc (A v 6 pp)) hN rk6 N v pp nn qq j l m mx z aa oo Sg hs' (by rw [← g.a6]) hcnt h2p (by omega)) (fun w r hw => ?_))
      obtain ⟨gw, hw⟩ := hw
      cases r with
      | inr k => exact ⟨gw, hw⟩
      | inl x =>
        obtain ⟨nn2, j2, l2, m2, mx2, z2, aa2, oo2, S2, rfl, ⟨gu, ol2, hv2, sp2, ⟨stk2, sgl2⟩, l20⟩, b3, b4, b5, b6⟩ := hw
        have sm2 := hv2.2.2.2.2.2.2
        have e6 : A w 6 pp = A v 6 pp := by rw [gu.a6, ← g.a6]
        show OK _ (ck (inb (w.1 664) 4002) _)
        rw [show w.1 664 = I ((s + m2 : Nat) : Int) by rw [I_F (k := 664), hv2.2.2.2.2.2.1], show w.1 665 = I ((pp : Nat) : Int) by rw [I_F (k := 665), hv2.2.1.1]]
        refine e_in ⟨by omega, by omega⟩ (by decide) (ok_lt.mpr ?_)
        rw [tnI (n := s + m2) rfl (by omega), wa_e]
        refine ok_lt.mpr ?_
        rw [show (wa w 34 (s + m2) ((pp : Nat) : Int)).1 664 = I ((s + m2 : Nat) : Int) by show w.1 664 = _; rw [I_F (k := 664), hv2.2.2.2.2.2.1], lit1, I_add, show ((s + m2 : Nat) : Int) + 1 = ((s + (m2 + 1) : Nat) : Int) by omega, wi_e]
        have g3 : KPG w (wi (wa w 34 (s + m2) ((pp : Nat) : Int)) 664 ((s + (m2 + 1) : Nat) : Int)) := FR.wi (FR.wa FR.rf (by simp)) (by simp)
        have A3 : ∀ r k, r ≠ 34 → A (wi (wa w 34 (s + m2) ((pp : Nat) : Int)) 664 ((s + (m2 + 1) : Nat) : Int)) r k = A w r k := fun r k hr => wa_rne hr
        have A34 : ∀ k, k ≠ s + m2 → A (wi (wa w 34 (s + m2) ((pp : Nat) : Int)) 664 ((s + (m2 + 1) : Nat) : Int)) 34 k = A w 34 k := fun k hk => wa_ne hk
        have A34e : A (wi (wa w 34 (s + m2) ((pp : Nat) : Int)) 664 ((s + (m2 + 1) : Nat) : Int)) 34 (s + m2) = ((pp : Nat) : Int) := wa_eq ⟨by omega, by omega⟩
        have eF : ∀ k, k ≠ 664 → F (wi (wa w 34 (s + m2) ((pp : Nat) : Int)) 664 ((s + (m2 + 1) : Nat) : Int)) k = F w k := fun k hk => by rw [F_wi (by omega) (by omega), if_neg hk]; rfl
        have eF4 : F (wi (wa w 34 (s + m2) ((pp : Nat) : Int)) 664 ((s + (m2 + 1) : Nat) : Int)) 664 = ((s + (m2 + 1) : Nat) : Int) := by rw [F_wi (by omega) (by omega), if_pos rfl]
        generalize wi (wa w 34 (s + m2) ((pp : Nat) : Int)) 664 ((s + (m2 + 1) : Nat) : Int) = w3 at g3 A3 A34 A34e eF eF4
        have hlt3 : pp < c := by
          rcases Nat.lt_or_ge pp c with z | z
          · exact z
          · have e : pp = c := by omega
            rw [e] at k0 h45
            rcases hv.1.2.1 with z | z
            · exact absurd z k0
            · exact absurd z h45
        -- the state's numbers but for the signs
        have P3 : F w3 665 = ((pp : Nat) : Int) ∧ F w3 306 = ((nn2 : Nat) : Int) ∧ F w3 449 = F w 449 ∧ F w3 666 = F w 666 := ⟨by rw [eF 665 (by decide)]; exact hv2.2.1.1, by rw [eF 306 (by decide)]; exact hv2.2.2.1.1, eF 449 (by decide), eF 666 (by decide)⟩
        have kw3 : ∀ {a b l}, KNc w w3 a b l := fun {a b l} => ⟨⟨g3.2.2.1 6 (by simp), g3.2.2.1 7 (by simp)⟩, fun k _ _ => ⟨⟨A3 _ _ (by decide), A3 _ _ (by decide), A3 _ _ (by decide), A3 _ _ (by decide), A3 _ _ (by decide)⟩, fun _ => A3 _ _ (by decide)⟩⟩
        have sp3 := SP_kK (Uw_stK w w3) (Uw_bdK w) sp2 kw3
        have a63 : A w3 6 pp = A v 6 pp := by rw [g3.a6]; exact e6
        have stk3 : SGKc w3 s (pp + 1) m2 mx2 z2 aa2 oo2 := STK_k (g3.2.2.1 6 (by simp)) (by omega) (fun i hi => A34 i (by omega)) stk2
        have sgl3 : SGLk w3 s m2 S2 := SGL_k (fun i hi => A34 i (by omega)) sgl2
        have smx := STK_mx stk2
        have ord : mx2 < rnkc (A v 6 pp) ∨ (mx2 = 4 ∧ rnkc (A v 6 pp) = 4) := by
          rcases b6 with b6 | b6 | b6
          · subst b6
            have := stk2.1
            omega
          · exact Or.inl b6
          · exact Or.inr b6
        have clo : ∀ (z : MS), (∀ t, A z 6 t = A v 6 t) → CLOk z pp S2 := fun z ez t S3 hS => by
          subst hS
          cases m2 with
          | zero => cases sgl2
          | succ m2 =>
            obtain ⟨t1, S4, y1, y2, -⟩ := sgl2
            injection y1 with y1 y3
            obtain ⟨t5, k5, mx5, z5, aa5, oo5, ⟨x1, x2⟩, x3, x4, x5, -⟩ := stk2
            have et : t = t5 := by rw [y2] at x1; omega
            have ew : A w 6 t5 = A v 6 t5 := by rw [gu.a6, ← g.a6]
            rw [ez, ez, et, ← ew, x3, ← x4]
            exact ord
        -- from here on: a unit, then again
        have e127 : ∀ (v3 : MS) (nn3 j3 l3 z' : Nat) (aa' oo' : Option Nat) (S3 : List Nat) (gg : Bool), KPG w3 v3 → (∀ k, k ≤ n → A v3 16 k = A u 16 k ∧ A v3 17 k = A u 17 k ∧ A v3 18 k = A u 18 k ∧ A v3 19 k = A u 19 k ∧ A v3 20 k = A u 20 k ∧ A v3 21 k = A u 21 k) → (∀ i, i < s + (m2 + 1) → A v3 34 i = A w3 34 i) → (F v3 665 = ((pp : Nat) : Int) ∧ F v3 306 = ((nn3 : Nat) : Int) ∧ F v3 449 = F w 449 ∧ F v3 666 = F w 666 ∧ F v3 664 = ((s + (m2 + 1) : Nat) : Int)) → 1 ≤ j3 → SPcK v3 (UwK 1 o v3) first p n q j3 l3 (pp + 1) nn3 qq S3 gg → ((gg = false ∧ S3 = pp :: S2) ∨ (gg = true ∧ S3 = S2 ∧ 3 ≤ rnkc (A v 6 pp))) → SGKc w3 s (pp + 1) (m2 + 1) (rnkc (A v 6 pp)) z' aa' oo' → A v3 21 l3 = 0 → nn3 ≤ nn2 + 1 → OK (fun w r => NDQ (fun w m lo hi a b q r => UwK 2 o w m lo hi a b q r ∧ A w 21 m = 0) u c p n q o s w r) (hb_Pa_signed_127 N S (hg_Pa_signed N S M) v3 (I ((p : Nat) : Int)) (I ((s : Nat) : Int)) (I ((first : Nat) : Int)) (I ((l3 : Nat) : Int)) (0 : Int32) (I ((i : Nat) : Int))) := by
          intro v3 nn3 j3 l3 z' aa' oo' S3 gg gv3 old3 sg3 P hj3 sp4 hgg stk4 l30 hn3
          unfold hb_Pa_signed_127
          refine ok_lt.mpr ?_
          rw [show v3.1 665 = I ((pp : Nat) : Int) by rw [I_F (k := 665), P.1], lit1, I_add, show ((pp : Nat) : Int) + 1 = ((pp + 1 : Nat) : Int) by omega, wi_e]
          have g4 : KPG v3 (wi v3 665 ((pp + 1 : Nat) : Int)) := KPG_at
          have r4 : (wi v3 665 ((pp + 1 : Nat) : Int)).2.2.1 = v3.2.2.1 := rfl
          have h4 : PSI (wi v3 665 ((pp + 1 : Nat) : Int)) c (pp + 1) nn3 qq o (s + (m2 + 1)) := by
            have e : ∀ k, k ≠ 665 → F (wi v3 665 ((pp + 1 : Nat) : Int)) k = F v3 k := fun k hk => by rw [F_wi (by omega) (by omega), if_neg hk]
            exact ⟨TKK_g (g3.tr (gv3.tr g4)) hv2.1, ⟨by rw [F_wi (by omega) (by omega), if_pos rfl], by omega⟩, ⟨by rw [e 306 (by decide)]; exact P.2.1, by omega⟩, by rw [e 449 (by decide), P.2.2.1]; exact hv2.2.2.2.1, ⟨by rw [e 666 (by decide), P.2.2.2.1]; exact hv2.2.2.2.2.1.1, ho⟩, by rw [e 664 (by decide)]; exact P.2.2.2.2, by omega⟩
          generalize wi v3 665 ((pp + 1 : Nat) : Int) = v4 at g4 r4 h4
          have A4 : ∀ r k, A v4 r k = A v3 r k := fun r k => by show (v4.2.2.1 r k).toInt = _; rw [r4]; rfl
          refine ok_T (ok_mono (hu v4 c (pp + 1) nn3 qq (s + (m2 + 1)) h4) (fun w5 r hw5 => ?_))
          obtain ⟨g5, hw5⟩ := hw5
          cases r with
          | inr k => exact ⟨gu.tr (g3.tr (gv3.tr (g4.tr g5))), hw5⟩
          | inl x5 =>
            obtain ⟨m5, p5, n5, q5, rfl, ol5, hv5, hp5, em, m50⟩ := hw5
            have hd := Uw_bdK w5 _ _ _ _ _ _ _ em
            unfold HDc at hd
            have n5b : n5 ≤ 8000 := by have := hv5.2.2.1.2; have := hv5.2.1.2; omega
            have p5c := hv5.2.1.2
            have sh := SP_hdK (Uw_bdK v3) sp4
            show OK _ (bnd (hm_Pa_chain N w5 (I ((l3 : Nat) : Int)) (I ((m5 : Nat) : Int))) _)
            rw [chain_e (by omega), bnd_so, I_add, show ((i : Nat) : Int) + 1 = ((i + 1 : Nat) : Int) by omega]
            have g6 : KPG w5 (wa w5 21 l3 ((m5 : Nat) : Int)) := FR.wa FR.rf (by simp)
            have a21 : ∀ k, k ≠ l3 → A (wa w5 21 l3 ((m5 : Nat) : Int)) 21 k = A w5 21 k := fun k hk => wa_ne hk
            have aO : ∀ r k, r ≠ 21 → A (wa w5 21 l3 ((m5 : Nat) : Int)) r k = A w5 r k := fun r k hr => wa_rne hr
            have a21l : A (wa w5 21 l3 ((m5 : Nat) : Int)) 21 l3 = ((m5 : Nat) : Int) := wa_eq ⟨by omega, by omega⟩
            have h6 : PSI (wa w5 21 l3 ((m5 : Nat) : Int)) c p5 n5 q5 o (s + (m2 + 1)) := ⟨TKK_g g6 hv5.1, hv5.2⟩
            generalize wa w5 21 l3 ((m5 : Nat) : Int) = w6 at g6 a21 aO a21l h6
            have gv36 : KPG v3 w6 := g4.tr (g5.tr g6)
            have kv : KNc v3 w6 n nn3 l3 := ⟨⟨gv36.2.2.1 6 (by simp), gv36.2.2.1 7 (by simp)⟩, fun k k1 k2 => by
              obtain ⟨b1, b2, b3, b4, b5, b6⟩ := ol5.1 k k2
              exact ⟨⟨by rw [aO _ _ (by decide), b1, A4], by rw [aO _ _ (by decide), b2, A4], by rw [aO _ _ (by decide), b3, A4], by rw [aO _ _ (by decide), b4, A4], by rw [aO _ _ (by decide), b5, A4]⟩, fun k3 => by rw [a21 k k3, b6, A4]⟩⟩
            have kw : KNc w5 w6 nn3 n5 m5 := ⟨⟨g6.2.2.1 6 (by simp), g6.2.2.1 7 (by simp)⟩, fun k k1 k2 => ⟨⟨aO _ _ (by decide), aO _ _ (by decide), aO _ _ (by decide), aO _ _ (by decide), aO _ _ (by decide)⟩, fun k3 => a21 k (by omega)⟩⟩
            have sp6 := SP_kK (Uw_stK v3 w6) (Uw_bdK v3) sp4 kv
            have em6 := Uw_stK w5 w6 _ _ _ _ _ _ _ em kw
            have ol6 : OLDc u w6 n s := by
              refine ⟨fun k hk => ?_, fun i hi => ?_⟩
              · obtain ⟨b1, b2, b3, b4, b5, b6⟩ := ol5.1 k (by omega)
                obtain ⟨c1, c2, c3, c4, c5, c6⟩ := old3 k hk
                exact ⟨by rw [aO _ _ (by decide), b1, A4]; exact c1, by rw [aO _ _ (by decide), b2, A4]; exact c2, by rw [aO _ _ (by decide), b3, A4]; exact c3, by rw [aO _ _ (by decide), b4, A4]; exact c4, by rw [aO _ _ (by decide), b5, A4]; exact c5, by rw [a21 k (by omega), b6, A4]; exact c6⟩
              · rw [aO _ _ (by decide), ol5.2 i (by omega), A4, sg3 i (by omega), A34 i (by omega)]; exact ol2.2 i hi
            have stk6 : SGKc w6 s p5 (m2 + 1) (rnkc (A v 6 pp)) z' aa' oo' := STK_k ((gv36.2.2.1 6 (by simp)).trans (gv3.2.2.1 6 (by simp))) (by omega) (fun i hi => by rw [aO _ _ (by decide), ol5.2 i (by omega), A4, sg3 i (by omega)]) stk4
            have w6v : ∀ t, A w6 6 t = A v 6 t := fun t => by rw [(gu.tr (g3.tr (gv3.tr gv36))).a6, ← g.a6]
            have sgl6 : SGLk w6 s (m2 + 1) (pp :: S2) := ⟨pp, S2, rfl, by rw [aO _ _ (by decide), ol5.2 _ (by omega), A4, sg3 _ (by omega)]; exact A34e, SGL_k (fun i hi => by rw [aO _ _ (by decide), ol5.2 i (by omega), A4, sg3 i (by omega)]) sgl3⟩
            have hs6 : SGIK u w6 c p n q o s p5 n5 q5 (j3 + 1) m5 (m2 + 1) (rnkc (A v 6 pp)) z' aa' oo' (pp :: S2) first := ⟨gu.tr (g3.tr (gv3.tr gv36)), ol6, h6, Or.inr ⟨hj3, by omega, l3, pp + 1, nn3, qq, S3, gg, sp6, a21l, Or.inl ⟨⟨p5, em6, rfl⟩, rfl, by
              rcases hgg with ⟨e1, e2⟩ | ⟨e1, e2, e3⟩
              · exact Or.inl ⟨e1, e2.symm⟩
              · refine Or.inr ⟨e1, ?_, ?_, ?_⟩
                · rw [show pp + 1 - 1 = pp by omega, e2]
                · rw [show pp + 1 - 1 = pp by omega, w6v]; exact e3
                · rw [show pp + 1 - 1 = pp by omega, e2]; exact clo w6 w6v⟩⟩, ⟨stk6, sgl6⟩, by rw [a21 _ (by omega)]; exact m50⟩
            exact ih p5 n5 q5 (j3 + 1) m5 (m2 + 1) (rnkc (A v 6 pp)) z' 0 (i + 1) aa' oo' (pp :: S2) first w6 hs6 (Or.inr ⟨rfl, by omega, by omega⟩) (by omega) (by omega) (by omega)
        have old3 : ∀ k, k ≤ n → A w3 16 k = A u 16 k ∧ A w3 17 k = A u 17 k ∧ A w3 18 k = A u 18 k ∧ A w3 19 k = A u 19 k ∧ A w3 20 k = A u 20 k ∧ A w3 21 k = A u 21 k := fun k hk => by
          obtain ⟨c1, c2, c3, c4, c5, c6⟩ := ol2.1 k hk
          exact ⟨by rw [A3 _ _ (by decide)]; exact c1, by rw [A3 _ _ (by decide)]; exact c2, by rw [A3 _ _ (by decide)]; exact c3, by rw [A3 _ _ (by decide)]; exact c4, by rw [A3 _ _ (by decide)]; exact c5, by rw [A3 _ _ (by decide)]; exact c6⟩
        have hj2 : 1 ≤ j2 := by
          cases j2 with
          | zero => exact sp2.elim
          | succ j => omega
        have rk1 : 1 ≤ rnkc (A v 6 pp) := by omega
        have hv3 : PSI w3 c pp nn2 qq o (s + (m2 + 1)) ∨ True := Or.inr trivial
        -- a hinge
        have e102 : ∀ (k : Int), A v 6 pp = k → ((k = 6 ∧ aa2 = none) ∨ (k = 16 ∧ aa2 = none ∧ oo2 = none)) → OK (fun w r => NDQ (fun w m lo hi a b q r => UwK 2 o w m lo hi a b q r ∧ A w 21 m = 0) u c p n q o s w r) (hb_Pa_signed_102 N S (hg_Pa_signed N S M) w3 (I ((p : Nat) : Int)) (I ((s : Nat) : Int)) (I ((first : Nat) : Int)) (I ((l2 : Nat) : Int)) (0 : Int32) (I ((i : Nat) : Int)) (I k)) := fun k ek hk => by
          unfold hb_Pa_signed_102
          have hw3 : PSI w3 c pp nn2 qq o 0 ∨ True := Or.inr trivial
          have sh := SP_hdK (Uw_bdK w3) sp3
          rw [show w3.1 665 = I ((pp : Nat) : Int) by rw [I_F (k := 665), P3.1], show (24 : Int32) = I 24 from rfl, lit0]
          obtain ⟨w4, ea, g4, o4, ⟨zz, e2, e3⟩, f1, f2, f3, f4, f5, f6⟩ := add_ok2 (N := N) (s := s + (m2 + 1)) (x1 := 24) (x2 := ((pp : Nat) : Int)) (x3 := k) (x4 := 0) (x5 := 0) P3.2.1 (by omega) ⟨by decide, by decide⟩ ⟨by omega, by omega⟩ ⟨by omega, by omega⟩ ⟨by decide, by decide⟩ ⟨by decide, by decide⟩
          rw [ea, bnd_so]
          have eF4' : ∀ k, k ≠ 306 → F w4 k = F w3 k := fun k hk => by show (w4.1 k).toInt = _; rw [e2, e3]; show F (wi w3 306 _) k = _; rw [F_wi (by omega) (by omega), if_neg hk]
          have e306 : F w4 306 = ((nn2 + 1 : Nat) : Int) := by show (w4.1 306).toInt = _; rw [e2, e3]; show F (wi w3 306 _) 306 = _; rw [F_wi (by omega) (by omega), if_pos rfl]
          have n2b : nn2 ≤ 8000 := by have := hv2.2.2.1.2; omega
          rw [chain_e (by omega), bnd_so]
          have g6 : KPG w4 (wa w4 21 l2 ((nn2 + 1 : Nat) : Int)) := FR.wa FR.rf (by simp)
          have a21 : ∀ k, k ≠ l2 → A (wa w4 21 l2 ((nn2 + 1 : Nat) : Int)) 21 k = A w4 21 k := fun k hk => wa_ne hk
          have aO : ∀ r k, r ≠ 21 → A (wa w4 21 l2 ((nn2 + 1 : Nat) : Int)) r k = A w4 r k := fun r k hr => wa_rne hr
          have a21l : A (wa w4 21 l2 ((nn2 + 1 : Nat) : Int)) 21 l2 = ((nn2 + 1 : Nat) : Int) := wa_eq ⟨by omega, by omega⟩
          have F6 : ∀ k, F (wa w4 21 l2 ((nn2 + 1 : Nat) : Int)) k = F w4 k := fun _ => rfl
          generalize wa w4 21 l2 ((nn2 + 1 : Nat) : Int) = w6 at g6 a21 aO a21l F6
          have g36 : KPG w3 w6 := g4.tr g6
          have kv : KNc w3 w6 n nn2 l2 := ⟨⟨g36.2.2.1 6 (by simp), g36.2.2.1 7 (by simp)⟩, fun k k1 k2 => by
            obtain ⟨b1, b2, b3, b4, b5, b6⟩ := o4.1 k k2
            exact ⟨⟨by rw [aO _ _ (by decide)]; exact b1, by rw [aO _ _ (by decide)]; exact b2, by rw [aO _ _ (by decide)]; exact b3, by rw [aO _ _ (by decide)]; exact b4, by rw [aO _ _ (by decide)]; exact b5⟩, fun k3 => by rw [a21 k k3]; exact b6⟩⟩
          have sp6 := SP_kK (Uw_stK w3 w6) (Uw_bdK w3) sp3 kv
          have e16 : A w6 16 (nn2 + 1) = 24 := by rw [aO _ _ (by decide)]; exact f1
          have e18 : A w6 18 (nn2 + 1) = k := by rw [aO _ _ (by decide)]; exact f3
          have e17 : A w6 17 (nn2 + 1) = ((pp : Nat) : Int) := by rw [aO _ _ (by decide)]; exact f2
          have old6 : ∀ k, k ≤ n → A w6 16 k = A u 16 k ∧ A w6 17 k = A u 17 k ∧ A w6 18 k = A u 18 k ∧ A w6 19 k = A u 19 k ∧ A w6 20 k = A u 20 k ∧ A w6 21 k = A u 21 k := fun k hk => by
            obtain ⟨b1, b2, b3, b4, b5, b6⟩ := o4.1 k (by omega)
            obtain ⟨c1, c2, c3, c4, c5, c6⟩ := old3 k hk
            exact ⟨by rw [aO _ _ (by decide), b1]; exact c1, by rw [aO _ _ (by decide), b2]; exact c2, by rw [aO _ _ (by decide), b3]; exact c3, by rw [aO _ _ (by decide), b4]; exact c4, by rw [aO _ _ (by decide), b5]; exact c5, by rw [a21 k (by omega), b6]; exact c6⟩
          have P6 : F w6 665 = ((pp : Nat) : Int) ∧ F w6 306 = ((nn2 + 1 : Nat) : Int) ∧ F w6 449 = F w 449 ∧ F w6 666 = F w 666 ∧ F w6 664 = ((s + (m2 + 1) : Nat) : Int) := ⟨by rw [F6, eF4' 665 (by decide)]; exact P3.1, by rw [F6]; exact e306, by rw [F6, eF4' 449 (by decide)]; exact P3.2.2.1, by rw [F6, eF4' 666 (by decide)]; exact P3.2.2.2, by rw [F6, eF4' 664 (by decide)]; exact eF4⟩
          have sg6 : ∀ i, i < s + (m2 + 1) → A w6 34 i = A w3 34 i := fun i hi => by rw [aO _ _ (by decide)]; exact o4.2 i hi
          have top : A w3 34 (s + m2) = ((pp : Nat) : Int) ∧ pp < pp + 1 := ⟨A34e, by omega⟩
          have z1 : z2 + 1 - 1 = z2 := by omega
          have w6v : ∀ t, A w6 6 t = A v 6 t := fun t => by rw [(gu.tr (g3.tr g36)).a6, ← g.a6]
          have stp : STPcK w6 (UwK 1 o w6) (nn2 + 1) (pp + 1) (pp + 1) nn2 (nn2 + 1) qq qq S2 true (pp :: S2) false := by
            refine Or.inr ⟨⟨rfl, by omega, rfl, rfl⟩, rfl, Or.inl ?_⟩
            rw [show pp + 1 - 1 = pp by omega, w6v]
            exact ⟨e16, e17, by rw [e18]; exact ek.symm, by rw [ek]; rcases hk with ⟨hk, -⟩ | ⟨hk, -⟩ <;> omega, clo w6 w6v, rfl, rfl⟩
          rcases hk with ⟨hk, ha2⟩ | ⟨hk, ha2, ho2⟩
          · exact e127 w6 (nn2 + 1) (j2 + 1) (nn2 + 1) z2 (some z2) oo2 (pp :: S2) false g36 old6 sg6 P6 (by omega) (Or.inr ⟨hj2, by omega, l2, pp + 1, nn2, qq, S2, true, sp6, a21l, stp⟩) (Or.inl ⟨rfl, rfl⟩) ⟨pp, k, mx2, z2, aa2, oo2, top, by rw [a63]; exact ek, by rw [ek], rk1, stk3, ord, Or.inl ⟨hk, rfl, ha2, rfl, rfl⟩⟩ (by rw [a21 _ (by omega)]; exact f6) (by omega)
          · exact e127 w6 (nn2 + 1) (j2 + 1) (nn2 + 1) z2 none (some z2) (pp :: S2) false g36 old6 sg6 P6 (by omega) (Or.inr ⟨hj2, by omega, l2, pp + 1, nn2, qq, S2, true, sp6, a21l, stp⟩) (Or.inl ⟨rfl, rfl⟩) ⟨pp, k, mx2, z2, aa2, oo2, top, by rw [a63]; exact ek, by rw [ek], rk1, stk3, ord, Or.inr (Or.inl ⟨hk, rfl, ha2, ho2, rfl, rfl⟩)⟩ (by rw [a21 _ (by omega)]; exact f6) (by omega)
        have na : ∀ {y : Nat}, (aa2 ≠ none → y ≤ mx2) → mx2 < y → aa2 = none := fun {y} h1 h2 => by
          cases aa2 with
          | none => rfl
          | some a => have := h1 (by simp); omega
        have no : (oo2 ≠ none → 1 ≤ mx2) → mx2 < 1 → oo2 = none := fun h1 h2 => by
          cases oo2 with
          | none => rfl
          | some a => have := h1 (by simp); omega
        rw [show (6 : Int32) = I 6 from rfl, show (16 : Int32) = I 16 from rfl]
        refine k_eq (A_r v 6 pp) ⟨by decide, by decide⟩ (fun e => ?_) (fun n6 => k_eq (A_r v 6 pp) ⟨by decide, by decide⟩ (fun e => ?_) (fun n16 => ?_))
        · have r2 : rnkc (A v 6 pp) = 2 := by rw [e]; rfl
          exact e102 _ rfl (Or.inl ⟨e, na smx.1 (by omega)⟩)
        · have r1 : rnkc (A v 6 pp) = 1 := by rw [e]; rfl
          exact e102 _ rfl (Or.inr ⟨e, na (y := 2) smx.1 (by omega), no smx.2 (by omega)⟩)
        · have r3 : 3 ≤ rnkc (A v 6 pp) := by
            unfold rnkc at rk1 ⊢
            rw [if_neg n16, if_neg n6] at rk1 ⊢
            revert rk1
            repeat' (first | omega | split)
          exact e127 w3 nn2 j2 l2 (z2 + 1) aa2 oo2 S2 true KPG.rf old3 (fun _ _ => rfl) ⟨P3.1, P3.2.1, P3.2.2.1, P3.2.2.2, eF4⟩ hj2 sp3 (Or.inr ⟨rfl, rfl, r3⟩) ⟨pp, A v 6 pp, mx2, z2, aa2, oo2, ⟨A34e, by omega⟩, a63, rfl, rk1, stk3, ord, Or.inr (Or.inr ⟨n6, n16, rfl, rfl, rfl⟩)⟩ (by rw [A3 _ _ (by decide)]; exact l20) (by omega)
  unfold hm_Pa_signed hb_Pa_signed_0
  rw [show u.1 665 = I ((p : Nat) : Int) by rw [I_F (k := 665), h.2.1.1], show u.1 664 = I ((s : Nat) : Int) by rw [I_F (k := 664), h.2.2.2.2.2.1]]
  refine ok_T (ok_mono (hu u c p n q s h) (fun w5 r hw5 => ?_))
  obtain ⟨g5, hw5⟩ := hw5
  cases r with
  | inr k => exact ⟨g5, hw5⟩
  | inl x2 =>
    obtain ⟨m, p5, n5, q5, rfl, ol5, hv5, hp5, em, m0⟩ := hw5
    have hd := Uw_bdK w5 _ _ _ _ _ _ _ em
    unfold HDc at hd
    exact gen N p5 n5 q5 1 m 0 0 0 1 0 none none [] m w5 ⟨g5, ol5, hv5, Or.inl ⟨rfl, rfl, by omega, Or.inl ⟨⟨p5, em, rfl⟩, rfl, Or.inl ⟨rfl, rfl⟩⟩⟩, ⟨⟨rfl, rfl, rfl, rfl⟩, rfl⟩, m0⟩ (Or.inl ⟨rfl, rfl, rfl, rfl⟩) (by omega) (by omega) (by omega)
end
