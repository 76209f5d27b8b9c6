/-! the reader of a text with the kinds of its tokens: units with signs between -/
set_option maxRecDepth 100000
/-- the signs that wait from base on, the last first -/
def SGLk (u : MS) (base : Nat) : Nat → List Nat → Prop
  | 0 => fun S => S = []
  | m + 1 => fun S => ∃ (t : Nat) (S2 : List Nat), S = t :: S2 ∧ A u 34 (base + m) = ((t : Nat) : Int) ∧ SGLk u base m S2
section
variable {u v w : MS} {N c p n q o s p2 n2 q2 a b l lo hi r d most f t x q0 base : Nat}
theorem SGL_k : ∀ {m : Nat} {S : List Nat}, (∀ i, i < base + m → A w 34 i = A u 34 i) → SGLk u base m S → SGLk w base m S
  | 0, _, _, h => h
  | m + 1, S, he, h => by
    obtain ⟨t, S2, h1, h2, h3⟩ := h
    exact ⟨t, S2, h1, by rw [he _ (by omega)]; exact h2, SGL_k (fun i hi => he i (by omega)) h3⟩
/-- a chain of units and signs that is made: from p, n, q on; m signs wait -/
def SGIK (u v : MS) (c p n q o s pp nn qq j l m mx z : Nat) (aa oo : Option Nat) (S : List Nat) (first : Nat) : Prop := KPG u v ∧ OLDc u v n s ∧ PSI v c pp nn qq o (s + m) ∧ SPcK v (UwK 1 o v) first p n q j l (pp + 1) nn qq S true ∧ (SGKc v s pp m mx z aa oo ∧ SGLk v s m S) ∧ A v 21 l = 0
theorem closeS_okK {rk first : Nat} (hN : 10000 ≤ N) (hrk : rk ≤ 6) : ∀ (M : Nat) (v : MS) (pp nn qq j l m mx z : Nat) (aa oo : Option Nat) (S : List Nat), SGIK u v c p n q o s pp nn qq j l m mx z aa oo S first → rnkc (A u 6 pp) = rk → nn + m + 1 + 2 * p ≤ n + 2 * pp → n ≤ 2 * p → m < M → OK (fun w r => KPG u w ∧ match r with
    | .inr k => k = 3
    | .inl x => ∃ nn2 j2 l2 m2 mx2 z2 aa2 oo2 S2, x = I ((l2 : Nat) : Int) ∧ SGIK u w c p n q o s pp nn2 qq j2 l2 m2 mx2 z2 aa2 oo2 S2 first ∧ nn2 + m2 = nn + m ∧ nn ≤ nn2 ∧ j ≤ j2 ∧ (m2 = 0 ∨ mx2 < rk ∨ (mx2 = 4 ∧ rk = 4))) (hg_Pa_closeSigns N M v (I ((s : Nat) : Int)) (I ((rk : Nat) : Int)) (I ((l : Nat) : Int))) := by
  intro M
  induction M with
  | zero => intro v pp nn qq j l m mx z aa oo S _ _ _ _ h; omega
  | succ M ih =>
    intro v pp nn qq j l m mx z aa oo S hs hrkp hcnt h2p hM
    have hs' := hs
    obtain ⟨g, ol, hv, sp, ⟨stk, sgl⟩, l0⟩ := hs
    have hc := hv.1.1
    have ppc := hv.2.1.2
    have smp := hv.2.2.2.2.2.2
    have sh := SP_hdK (Uw_bdK v) sp
    have hj1 : 1 ≤ j := by
      cases j with
      | zero => exact sp.elim
      | succ j => omega
    show OK _ (hb_Pa_closeSigns_3 N (hg_Pa_closeSigns N M) v (I ((s : Nat) : Int)) (I ((rk : Nat) : Int)) (I ((l : Nat) : Int)))
    unfold hb_Pa_closeSigns_3 hb_Pa_closeSigns_60
    rw [show v.1 664 = I ((s + m : Nat) : Int) by rw [I_F (k := 664), hv.2.2.2.2.2.1]]
    have stop : (m = 0 ∨ mx < rk ∨ (mx = 4 ∧ rk = 4)) → OK (fun w r => KPG u w ∧ match r with
      | .inr k => k = 3
      | .inl x => ∃ nn2 j2 l2 m2 mx2 z2 aa2 oo2 S2, x = I ((l2 : Nat) : Int) ∧ SGIK u w c p n q o s pp nn2 qq j2 l2 m2 mx2 z2 aa2 oo2 S2 first ∧ nn2 + m2 = nn + m ∧ nn ≤ nn2 ∧ j ≤ j2 ∧ (m2 = 0 ∨ mx2 < rk ∨ (mx2 = 4 ∧ rk = 4))) (some (v, (.inl (I ((l : Nat) : Int)) : Int32 ⊕ Nat))) := fun hh => ok_some.mpr ⟨g, nn, j, l, m, mx, z, aa, oo, S, rfl, hs', rfl, Nat.le_refl _, Nat.le_refl _, hh⟩
    refine k_le ⟨by omega, by omega⟩ ⟨by omega, by omega⟩ (fun hle => stop (Or.inl (by omega))) (fun hlt => ?_)
    cases m with
    | zero => omega
    | succ m =>
      obtain ⟨t, k, mx2, z2, aa2, oo2, ⟨t1, t2⟩, t3, t4, t5, t6, t7, t8⟩ := stk
      obtain ⟨t', S2, rfl, y1, sgl2⟩ := sgl
      have ett : t = t' := by rw [t1] at y1; omega
      subst ett
      rw [lit1, I_sub, show ((s + (m + 1) : Nat) : Int) - 1 = ((s + m : Nat) : Int) by omega]
      refine e_in ⟨by omega, by omega⟩ (by decide) ?_
      rw [tnI (n := s + m) rfl (by omega), I_A (k := 34), t1]
      refine e_in ⟨by omega, by omega⟩ (by decide) ?_
      have hk45 : 0 ≤ k ∧ k ≤ 45 := by
        have := hv.1.2.2 t (by omega)
        omega
      rw [tnI (n := t) rfl (by omega), I_A (k := 6), t3, rank_e hk45, bnd_so, ← t4]
      have mx6 : mx ≤ 6 := by rw [t4]; exact rk_le k
      refine k_lt ⟨by omega, by omega⟩ ⟨by omega, by omega⟩ (fun hh => stop (Or.inr (Or.inl (by omega)))) (fun hge => ?_)
      -- one is closed
      have e79 : POPk v pp t → OK (fun w r => KPG u w ∧ match r with
        | .inr k => k = 3
        | .inl x => ∃ nn2 j2 l2 m2 mx2 z2 aa2 oo2 S2, x = I ((l2 : Nat) : Int) ∧ SGIK u w c p n q o s pp nn2 qq j2 l2 m2 mx2 z2 aa2 oo2 S2 first ∧ nn2 + m2 = nn + (m + 1) ∧ nn ≤ nn2 ∧ j ≤ j2 ∧ (m2 = 0 ∨ mx2 < rk ∨ (mx2 = 4 ∧ rk = 4))) (hb_Pa_closeSigns_79 N (hg_Pa_closeSigns N M) v (I ((s : Nat) : Int)) (I ((rk : Nat) : Int)) (I ((l : Nat) : Int)) (I ((t : Nat) : Int)) (I k)) := fun pop => by
        unfold hb_Pa_closeSigns_79
        rw [show (23 : Int32) = I 23 from rfl, lit0]
        refine add_B hv (by omega) ⟨by decide, by decide⟩ ⟨by omega, by omega⟩ ⟨by omega, by omega⟩ ⟨by decide, by decide⟩ ⟨by decide, by decide⟩ (fun w1 g1 o1 h1 fa => ?_)
        obtain ⟨f1, f2, f3, f4, f5, f6⟩ := fa
        have n1b := h1.2.2.1.2
        rw [chain_e (by omega), bnd_so]
        have g2 : KPG w1 (wa w1 21 l ((nn + 1 : Nat) : Int)) := FR.wa FR.rf (by simp)
        have a21 : ∀ k, k ≠ l → A (wa w1 21 l ((nn + 1 : Nat) : Int)) 21 k = A w1 21 k := fun k hk => wa_ne hk
        have aO : ∀ r k, r ≠ 21 → A (wa w1 21 l ((nn + 1 : Nat) : Int)) r k = A w1 r k := fun r k hr => wa_rne hr
        have a21l : A (wa w1 21 l ((nn + 1 : Nat) : Int)) 21 l = ((nn + 1 : Nat) : Int) := wa_eq ⟨by omega, by omega⟩
        have h2 : PSI (wa w1 21 l ((nn + 1 : Nat) : Int)) c pp (nn + 1) qq o (s + (m + 1)) := ⟨TKK_g g2 h1.1, h1.2⟩
        generalize wa w1 21 l ((nn + 1 : Nat) : Int) = w2 at g2 a21 aO a21l h2
        refine ok_lt.mpr ?_
        rw [show w2.1 664 = I ((s + (m + 1) : Nat) : Int) by rw [I_F (k := 664), h2.2.2.2.2.2.1], lit1, I_sub, show ((s + (m + 1) : Nat) : Int) - 1 = ((s + m : Nat) : Int) by omega, wi_e]
        have g3 : KPG w2 (wi w2 664 ((s + m : Nat) : Int)) := FR.wi FR.rf (by simp)
        have h3 : PSI (wi w2 664 ((s + m : Nat) : Int)) c pp (nn + 1) qq o (s + m) := by
          obtain ⟨b1, b2, b3, b4, b5, b6⟩ := h2
          have e : ∀ k, k ≠ 664 → F (wi w2 664 ((s + m : Nat) : Int)) k = F w2 k := fun k hk => by rw [F_wi (by omega) (by omega), if_neg hk]
          exact ⟨b1, ⟨by rw [e 665 (by decide)]; exact b2.1, b2.2⟩, ⟨by rw [e 306 (by decide)]; exact b3.1, b3.2⟩, by rw [e 449 (by decide)]; exact b4, ⟨by rw [e 666 (by decide)]; exact b5.1, b5.2⟩, by rw [F_wi (by omega) (by omega), if_pos rfl], by omega⟩
        have r3 : (wi w2 664 ((s + m : Nat) : Int)).2.2.1 = w2.2.2.1 := rfl
        generalize wi w2 664 ((s + m : Nat) : Int) = w3 at g3 h3 r3
        have A3 : ∀ r k, A w3 r k = A w2 r k := fun r k => by show (w3.2.2.1 r k).toInt = _; rw [r3]; rfl
        have gv3 : KPG v w3 := g1.tr (g2.tr g3)
        have kv : KNc v w3 n nn l := ⟨⟨gv3.2.2.1 6 (by simp), gv3.2.2.1 7 (by simp)⟩, fun k k1 k2 => by
          obtain ⟨b1, b2, b3, b4, b5, b6⟩ := o1.1 k k2
          exact ⟨⟨by rw [A3, aO _ _ (by decide)]; exact b1, by rw [A3, aO _ _ (by decide)]; exact b2, by rw [A3, aO _ _ (by decide)]; exact b3, by rw [A3, aO _ _ (by decide)]; exact b4, by rw [A3, aO _ _ (by decide)]; exact b5⟩, fun k3 => by rw [A3, a21 k k3]; exact b6⟩⟩
        have sp3 := SP_kK (Uw_stK v w3) (Uw_bdK v) sp kv
        have ol3 : OLDc u w3 n s := by
          refine ⟨fun k hk => ?_, fun i hi => ?_⟩
          · obtain ⟨b1, b2, b3, b4, b5, b6⟩ := o1.1 k (by omega)
            obtain ⟨c1, c2, c3, c4, c5, c6⟩ := ol.1 k hk
            exact ⟨by rw [A3, aO _ _ (by decide), b1]; exact c1, by rw [A3, aO _ _ (by decide), b2]; exact c2, by rw [A3, aO _ _ (by decide), b3]; exact c3, by rw [A3, aO _ _ (by decide), b4]; exact c4, by rw [A3, aO _ _ (by decide), b5]; exact c5, by rw [A3, a21 k (by omega), b6]; exact c6⟩
          · rw [A3, aO _ _ (by decide), o1.2 i (by omega)]; exact ol.2 i hi
        have sgl3 : SGLk w3 s m S2 := SGL_k (fun i hi => by rw [A3, aO _ _ (by decide)]; exact o1.2 i (by omega)) sgl2
        have stk3 : SGKc w3 s pp m mx2 z2 aa2 oo2 := STK_k (gv3.2.2.1 6 (by simp)) (Nat.le_refl _) (fun i hi => by rw [A3, aO _ _ (by decide)]; exact o1.2 i (by omega)) t6
        have e16 : A w3 16 (nn + 1) = 23 := by rw [A3, aO _ _ (by decide)]; exact f1
        have e18 : A w3 18 (nn + 1) = k := by rw [A3, aO _ _ (by decide)]; exact f3
        have e17 : A w3 17 (nn + 1) = ((t : Nat) : Int) := by rw [A3, aO _ _ (by decide)]; exact f2
        have stp : STPcK w3 (UwK 1 o w3) (nn + 1) (pp + 1) (pp + 1) nn (nn + 1) qq qq (t :: S2) true S2 true := by
          refine Or.inr ⟨⟨rfl, by omega, rfl, rfl⟩, rfl, Or.inr ⟨e16, t, rfl, e17, by rw [e18, gv3.a6]; exact t3.symm, ?_, rfl⟩⟩
          rw [show pp + 1 - 1 = pp by omega]
          exact POP_k pop (fun t => gv3.a6)
        have hs3 : SGIK u w3 c p n q o s pp (nn + 1) qq (j + 1) (nn + 1) m mx2 z2 aa2 oo2 S2 first := ⟨g.tr gv3, ol3, h3, Or.inr ⟨hj1, by omega, l, pp + 1, nn, qq, t :: S2, true, sp3, by rw [A3]; exact a21l, stp⟩, ⟨stk3, sgl3⟩, by rw [A3, a21 _ (by omega)]; exact f6⟩
        refine ok_mono (ih w3 pp (nn + 1) qq (j + 1) (nn + 1) m mx2 z2 aa2 oo2 S2 hs3 hrkp (by omega) h2p (by omega)) (fun w r hw => ?_)
        obtain ⟨gw, hw⟩ := hw
        cases r with
        | inr k => exact ⟨gw, hw⟩
        | inl x =>
          obtain ⟨nn2, j2, l2, m2, mx3, z3, aa3, oo3, S3, b1, b2, b3, b4, b5, b6⟩ := hw
          exact ⟨gw, nn2, j2, l2, m2, mx3, z3, aa3, oo3, S3, b1, b2, by omega, by omega, by omega, b6⟩
      have e63 : ¬ (mx = 4 ∧ rk = 4) → OK (fun w r => KPG u w ∧ match r with
        | .inr k => k = 3
        | .inl x => ∃ nn2 j2 l2 m2 mx2 z2 aa2 oo2 S2, x = I ((l2 : Nat) : Int) ∧ SGIK u w c p n q o s pp nn2 qq j2 l2 m2 mx2 z2 aa2 oo2 S2 first ∧ nn2 + m2 = nn + (m + 1) ∧ nn ≤ nn2 ∧ j ≤ j2 ∧ (m2 = 0 ∨ mx2 < rk ∨ (mx2 = 4 ∧ rk = 4))) (hb_Pa_closeSigns_63 N (hg_Pa_closeSigns N M) v (I ((s : Nat) : Int)) (I ((rk : Nat) : Int)) (I ((l : Nat) : Int)) (I ((t : Nat) : Int)) (I k) (I ((mx : Nat) : Int))) := fun n4 => by
        unfold hb_Pa_closeSigns_63
        have pp6 : ∀ y : Int, A v 6 pp = y → rnkc y = rk := fun y e => by rw [← e, g.a6]; exact hrkp
        have pop : ¬ (mx = 3 ∧ rk = 3) → POPk v pp t := fun n3 => by
          have e1 := pp6 _ rfl
          have e2 : rnkc (A v 6 t) = mx := by rw [t3, t4]
          unfold POPk
          rw [e1, e2]
          exact ⟨by omega, n4, n3⟩
        refine ok_br.mpr ⟨fun z1 => ok_br.mpr ⟨fun _ => refuse_T hv (fun w gw => ⟨g.tr gw, rfl⟩), fun z2 => e79 (pop (fun z => of_decide_eq_false z2 (by rw [z.2]; rfl)))⟩, fun z1 => e79 (pop (fun z => of_decide_eq_false z1 (by rw [z.1, z.2])))⟩
      rw [show (4 : Int32) = I 4 from rfl]
      refine k_eq ⟨by omega, by omega⟩ ⟨by omega, by omega⟩ (fun he => k_eq ⟨by omega, by omega⟩ ⟨by decide, by decide⟩ (fun h4 => stop (Or.inr (Or.inr ⟨by omega, by omega⟩))) (fun n4 => e63 (by omega))) (fun n4 => e63 (by omega))
end
