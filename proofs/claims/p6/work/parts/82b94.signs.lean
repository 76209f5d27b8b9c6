set_option maxRecDepth 100000
def rnkc (k : Int) : Nat := if k = 16 then 1 else if k = 6 then 2 else if k = 31 ∨ k = 32 ∨ k = 39 ∨ k = 40 ∨ k = 41 ∨ k = 42 then 3 else if k = 43 ∨ k = 44 then 4 else if k = 33 ∨ k = 34 then 5 else if k = 10 ∨ k = 18 ∨ k = 35 then 6 else 0
def SGKc (u : MS) (base x : Nat) : Nat → Nat → Nat → Option Nat → Option Nat → Prop
  | 0 => fun mx z aa oo => mx = 0 ∧ z = 0 ∧ aa = none ∧ oo = none
  | m + 1 => fun mx z aa oo => ∃ (t : Nat) (k : Int) (mx2 z2 : Nat) (aa2 oo2 : Option Nat), (A u 34 (base + m) = ((t : Nat) : Int) ∧ t < x) ∧ A u 6 t = k ∧ mx = rnkc k ∧ 1 ≤ mx ∧ SGKc u base x m mx2 z2 aa2 oo2 ∧ (mx2 < mx ∨ (mx2 = 4 ∧ mx = 4)) ∧ ((k = 6 ∧ z = z2 ∧ aa2 = none ∧ aa = some z2 ∧ oo = oo2) ∨ (k = 16 ∧ z = z2 ∧ aa2 = none ∧ oo2 = none ∧ aa = none ∧ oo = some z2) ∨ (k ≠ 6 ∧ k ≠ 16 ∧ z = z2 + 1 ∧ aa = aa2 ∧ oo = oo2))
section
variable {u v w : MS} {N c p n q o s p2 n2 q2 a b l lo hi r d most f t x q0 base : Nat}
theorem rank_e {k : Int} (hk : 0 ≤ k ∧ k ≤ 45) : hm_Pa_rank N u (I k) = some (u, I ((rnkc k : Nat) : Int)) := by
  have cs : k = 0 ∨ k = 1 ∨ k = 2 ∨ k = 3 ∨ k = 4 ∨ k = 5 ∨ k = 6 ∨ k = 7 ∨ k = 8 ∨ k = 9 ∨ k = 10 ∨ k = 11 ∨ k = 12 ∨ k = 13 ∨ k = 14 ∨ k = 15 ∨ k = 16 ∨ k = 17 ∨ k = 18 ∨ k = 19 ∨ k = 20 ∨ k = 21 ∨ k = 22 ∨ k = 23 ∨ k = 24 ∨ k = 25 ∨ k = 26 ∨ k = 27 ∨ k = 28 ∨ k = 29 ∨ k = 30 ∨ k = 31 ∨ k = 32 ∨ k = 33 ∨ k = 34 ∨ k = 35 ∨ k = 36 ∨ k = 37 ∨ k = 38 ∨ k = 39 ∨ k = 40 ∨ k = 41 ∨ k = 42 ∨ k = 43 ∨ k = 44 ∨ k = 45 := by omega
  rcases cs with rfl | rfl | rfl | rfl | rfl | rfl | rfl | rfl | rfl | rfl | rfl | rfl | rfl | rfl | rfl | rfl | rfl | rfl | rfl | rfl | rfl | rfl | rfl | rfl | rfl | rfl | rfl | rfl | rfl | rfl | rfl | rfl | rfl | rfl | rfl | rfl | rfl | rfl | rfl | rfl | rfl | rfl | rfl | rfl | rfl | rfl <;> rfl
theorem rk_le (k : Int) : rnkc k ≤ 6 := by
  unfold rnkc
  repeat' (first | omega | split)
theorem STK_mx : ∀ {m mx z : Nat} {aa oo : Option Nat}, SGKc u base x m mx z aa oo → (aa ≠ none → 2 ≤ mx) ∧ (oo ≠ none → 1 ≤ mx)
  | 0, _, _, _, _, h => ⟨fun z => absurd h.2.2.1 z, fun z => absurd h.2.2.2 z⟩
  | m + 1, mx, z, aa, oo, h => by
    obtain ⟨t, k, mx2, z2, aa2, oo2, h1, h2, h3, h4, h5, h6, h7⟩ := h
    have ih := STK_mx h5
    rcases h7 with ⟨h7, -, -, -, h8⟩ | ⟨h7, -, -, -, h8, h9⟩ | ⟨h7, h8, -, h9, h10⟩
    · have e : mx = 2 := by rw [h3, h7]; rfl
      exact ⟨fun _ => by omega, fun _ => by omega⟩
    · exact ⟨fun z => absurd h8 z, fun _ => h4⟩
    · refine ⟨fun z => ?_, fun _ => h4⟩
      have := ih.1 (by rw [← h9]; exact z)
      omega
theorem STK_k {x2 : Nat} (e6 : w.2.2.1 6 = u.2.2.1 6) (hx : x ≤ x2) : ∀ {m mx z : Nat} {aa oo : Option Nat}, (∀ i, i < base + m → A w 34 i = A u 34 i) → SGKc u base x m mx z aa oo → SGKc w base x2 m mx z aa oo
  | 0, _, _, _, _, _, h => h
  | m + 1, mx, z, aa, oo, he, h => by
    obtain ⟨t, k, mx2, z2, aa2, oo2, h1, h2, h3, h4, h5, h6, h7⟩ := h
    exact ⟨t, k, mx2, z2, aa2, oo2, ⟨by rw [he _ (by omega)]; exact h1.1, by omega⟩, by show (w.2.2.1 6 t).toInt = _; rw [e6]; exact h2, h3, h4, STK_k e6 hx (fun i hi => he i (by omega)) h5, h6, h7⟩
def SGI (u v : MS) (c p n q o s pp nn qq j l m mx z : Nat) (aa oo : Option Nat) (first : Nat) : Prop := KPG u v ∧ OLDc u v n s ∧ PSI v c pp nn qq o (s + m) ∧ SPc v (Uw 1 o v) first p n q j l (pp + 1) nn qq (z + 1) aa oo ∧ SGKc v s pp m mx z aa oo ∧ A v 21 l = 0
theorem closeS_ok {rk first : Nat} (hN : 10000 ≤ N) (hrk : rk ≤ 6) : ∀ (M : Nat) (v : MS) (pp nn qq j l m mx z : Nat) (aa oo : Option Nat), SGI u v c p n q o s pp nn qq j l m mx z aa oo first → nn + m + 1 + 2 * p ≤ n + 2 * pp → n ≤ 2 * p → m < M → OK (fun w r => KPG u w ∧ match r with
    | .inr k => k = 3
    | .inl x => ∃ nn2 j2 l2 m2 mx2 z2 aa2 oo2, x = I ((l2 : Nat) : Int) ∧ SGI u w c p n q o s pp nn2 qq j2 l2 m2 mx2 z2 aa2 oo2 first ∧ nn2 + m2 = nn + m ∧ nn ≤ nn2 ∧ j ≤ j2 ∧ (m2 = 0 ∨ mx2 < rk ∨ (mx2 = 4 ∧ rk = 4))) (hg_Pa_closeSigns N M v (I ((s : Nat) : Int)) (I ((rk : Nat) : Int)) (I ((l : Nat) : Int))) := by
  intro M
  induction M with
  | zero => intro v pp nn qq j l m mx z aa oo _ _ _ h; omega
  | succ M ih =>
    intro v pp nn qq j l m mx z aa oo hs hcnt h2p hM
    have hs' := hs
    obtain ⟨g, ol, hv, sp, stk, l0⟩ := hs
    have hc := hv.1.1
    have ppc := hv.2.1.2
    have smp := hv.2.2.2.2.2.2
    have sh := SP_hd (Uw_bd v) sp
    have hj1 : 1 ≤ j := by
      cases j with
      | zero => exact sp.elim
      | succ j => omega
    show OK _ (hb_Pa_closeSigns_3 N (hg_Pa_closeSigns N M) v (I ((s : Nat) : Int)) (I ((rk : Nat) : Int)) (I ((l : Nat) : Int)))
    unfold hb_Pa_closeSigns_3 hb_Pa_closeSigns_60
    rw [show v.1 664 = I ((s + m : Nat) : Int) by rw [I_F (k := 664), hv.2.2.2.2.2.1]]
    have stop : (m = 0 ∨ mx < rk ∨ (mx = 4 ∧ rk = 4)) → OK (fun w r => KPG u w ∧ match r with
      | .inr k => k = 3
      | .inl x => ∃ nn2 j2 l2 m2 mx2 z2 aa2 oo2, x = I ((l2 : Nat) : Int) ∧ SGI u w c p n q o s pp nn2 qq j2 l2 m2 mx2 z2 aa2 oo2 first ∧ nn2 + m2 = nn + m ∧ nn ≤ nn2 ∧ j ≤ j2 ∧ (m2 = 0 ∨ mx2 < rk ∨ (mx2 = 4 ∧ rk = 4))) (some (v, (.inl (I ((l : Nat) : Int)) : Int32 ⊕ Nat))) := fun hh => ok_some.mpr ⟨g, nn, j, l, m, mx, z, aa, oo, rfl, hs', rfl, Nat.le_refl _, Nat.le_refl _, hh⟩
    refine k_le ⟨by omega, by omega⟩ ⟨by omega, by omega⟩ (fun hle => stop (Or.inl (by omega))) (fun hlt => ?_)
    cases m with
    | zero => omega
    | succ m =>
      obtain ⟨t, k, mx2, z2, aa2, oo2, ⟨t1, t2⟩, t3, t4, t5, t6, t7, t8⟩ := stk
      rw [lit1q, I_sub, show ((s + (m + 1) : Nat) : Int) - 1 = ((s + m : Nat) : Int) by omega]
      refine e_in ⟨by omega, by omega⟩ (by decide) ?_
      rw [tnI (n := s + m) rfl (by omega), I_A (k := 34), t1]
      refine e_in ⟨by omega, by omega⟩ (by decide) ?_
      have hk45 : 0 ≤ k ∧ k ≤ 45 := by
        have := hv.1.2.2 t (by omega)
        omega
      rw [tnI (n := t) rfl (by omega), I_A (k := 6), t3, rank_e hk45, bnd_so, ← t4]
      have mx6 : mx ≤ 6 := by rw [t4]; exact rk_le k
      refine k_lt ⟨by omega, by omega⟩ ⟨by omega, by omega⟩ (fun hh => stop (Or.inr (Or.inl (by omega)))) (fun hge => ?_)
      have e79 : OK (fun w r => KPG u w ∧ match r with
        | .inr k => k = 3
        | .inl x => ∃ nn2 j2 l2 m2 mx2 z2 aa2 oo2, x = I ((l2 : Nat) : Int) ∧ SGI u w c p n q o s pp nn2 qq j2 l2 m2 mx2 z2 aa2 oo2 first ∧ nn2 + m2 = nn + (m + 1) ∧ nn ≤ nn2 ∧ j ≤ j2 ∧ (m2 = 0 ∨ mx2 < rk ∨ (mx2 = 4 ∧ rk = 4))) (hb_Pa_closeSigns_79 N (hg_Pa_closeSigns N M) v (I ((s : Nat) : Int)) (I ((rk : Nat) : Int)) (I ((l : Nat) : Int)) (I ((t : Nat) : Int)) (I k)) := by
        unfold hb_Pa_closeSigns_79
        rw [show (23 : Int32) = I 23 from rfl, lit0q]
        refine add_B hv (by omega) ⟨by decide, by decide⟩ ⟨by omega, by omega⟩ ⟨by omega, by omega⟩ ⟨by decide, by decide⟩ ⟨by decide, by decide⟩ (fun w1 g1 o1 h1 fa => ?_)
        obtain ⟨f1, f2, f3, f4, f5, f6⟩ := fa
        have n1b := h1.2.2.1.2
        rw [chain_e (by omega), bnd_so]
        have g2 : KPG w1 (wa w1 21 l ((nn + 1 : Nat) : Int)) := FR.wa FR.rf (by simp)
        have a21 : ∀ k, k ≠ l → A (wa w1 21 l ((nn + 1 : Nat) : Int)) 21 k = A w1 21 k := fun k hk => wa_ne hk
        have aO : ∀ r k, r ≠ 21 → A (wa w1 21 l ((nn + 1 : Nat) : Int)) r k = A w1 r k := fun r k hr => wa_rne hr
        have a21l : A (wa w1 21 l ((nn + 1 : Nat) : Int)) 21 l = ((nn + 1 : Nat) : Int) := wa_eq ⟨by omega, by omega⟩
        have h2 : PSI (wa w1 21 l ((nn + 1 : Nat) : Int)) c pp (nn + 1) qq o (s + (m + 1)) := ⟨TKK_g g2 h1.1, h1.2⟩
        generalize wa w1 21 l ((nn + 1 : Nat) : Int) = w2 at g2 a21 aO a21l h2
        refine ok_lt.mpr ?_
        rw [show w2.1 664 = I ((s + (m + 1) : Nat) : Int) by rw [I_F (k := 664), h2.2.2.2.2.2.1], lit1q, I_sub, show ((s + (m + 1) : Nat) : Int) - 1 = ((s + m : Nat) : Int) by omega, wi_e]
        have g3 : KPG w2 (wi w2 664 ((s + m : Nat) : Int)) := FR.wi FR.rf (by simp)
        have h3 : PSI (wi w2 664 ((s + m : Nat) : Int)) c pp (nn + 1) qq o (s + m) := by
          obtain ⟨b1, b2, b3, b4, b5, b6⟩ := h2
          have e : ∀ k, k ≠ 664 → F (wi w2 664 ((s + m : Nat) : Int)) k = F w2 k := fun k hk => by rw [F_wi (by omega) (by omega), if_neg hk]
          exact ⟨b1, ⟨by rw [e 665 (by decide)]; exact b2.1, b2.2⟩, ⟨by rw [e 306 (by decide)]; exact b3.1, b3.2⟩, by rw [e 449 (by decide)]; exact b4, ⟨by rw [e 666 (by decide)]; exact b5.1, b5.2⟩, by rw [F_wi (by omega) (by omega), if_pos rfl], by omega⟩
        have r3 : (wi w2 664 ((s + m : Nat) : Int)).2.2.1 = w2.2.2.1 := rfl
        generalize wi w2 664 ((s + m : Nat) : Int) = w3 at g3 h3 r3
        have A3 : ∀ r k, A w3 r k = A w2 r k := fun r k => by show (w3.2.2.1 r k).toInt = _; rw [r3]; rfl
        have gv3 : KPG v w3 := g1.tr (g2.tr g3)
        have kv : KNc v w3 n nn l := ⟨⟨gv3.2.2.1 6 (by simp), gv3.2.2.1 7 (by simp)⟩, fun k k1 k2 => by
          obtain ⟨b1, b2, b3, b4, b5, b6⟩ := o1.1 k k2
          exact ⟨⟨by rw [A3, aO _ _ (by decide)]; exact b1, by rw [A3, aO _ _ (by decide)]; exact b2, by rw [A3, aO _ _ (by decide)]; exact b3, by rw [A3, aO _ _ (by decide)]; exact b4, by rw [A3, aO _ _ (by decide)]; exact b5⟩, fun k3 => by rw [A3, a21 k k3]; exact b6⟩⟩
        have sp3 := SP_k (Uw_st v w3) (Uw_bd v) sp kv
        have ol3 : OLDc u w3 n s := by
          refine ⟨fun k hk => ?_, fun i hi => ?_⟩
          · obtain ⟨b1, b2, b3, b4, b5, b6⟩ := o1.1 k (by omega)
            obtain ⟨c1, c2, c3, c4, c5, c6⟩ := ol.1 k hk
            exact ⟨by rw [A3, aO _ _ (by decide), b1]; exact c1, by rw [A3, aO _ _ (by decide), b2]; exact c2, by rw [A3, aO _ _ (by decide), b3]; exact c3, by rw [A3, aO _ _ (by decide), b4]; exact c4, by rw [A3, aO _ _ (by decide), b5]; exact c5, by rw [A3, a21 k (by omega), b6]; exact c6⟩
          · rw [A3, aO _ _ (by decide), o1.2 i (by omega)]; exact ol.2 i hi
        have stk3 : SGKc w3 s pp m mx2 z2 aa2 oo2 := STK_k (gv3.2.2.1 6 (by simp)) (Nat.le_refl _) (fun i hi => by rw [A3, aO _ _ (by decide)]; exact o1.2 i (by omega)) t6
        have e16 : A w3 16 (nn + 1) = 23 := by rw [A3, aO _ _ (by decide)]; exact f1
        have e18 : A w3 18 (nn + 1) = k := by rw [A3, aO _ _ (by decide)]; exact f3
        have e17 : TKc w3 (nn + 1) 0 (pp + 1) := ⟨t, by rw [A3, aO _ _ (by decide)]; exact f2, by omega, by omega⟩
        have stp : STPc w3 (Uw 1 o w3) (nn + 1) (pp + 1) (pp + 1) nn (nn + 1) qq qq (z + 1) aa oo (z2 + 1) aa2 oo2 := by
          refine Or.inr ⟨⟨rfl, by omega, rfl, rfl⟩, e17, ?_⟩
          rw [e16, e18]
          rcases t8 with ⟨k6, b1, b2, b3, b4⟩ | ⟨k16, b1, b2, b3, b4, b5⟩ | ⟨k6, k16, b1, b2, b3⟩
          · refine Or.inr (Or.inr (Or.inl ⟨rfl, k6, by omega, ?_, by omega, b2, b4.symm⟩))
            rw [b3, show z + 1 - 1 = z by omega, b1]
          · refine Or.inr (Or.inr (Or.inr (Or.inl ⟨rfl, k16, by omega, b4, ?_, by omega, b2, b3⟩)))
            rw [b5, show z + 1 - 1 = z by omega, b1]
          · exact Or.inr (Or.inr (Or.inr (Or.inr ⟨rfl, k6, k16, by omega, by omega, b2.symm, b3.symm⟩)))
        have hs3 : SGI u w3 c p n q o s pp (nn + 1) qq (j + 1) (nn + 1) m mx2 z2 aa2 oo2 first := ⟨g.tr gv3, ol3, h3, Or.inr ⟨hj1, by omega, l, pp + 1, nn, qq, z + 1, aa, oo, sp3, by rw [A3]; exact a21l, stp⟩, stk3, by rw [A3, a21 _ (by omega)]; exact f6⟩
        refine ok_mono (ih w3 pp (nn + 1) qq (j + 1) (nn + 1) m mx2 z2 aa2 oo2 hs3 (by omega) h2p (by omega)) (fun w r hw => ?_)
        obtain ⟨gw, hw⟩ := hw
        cases r with
        | inr k => exact ⟨gw, hw⟩
        | inl x =>
          obtain ⟨nn2, j2, l2, m2, mx3, z3, aa3, oo3, b1, b2, b3, b4, b5, b6⟩ := hw
          exact ⟨gw, nn2, j2, l2, m2, mx3, z3, aa3, oo3, b1, b2, by omega, by omega, by omega, b6⟩
      have e63 : OK (fun w r => KPG u w ∧ match r with
        | .inr k => k = 3
        | .inl x => ∃ nn2 j2 l2 m2 mx2 z2 aa2 oo2, x = I ((l2 : Nat) : Int) ∧ SGI u w c p n q o s pp nn2 qq j2 l2 m2 mx2 z2 aa2 oo2 first ∧ nn2 + m2 = nn + (m + 1) ∧ nn ≤ nn2 ∧ j ≤ j2 ∧ (m2 = 0 ∨ mx2 < rk ∨ (mx2 = 4 ∧ rk = 4))) (hb_Pa_closeSigns_63 N (hg_Pa_closeSigns N M) v (I ((s : Nat) : Int)) (I ((rk : Nat) : Int)) (I ((l : Nat) : Int)) (I ((t : Nat) : Int)) (I k) (I ((mx : Nat) : Int))) := by
        unfold hb_Pa_closeSigns_63
        exact ok_br.mpr ⟨fun _ => ok_br.mpr ⟨fun _ => refuse_T hv (fun w gw => ⟨g.tr gw, rfl⟩), fun _ => e79⟩, fun _ => e79⟩
      rw [show (4 : Int32) = I 4 from rfl]
      refine k_eq ⟨by omega, by omega⟩ ⟨by omega, by omega⟩ (fun he => k_eq ⟨by omega, by omega⟩ ⟨by decide, by decide⟩ (fun h4 => stop (Or.inr (Or.inr ⟨by omega, by omega⟩))) (fun _ => e63)) (fun _ => e63)
end
