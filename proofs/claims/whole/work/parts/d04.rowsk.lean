/-! the reader of a text: leaves, rows -/
set_option maxRecDepth 100000
section
variable {u v w : MS} {N c p n q o s k p2 n2 q2 m a b l lo hi r d most z : Nat}
/-- how many -/
theorem len_okK {E : Nat → Nat → Nat → Nat → Nat → Nat → Nat → Prop} (hb : BdE E) (hN : 10000 ≤ N) (hB : b ≤ 8015) (h : ORcK u d z E k m lo hi a b q r) : hm_Tr_length N u (I ((m : Nat) : Int)) = some (u, I ((k : Nat) : Int)) := by
  unfold hm_Tr_length hb_Tr_length_0
  have z0 : ∀ (M j : Nat), 1 ≤ M → hg_Tr_length N M u (I ((j : Nat) : Int)) (I 0) = some (u, I ((j : Nat) : Int)) := fun M j hM => by
    cases M with
    | zero => omega
    | succ M =>
      show hb_Tr_length_4 N (hg_Tr_length N M) u (I ((j : Nat) : Int)) (I 0) = _
      unfold hb_Tr_length_4
      rw [show decide (I 0 = (0 : Int32)) = true from by decide, br_t]
  have gen : ∀ (k M j n lo a q : Nat), RWcK u d z E k n lo hi a b q r → b + 1 < M + a → j + b ≤ 100000 + a → hg_Tr_length N M u (I ((j : Nat) : Int)) (I ((n : Nat) : Int)) = some (u, I ((j + k : Nat) : Int)) := by
    intro k
    induction k with
    | zero => intro M j n lo a q h; exact h.elim
    | succ k ih =>
      intro M j n lo a q h hM hj
      obtain ⟨m2, c, s, e, h⟩ := h
      have g := hb _ _ _ _ _ _ _ e
      have hn := g.1
      have hcb : c ≤ b := by
        rcases h with ⟨-, -, -, h, -⟩ | ⟨-, n2, -, h3⟩
        · omega
        · have := (RW_hdK hb h3).1.1; omega
      cases M with
      | zero => omega
      | succ M =>
        show hb_Tr_length_4 N (hg_Tr_length N M) u (I ((j : Nat) : Int)) (I ((n : Nat) : Int)) = _
        unfold hb_Tr_length_4
        rw [decide_eq_false (show ¬ I ((n : Nat) : Int) = (0 : Int32) from fun y => by have := (I_eq (x := ((n : Nat) : Int)) (y := 0) (by omega) (by omega) (by decide) (by decide)).mp y; omega), br_f, (I_inb (by omega) (by omega)).mpr ⟨by omega, by omega⟩, ck_t, tnI (n := n) rfl (by omega), I_A (k := 21), lit1, I_add, show ((j : Nat) : Int) + 1 = ((j + 1 : Nat) : Int) by omega]
        rcases h with ⟨h1, h2, -⟩ | ⟨h1, n2, h2, h3⟩
        · rw [h2, z0 M (j + 1) (by omega), show j + 1 = j + (k + 1) by omega]
        · rw [h2, ih M (j + 1) n2 _ c s h3 (by omega) (by omega), show j + 1 + k = j + (k + 1) by omega]
  rw [lit0, show (0 : Int) = ((0 : Nat) : Int) from rfl]
  rcases h with ⟨rfl, rfl, -⟩ | ⟨h1, h2⟩
  · exact z0 N 0 (by omega)
  · have e := gen k N 0 m lo a q h2 (by omega) (by omega)
    rw [Nat.zero_add] at e
    exact e
/-- one after the other, with commas between -/
theorem row_okcK {S : SF_Pa_matched} {y : Int32} {Ew : MS → Nat → Nat → Nat → Nat → Nat → Nat → Nat → Prop} (hst : ∀ u w, StE u w (Ew u) (Ew w)) (hbd : ∀ u, BdE (Ew u)) (hmost : 1 ≤ most ∧ most ≤ 4000)
    (he : y = 0 → ∀ u c p n q s, PSI u c p n q o s → OK (fun w r => NDQ (fun w m lo hi a b q r => Ew w m lo hi a b q r ∧ A w 21 m = 0) u c p n q o s w r) (S.2.2.2.2.2.2.2.2.2.2.2.2.2.2.1 u 1))
    (hp : y ≠ 0 → ∀ u c p n q s, PSI u c p n q o s → OK (fun w r => NDQ (fun w m lo hi a b q r => Ew w m lo hi a b q r ∧ A w 21 m = 0) u c p n q o s w r) (S.2.2.2.2.2.2.2.2.2.2.2.2.2.2.2.2.2.1 u))
    (h : PSI u c p n q o s) (hN : 10000 ≤ N) : OK (fun w r => NDQ (fun w m lo hi a b q r => ∃ k, (1 ≤ k ∧ k ≤ most) ∧ RWcK w 1 26 (Ew w) k m lo hi a b q r) u c p n q o s w r) (hm_Pa_row N S u y (I ((most : Nat) : Int))) := by
  have hc := h.1.1
  have gen : ∀ (M k first l pp nn qq : Nat) (v : MS), KPG u v → OLDc u v n s → PSI v c pp nn qq o s → p ≤ pp → RPcK v 1 26 (Ew v) k first l p pp n nn q qq → A v 21 l = 0 → k ≤ most → 4001 < M + pp → OK (fun w r => NDQ (fun w m lo hi a b q r => ∃ k, (1 ≤ k ∧ k ≤ most) ∧ RWcK w 1 26 (Ew w) k m lo hi a b q r) u c p n q o s w r) (hg_Pa_row N S M v y (I ((most : Nat) : Int)) (I ((first : Nat) : Int)) (I ((l : Nat) : Int)) (I ((k : Nat) : Int))) := by
    intro M
    induction M with
    | zero =>
      intro k first l pp nn qq v _ _ hv
      have := hv.2.1.2
      omega
    | succ M ih =>
      intro k first l pp nn qq v g ol hv hpp rp h0 hk hM
      show OK _ (hb_Pa_row_23 N S (hg_Pa_row N S M) v y (I ((most : Nat) : Int)) (I ((first : Nat) : Int)) (I ((l : Nat) : Int)) (I ((k : Nat) : Int)))
      unfold hb_Pa_row_23 hb_Pa_row_78
      have rh := RP_hdK (hbd v) rp
      have hk1 : 1 ≤ k := by
        cases k with
        | zero => exact rp.elim
        | succ k => omega
      have done : NDQ (fun w m lo hi a b q r => ∃ k, (1 ≤ k ∧ k ≤ most) ∧ RWcK w 1 26 (Ew w) k m lo hi a b q r) u c p n q o s v (.inl (I ((first : Nat) : Int))) := ⟨g, first, pp, nn, qq, rfl, ol, hv, hpp, k, ⟨hk1, hk⟩, RW_ofK (hbd v) rp h0⟩
      refine k_le ⟨by omega, by omega⟩ ⟨by omega, by omega⟩ (fun _ => ok_some.mpr done) (fun hlt => look_T hv (fun w gw => ⟨g.tr gw, rfl⟩) (fun h45 => ?_))
      rw [show (26 : Int32) = I 26 from rfl]
      refine k_eq (A_r v 6 pp) ⟨by decide, by decide⟩ (fun e26 => ok_lt.mpr ?_) (fun _ => ok_some.mpr done)
      obtain ⟨hlt2, hv2⟩ := PSI_at hv ⟨by omega, by omega⟩
      rw [inc_e hv]
      have g2 : KPG v (wi v 665 ((pp + 1 : Nat) : Int)) := KPG_at
      have o2 : OLDc v (wi v 665 ((pp + 1 : Nat) : Int)) nn s := OLDc.row rfl
      generalize wi v 665 ((pp + 1 : Nat) : Int) = v2 at hv2 g2 o2
      have step : ∀ (x : Option (MS × (Int32 ⊕ Nat))), OK (fun w r => NDQ (fun w m lo hi a b q r => Ew w m lo hi a b q r ∧ A w 21 m = 0) v2 c (pp + 1) nn qq o s w r) x → OK (fun w r => NDQ (fun w m lo hi a b q r => ∃ k, (1 ≤ k ∧ k ≤ most) ∧ RWcK w 1 26 (Ew w) k m lo hi a b q r) u c p n q o s w r) (bTm x (fun u5 r5 => hb_Pa_row_67 N S (hg_Pa_row N S M) u5 y (I ((most : Nat) : Int)) (I ((first : Nat) : Int)) (I ((k : Nat) : Int)) (I ((l : Nat) : Int)) r5)) := fun x hx => ok_T (ok_mono hx (fun w r hw => by
        obtain ⟨gw, hw⟩ := hw
        cases r with
        | inr k => exact ⟨g.tr (g2.tr gw), hw⟩
        | inl x =>
          obtain ⟨m, p3, n3, q3, rfl, ol3, hv3, hp3, em, m0⟩ := hw
          show OK _ (hb_Pa_row_67 N S (hg_Pa_row N S M) w y (I ((most : Nat) : Int)) (I ((first : Nat) : Int)) (I ((k : Nat) : Int)) (I ((l : Nat) : Int)) (I ((m : Nat) : Int)))
          unfold hb_Pa_row_67
          have hm := hbd w _ _ _ _ _ _ _ em
          have hm1 := hm.1
          have n3b : n3 ≤ 8000 := by have := hv3.2.2.1.2; have := hv3.2.1.2; omega
          rw [chain_e (by omega), bnd_so, lit1, I_add, show ((k : Nat) : Int) + 1 = ((k + 1 : Nat) : Int) by omega]
          have ov : OLDc v w nn s := OLDc.tr o2 ol3 (Nat.le_refl _)
          have gv : KPG v w := g2.tr gw
          have gw2 : KPG w (wa w 21 l ((m : Nat) : Int)) := FR.wa FR.rf (by simp)
          have a21 : ∀ k, k ≠ l → A (wa w 21 l ((m : Nat) : Int)) 21 k = A w 21 k := fun k hk => wa_ne hk
          have aO : ∀ r k, r ≠ 21 → A (wa w 21 l ((m : Nat) : Int)) r k = A w r k := fun r k hr => wa_rne hr
          have a21l : A (wa w 21 l ((m : Nat) : Int)) 21 l = ((m : Nat) : Int) := wa_eq ⟨by omega, by omega⟩
          have hv4 : PSI (wa w 21 l ((m : Nat) : Int)) c p3 n3 q3 o s := ⟨TKK_g gw2 hv3.1, hv3.2⟩
          have e6 : (wa w 21 l ((m : Nat) : Int)).2.2.1 6 = w.2.2.1 6 := gw2.2.2.1 6 (by simp)
          have e7 : (wa w 21 l ((m : Nat) : Int)).2.2.1 7 = w.2.2.1 7 := gw2.2.2.1 7 (by simp)
          generalize wa w 21 l ((m : Nat) : Int) = w5 at gw2 a21 aO a21l hv4 e6 e7
          have kv : KNc v w5 n nn l := ⟨⟨e6.trans (gv.2.2.1 6 (by simp)), e7.trans (gv.2.2.1 7 (by simp))⟩, fun k k1 k2 => by
            obtain ⟨b1, b2, b3, b4, b5, b6⟩ := ov.1 k k2
            exact ⟨⟨by rw [aO _ _ (by decide)]; exact b1, by rw [aO _ _ (by decide)]; exact b2, by rw [aO _ _ (by decide)]; exact b3, by rw [aO _ _ (by decide)]; exact b4, by rw [aO _ _ (by decide)]; exact b5⟩, fun k3 => by rw [a21 k k3]; exact b6⟩⟩
          have kw : KNc w w5 nn n3 m := ⟨⟨e6, e7⟩, fun k k1 k2 => ⟨⟨aO _ _ (by decide), aO _ _ (by decide), aO _ _ (by decide), aO _ _ (by decide), aO _ _ (by decide)⟩, fun k3 => a21 k (by omega)⟩⟩
          have rp5 := RP_kK (hst v w5) (hbd v) rp kv
          have em5 := hst w w5 _ _ _ _ _ _ _ em kw
          refine ih (k + 1) first m p3 n3 q3 w5 (g.tr (gv.tr gw2)) ?_ hv4 (by omega) (Or.inr ⟨hk1, l, pp, nn, qq, rp5, ⟨a21l, fun _ => (gv.tr gw2).a6.trans e26⟩, em5⟩) ?_ (by omega) (by omega)
          · have o6 := OLDc.tr ol ov (by omega)
            refine ⟨fun k hk => ?_, fun i hi => by rw [aO _ _ (by decide)]; exact o6.2 i hi⟩
            obtain ⟨b1, b2, b3, b4, b5, b6⟩ := o6.1 k hk
            exact ⟨by rw [aO _ _ (by decide)]; exact b1, by rw [aO _ _ (by decide)]; exact b2, by rw [aO _ _ (by decide)]; exact b3, by rw [aO _ _ (by decide)]; exact b4, by rw [aO _ _ (by decide)]; exact b5, by rw [a21 k (by omega)]; exact b6⟩
          · rw [a21 m (by have := hm.1; omega)]; exact m0))
      exact ok_br.mpr ⟨fun z => step _ (he (of_decide_eq_true z) v2 c (pp + 1) nn qq s hv2), fun z => step _ (hp (of_decide_eq_false z) v2 c (pp + 1) nn qq s hv2)⟩
  unfold hm_Pa_row hb_Pa_row_0 hb_Pa_row_16
  have step : ∀ (x : Option (MS × (Int32 ⊕ Nat))), OK (fun w r => NDQ (fun w m lo hi a b q r => Ew w m lo hi a b q r ∧ A w 21 m = 0) u c p n q o s w r) x → OK (fun w r => NDQ (fun w m lo hi a b q r => ∃ k, (1 ≤ k ∧ k ≤ most) ∧ RWcK w 1 26 (Ew w) k m lo hi a b q r) u c p n q o s w r) (bTm x (fun u7 r7 => hg_Pa_row N S N u7 y (I ((most : Nat) : Int)) r7 r7 1)) := fun x hx => ok_T (ok_mono hx (fun w r hw => by
    obtain ⟨gw, hw⟩ := hw
    cases r with
    | inr k => exact ⟨gw, hw⟩
    | inl x =>
      obtain ⟨m, p3, n3, q3, rfl, ol3, hv3, hp3, em, m0⟩ := hw
      show OK _ (hg_Pa_row N S N w y (I ((most : Nat) : Int)) (I ((m : Nat) : Int)) (I ((m : Nat) : Int)) (I ((1 : Nat) : Int)))
      exact gen N 1 m m p3 n3 q3 w gw ol3 hv3 hp3 (Or.inl ⟨rfl, rfl, em⟩) m0 hmost.1 (by omega)))
  exact ok_br.mpr ⟨fun z => step _ (he (of_decide_eq_true z) u c p n q s h), fun z => step _ (hp (of_decide_eq_false z) u c p n q s h)⟩
/-- such a row or none, and what closes it -/
theorem rowUpTo_okcK {S : SF_Pa_matched} {y : Int32} {K : Int} {Ew : MS → Nat → Nat → Nat → Nat → Nat → Nat → Nat → Prop} (hst : ∀ u w, StE u w (Ew u) (Ew w)) (hbd : ∀ u, BdE (Ew u)) (hK : 1 ≤ K ∧ K ≤ 44)
    (hr : ∀ u c p n q s, PSI u c p n q o s → OK (fun w r => NDQ (fun w m lo hi a b q r => ∃ k, (1 ≤ k ∧ k ≤ most) ∧ RWcK w 1 26 (Ew w) k m lo hi a b q r) u c p n q o s w r) (S.2.2.2.2.2.2.2.2.2.2.2.2.2.2.2.2.2.2.1 u y (I ((most : Nat) : Int))))
    (h : PSI u c p n q o s) : OK (fun w r => NDQ (fun w m lo hi a b q r => (lo + 1 ≤ hi ∧ A w 6 (hi - 1) = K) ∧ ∃ k, k ≤ most ∧ ORcK w 1 26 (Ew w) k m lo (hi - 1) a b q r) u c p n q o s w r) (hm_Pa_rowUpTo N S u y (I ((most : Nat) : Int)) (I K)) := by
  unfold hm_Pa_rowUpTo hb_Pa_rowUpTo_0 hb_Pa_rowUpTo_18
  refine look_T h (fun w gw => ⟨gw, rfl⟩) (fun h45 => ?_)
  refine k_eq (A_r u 6 p) ⟨by omega, by omega⟩ (fun e => ?_) (fun _ => ?_)
  · refine need_T h hK (fun w gw => ⟨gw, rfl⟩) (fun _ h2 => ok_some.mpr ⟨KPG_at, 0, p + 1, n, q, rfl, OLDc.row rfl, h2, by omega, ⟨by omega, by rw [show p + 1 - 1 = p by omega]; exact e⟩, 0, by omega, Or.inl ⟨rfl, rfl, by omega, rfl, rfl⟩⟩)
  · refine ok_T (ok_mono (hr u c p n q s h) (fun w r hw => ?_))
    obtain ⟨gw, hw⟩ := hw
    cases r with
    | inr k => exact ⟨gw, hw⟩
    | inl x =>
      obtain ⟨m, p3, n3, q3, rfl, ol3, hv3, hp3, k, hk, em⟩ := hw
      refine need_T hv3 hK (fun w2 gw2 => ⟨gw.tr gw2, rfl⟩) (fun e3 h2 => ok_some.mpr ⟨gw.tr KPG_at, m, p3 + 1, n3, q3, rfl, OLDc.tr ol3 (OLDc.row rfl) (Nat.le_refl _), h2, by omega, ⟨by omega, by rw [show p3 + 1 - 1 = p3 by omega]; exact e3⟩, k, hk.2, Or.inr ⟨hk.1, ?_⟩⟩)
      rw [show p3 + 1 - 1 = p3 by omega]
      exact RW_kK (hst w _) (hbd w) em (KN_old KPG_at (OLDc.row (n := n3) (s := 0) rfl) (Nat.le_refl _))
end
