/-! the reader of a text: CALLS, units -/
set_option maxRecDepth 100000
section
variable {u v w : MS} {N c p n q o s p2 n2 q2 m a b l lo hi r d most f t x q0 z : Nat}
theorem atomOrCall_okcK {S : SF_Pa_matched} (ho : o ≤ 25)
    (hr : ∀ u c p n q s, PSI u c p n q o s → OK (fun w r => NDQ (fun w m lo hi a b q r => (lo + 1 ≤ hi ∧ A w 6 (hi - 1) = 21) ∧ ∃ k, k ≤ 6 ∧ ORcK w 1 26 (GwK o w) k m lo (hi - 1) a b q r) u c p n q o s w r) (S.2.2.2.2.2.2.2.2.2.2.2.2.2.2.2.2.2.2.2 u 0 (I ((6 : Nat) : Int)) (I 21)))
    (h : PSI u c p n q o s) (hk : A u 6 p = 2) (hN : 10000 ≤ N) : OK (fun w r => NDQ (fun w m lo hi a b q r => UwK 0 o w m lo hi a b q r ∧ A w 21 m = 0) u c p n q o s w r) (hm_Pa_atomOrCall N S u) := by
  have hc := h.1.1
  have h2p := h.2.2.1.2
  unfold hm_Pa_atomOrCall hb_Pa_atomOrCall_0
  rw [show u.1 665 = I ((p : Nat) : Int) by rw [I_F (k := 665), h.2.1.1]]
  refine leaf_B h (by omega) (fun v g1 o1 h2 lf m0 a6 => ?_)
  have p2c := h2.2.1.2
  refine look_T h2 (fun w gw => ⟨g1.tr gw, rfl⟩) (fun h45 => ?_)
  rw [show (20 : Int32) = I 20 from rfl]
  refine k_eq (A_r v 6 (p + 1)) ⟨by decide, by decide⟩ (fun e => ok_lt.mpr ?_) (fun ne => ok_some.mpr ?_)
  · obtain ⟨hlt2, h3⟩ := PSI_at h2 (by omega)
    rw [inc_e h2]
    have g3 : KPG v (wi v 665 ((p + 1 + 1 : Nat) : Int)) := KPG_at
    have o3 : OLDc v (wi v 665 ((p + 1 + 1 : Nat) : Int)) (n + 1) s := OLDc.row rfl
    generalize wi v 665 ((p + 1 + 1 : Nat) : Int) = w1 at h3 g3 o3
    refine ok_T (ok_mono (hr w1 c (p + 1 + 1) (n + 1) q s h3) (fun w5 r hw5 => ?_))
    obtain ⟨g5, hw5⟩ := hw5
    cases r with
    | inr k => exact ⟨g1.tr (g3.tr g5), hw5⟩
    | inl x2 =>
      obtain ⟨mp, p5, n5, q5, rfl, ol5, hv5, hp5, hlo, k, hk6, em⟩ := hw5
      have oh := OR_hdK (Gw_bdK w5) em
      have n5b : n5 ≤ 8000 := by have := hv5.2.2.1.2; have := hv5.2.1.2; omega
      have p5c := hv5.2.1.2
      have mb : mp ≤ 8015 := by
        rcases em with ⟨-, h, -⟩ | ⟨-, h⟩
        · omega
        · have := (RW_hdK (Gw_bdK w5) h).1.1; omega
      refine e_in ⟨by omega, by omega⟩ (by decide) ?_
      rw [len_okK (Gw_bdK w5) hN (by omega) em, bnd_so, tnI (n := p) rfl (by omega), I_A (k := 7), show (14 : Int32) = I 14 from rfl]
      refine add_B hv5 (by omega) ⟨by decide, by decide⟩ ⟨by omega, by omega⟩ (A_r w5 7 p) ⟨by omega, by omega⟩ ⟨by omega, by omega⟩ (fun w6 g6 o6 h6 fa => ok_some.mpr ?_)
      obtain ⟨f1, f2, f3, f4, f5, f6⟩ := fa
      refine ⟨g1.tr (g3.tr (g5.tr g6)), n5 + 1, p5, n5 + 1, q5, rfl, OLDc.tr o1 (OLDc.tr o3 (OLDc.tr ol5 o6 (by omega)) (Nat.le_refl _)) (by omega), h6, by omega, ?_, f6⟩
      show XPcK w6 (4 * (26 - o)) o 0 _ _ _ _ _ _ _
      rw [f_o ho]
      exact ⟨⟨⟨by omega, by omega⟩, by omega, by omega, by omega, by omega⟩, ⟨p, f2, by omega, by omega⟩, ho, Or.inr (Or.inr (Or.inr (Or.inr (Or.inr (Or.inr (Or.inr (Or.inr (Or.inr (Or.inr (Or.inl ⟨f1, f2, k, mp, n + 1, n5, f4, f5, hk6, by omega, OR_kK (GXK w5 w6) (Gw_bdK w5) em (KN_old g6 o6 (Nat.le_refl _)), by omega, (g1.tr (g3.tr (g5.tr g6))).a6.trans hk, (g3.tr (g5.tr g6)).a6.trans e, g6.a6.trans hlo.2, f3.trans (show A w5 7 p = A w6 7 p by show _ = (w6.2.2.1 7 _).toInt; rw [g6.2.2.1 7 (by simp)]; rfl)⟩))))))))))⟩
  · refine ⟨g1, n + 1, p + 1, n + 1, q, rfl, o1, h2, by omega, ?_, m0⟩
    show XPcK v (4 * (26 - o)) o 0 _ _ _ _ _ _ _
    rw [f_o ho]
    exact ⟨⟨⟨by omega, by omega⟩, by omega, by omega, by omega, by omega⟩, ⟨p, lf.2.2.1, by omega, by omega⟩, ho, Or.inl ⟨lf, ⟨rfl, fun _ => ne⟩, rfl⟩⟩
/-- what is applied to ARGUMENTS -/
theorem applied_okcK {S : SF_Pa_matched} (ho : o ≤ 25)
    (hr : ∀ u c p n q s, PSI u c p n q o s → OK (fun w r => NDQ (fun w m lo hi a b q r => (lo + 1 ≤ hi ∧ A w 6 (hi - 1) = 21) ∧ ∃ k, k ≤ 6 ∧ ORcK w 1 26 (GwK o w) k m lo (hi - 1) a b q r) u c p n q o s w r) (S.2.2.2.2.2.2.2.2.2.2.2.2.2.2.2.2.2.2.2 u 0 (I ((6 : Nat) : Int)) (I 21)))
    (h : PSI u c p n q o s) (hx : UwK 0 o u x lo p a n q0 q) (x0 : A u 21 x = 0) (ha2 : a ≤ 2 * lo) (hN : 10000 ≤ N) : OK (fun w r => NDQ (fun w m _ hi _ b _ r => UwK 1 o w m lo hi a b q0 r ∧ A w 21 m = 0) u c p n q o s w r) (hm_Pa_applied N S u (I ((x : Nat) : Int))) := by
  have hc := h.1.1
  have h2p := h.2.2.1.2
  have hd := Uw_bdK u _ _ _ _ _ _ _ hx
  have tkx : TKc u x lo p := by
    have hx2 : XPcK u (4 * (26 - o)) o 0 x lo p a n q0 q := hx
    rw [f_o ho] at hx2
    exact hx2.2.1
  obtain ⟨tx, etx, tx1, tx2⟩ := tkx
  have txl : tx = lo := by
    have := XP_17 hx rfl
    omega
  unfold HDc at hd
  have n8 : n ≤ 8000 := by have := h.2.1.2; omega
  have gen : ∀ (M k j first l pp nn qq : Nat) (v : MS), KPG u v → OLDc u v n s → PSI v c pp nn qq o s → (A v 16 (n + 1) = 15 ∧ A v 17 (n + 1) = ((tx : Nat) : Int) ∧ A v 18 (n + 1) = ((x : Nat) : Int) ∧ A v 21 (n + 1) = 0) → ((k = 0 ∧ l = 0 ∧ pp = p ∧ nn = n + 1 ∧ qq = q ∧ A v 6 pp = 20) ∨ (1 ≤ k ∧ A v 19 (n + 1) = ((first : Nat) : Int) ∧ RPcK v 0 0 (AGcK v (GwK o v)) k first l p pp (n + 1) nn q qq ∧ A v 21 l = 0)) → j + p ≤ pp → 4001 < M + pp → OK (fun w r => NDQ (fun w m _ hi _ b _ r => UwK 1 o w m lo hi a b q0 r ∧ A w 21 m = 0) u c p n q o s w r) (hg_Pa_applied N S M v (I ((n + 1 : Nat) : Int)) (I ((l : Nat) : Int)) (I ((j : Nat) : Int))) := by
    intro M
    induction M with
    | zero =>
      intro k j first l pp nn qq v _ _ hv
      have := hv.2.1.2
      omega
    | succ M ih =>
      intro k j first l pp nn qq v g ol hv nf hk hj hM
      have ppc := hv.2.1.2
      show OK _ (hb_Pa_applied_38 N S (hg_Pa_applied N S M) v (I ((n + 1 : Nat) : Int)) (I ((l : Nat) : Int)) (I ((j : Nat) : Int)))
      unfold hb_Pa_applied_38 hb_Pa_applied_145
      have hpos : n + 1 ≤ nn ∧ p ≤ pp ∧ l ≤ nn ∧ nn + 2 * p ≤ n + 1 + 2 * pp ∧ q ≤ qq ∧ 5 * qq + p ≤ 5 * q + pp := by
        rcases hk with hk | ⟨h1, h2, h3, h4⟩
        · omega
        · have := RP_hdK AG_bdK h3; omega
      have done : (k = 0 → False) → NDQ (fun w m _ hi _ b _ r => UwK 1 o w m lo hi a b q0 r ∧ A w 21 m = 0) u c p n q o s v (.inl (I ((n + 1 : Nat) : Int))) := fun hk0 => by
        rcases hk with ⟨h1, -⟩ | ⟨h1, h2, h3, h4⟩
        · exact absurd h1 (fun z => hk0 z)
        · have rh := RP_hdK AG_bdK h3
          refine ⟨g, n + 1, pp, nn, qq, rfl, ol, hv, by omega, ?_, nf.2.2.2⟩
          refine ⟨⟨⟨by omega, by omega⟩, by omega, by omega, by omega, by omega⟩, ⟨tx, nf.2.1, by omega, by omega⟩, ho, Or.inr (Or.inr (Or.inr (Or.inr (Or.inr (Or.inr (Or.inr (Or.inr (Or.inr (Or.inr (Or.inr (Or.inl ⟨nf.1, Nat.le_refl _, x, p, n, q, k, first, nf.2.2.1, Uw_stK u v _ _ _ _ _ _ _ hx (KN_old g ol (Nat.le_refl _)), ⟨by omega, by rw [nf.2.1, txl]⟩, h2, ?_⟩)))))))))))⟩
          have rw1 := RW_ofK AG_bdK h3 h4
          exact RW_kK (AG_kK (XP_kK (by omega) (Nat.le_refl _)) (Gw_bdK v)) AG_bdK rw1 (KN_old KPG.rf (OLDc.rf (n := nn) (s := 0)) (Nat.le_refl _))
      rw [show (4000 : Int32) = I 4000 from rfl]
      refine k_le ⟨by decide, by decide⟩ ⟨by omega, by omega⟩ (fun z => ok_some.mpr (done (fun k0 => ?_))) (fun hlt => look_T hv (fun w gw => ⟨g.tr gw, rfl⟩) (fun h45 => ?_))
      · rcases hk with ⟨-, -, hk, -⟩ | ⟨hk, -⟩
        · omega
        · omega
      rw [show (20 : Int32) = I 20 from rfl]
      refine k_eq (A_r v 6 pp) ⟨by decide, by decide⟩ (fun e20 => ok_lt.mpr ?_) (fun ne => ok_some.mpr (done (fun k0 => ?_)))
      rotate_left
      · rcases hk with ⟨-, -, -, -, -, hk⟩ | ⟨hk, -⟩
        · exact ne hk
        · omega
      obtain ⟨hlt2, hv2⟩ := PSI_at hv ⟨by omega, by omega⟩
      rw [inc_e hv, show v.1 665 = I ((pp : Nat) : Int) by rw [I_F (k := 665), hv.2.1.1]]
      have g2 : KPG v (wi v 665 ((pp + 1 : Nat) : Int)) := KPG_at
      have o2 : OLDc v (wi v 665 ((pp + 1 : Nat) : Int)) nn s := OLDc.row rfl
      generalize wi v 665 ((pp + 1 : Nat) : Int) = v2 at hv2 g2 o2
      refine ok_T (ok_mono (hr v2 c (pp + 1) nn qq s hv2) (fun w r hw => ?_))
      obtain ⟨gw, hw⟩ := hw
      cases r with
      | inr k => exact ⟨g.tr (g2.tr gw), hw⟩
      | inl x2 =>
        obtain ⟨mp, p5, n5, q5, rfl, ol5, hv5, hp5, hlo, ka, hk6, em⟩ := hw
        have oh := OR_hdK (Gw_bdK w) em
        have n5b : n5 ≤ 8000 := by have := hv5.2.2.1.2; have := hv5.2.1.2; omega
        have p5c := hv5.2.1.2
        have mb : mp ≤ 8015 := by
          rcases em with ⟨-, h, -⟩ | ⟨-, h⟩
          · omega
          · have := (RW_hdK (Gw_bdK w) h).1.1; omega
        show OK _ (bnd (hm_Tr_length N w (I ((mp : Nat) : Int))) _)
        rw [len_okK (Gw_bdK w) hN (by omega) em, bnd_so, show (16 : Int32) = I 16 from rfl, lit0]
        refine add_B hv5 (by omega) ⟨by decide, by decide⟩ ⟨by omega, by omega⟩ ⟨by omega, by omega⟩ ⟨by omega, by omega⟩ ⟨by decide, by decide⟩ (fun w6 g6 o6 h6 fa => ?_)
        obtain ⟨f1, f2, f3, f4, f5, f6⟩ := fa
        have gv6 : KPG v w6 := g2.tr (gw.tr g6)
        have ov6 : OLDc v w6 nn s := OLDc.tr o2 (OLDc.tr ol5 o6 (by omega)) (Nat.le_refl _)
        have ag : AGcK w6 (GwK o w6) (n5 + 1) pp p5 nn (n5 + 1) qq q5 := ⟨⟨⟨by omega, by omega⟩, by omega, by omega, by omega, by omega⟩, f1, ka, mp, n5, f3, f4, ⟨hk6, gv6.a6.trans e20, g6.a6.trans hlo.2⟩, OR_kK (Gw_stK w w6) (Gw_bdK w) em (KN_old g6 o6 (Nat.le_refl _)), by omega⟩
        have hd1 := (ov6.1 (n + 1) (by omega))
        have hj1 : I ((j : Nat) : Int) + 1 = I ((j + 1 : Nat) : Int) := by rw [lit1, I_add, show ((j : Nat) : Int) + 1 = ((j + 1 : Nat) : Int) by omega]
        unfold hb_Pa_applied_136
        rw [hj1]
        rcases hk with ⟨h1, h2, h3, h4, h5, -⟩ | ⟨h1, h2, h3, h4⟩
        · subst h2
          refine ok_br.mpr ⟨fun _ => ?_, fun z => absurd z (by decide)⟩
          refine e_in ⟨by omega, by omega⟩ (by decide) (ok_lt.mpr ?_)
          rw [tnI (n := n + 1) rfl (by omega), wa_e]
          have a19 : ∀ k, k ≠ n + 1 → A (wa w6 19 (n + 1) ((n5 + 1 : Nat) : Int)) 19 k = A w6 19 k := fun k hk => wa_ne hk
          have aO : ∀ r k, r ≠ 19 → A (wa w6 19 (n + 1) ((n5 + 1 : Nat) : Int)) r k = A w6 r k := fun r k hr => wa_rne hr
          have a19d : A (wa w6 19 (n + 1) ((n5 + 1 : Nat) : Int)) 19 (n + 1) = ((n5 + 1 : Nat) : Int) := wa_eq ⟨by omega, by omega⟩
          have g7 : KPG w6 (wa w6 19 (n + 1) ((n5 + 1 : Nat) : Int)) := FR.wa FR.rf (by simp)
          have h7 : PSI (wa w6 19 (n + 1) ((n5 + 1 : Nat) : Int)) c p5 (n5 + 1) q5 o s := ⟨TKK_g g7 h6.1, h6.2⟩
          generalize wa w6 19 (n + 1) ((n5 + 1 : Nat) : Int) = w7 at a19 aO a19d g7 h7
          have kn : KNc w6 w7 nn (n5 + 1) (n5 + 1) := ⟨⟨g7.2.2.1 6 (by simp), g7.2.2.1 7 (by simp)⟩, fun k k1 k2 => ⟨⟨aO _ _ (by decide), aO _ _ (by decide), aO _ _ (by decide), a19 k (by omega), aO _ _ (by decide)⟩, fun _ => aO _ _ (by decide)⟩⟩
          have ol7 : OLDc u w7 n s := by
            have o8 := OLDc.tr ol ov6 (by omega)
            refine ⟨fun k hk => ?_, fun i hi => by rw [aO _ _ (by decide)]; exact o8.2 i hi⟩
            obtain ⟨b1, b2, b3, b4, b5, b6⟩ := o8.1 k hk
            exact ⟨by rw [aO _ _ (by decide)]; exact b1, by rw [aO _ _ (by decide)]; exact b2, by rw [aO _ _ (by decide)]; exact b3, by rw [a19 k (by omega)]; exact b4, by rw [aO _ _ (by decide)]; exact b5, by rw [aO _ _ (by decide)]; exact b6⟩
          refine ih 1 (j + 1) (n5 + 1) (n5 + 1) p5 (n5 + 1) q5 w7 (g.tr (gv6.tr g7)) ol7 h7 ⟨by rw [aO _ _ (by decide), hd1.1]; exact nf.1, by rw [aO _ _ (by decide), hd1.2.1]; exact nf.2.1, by rw [aO _ _ (by decide), hd1.2.2.1]; exact nf.2.2.1, by rw [aO _ _ (by decide), hd1.2.2.2.2.2]; exact nf.2.2.2⟩ (Or.inr ⟨Nat.le_refl _, a19d, Or.inl ⟨rfl, rfl, ?_⟩, by rw [aO _ _ (by decide)]; exact f6⟩) (by omega) (by omega)
          have := AG_kK (Gw_stK w6 w7) (Gw_bdK w6) _ _ _ _ _ _ _ ag kn
          rw [h4, h3, h5] at this
          exact this
        · have rh := RP_hdK AG_bdK h3
          refine ok_br.mpr ⟨fun z => ?_, fun _ => ?_⟩
          · exfalso
            have := (I_eq (x := ((l : Nat) : Int)) (y := 0) (by omega) (by omega) (by decide) (by decide)).mp (show I ((l : Nat) : Int) = I 0 from of_decide_eq_true z)
            omega
          refine e_in ⟨by omega, by omega⟩ (by decide) (ok_lt.mpr ?_)
          rw [tnI (n := l) rfl (by omega), wa_e]
          have a21 : ∀ k, k ≠ l → A (wa w6 21 l ((n5 + 1 : Nat) : Int)) 21 k = A w6 21 k := fun k hk => wa_ne hk
          have aO : ∀ r k, r ≠ 21 → A (wa w6 21 l ((n5 + 1 : Nat) : Int)) r k = A w6 r k := fun r k hr => wa_rne hr
          have a21l : A (wa w6 21 l ((n5 + 1 : Nat) : Int)) 21 l = ((n5 + 1 : Nat) : Int) := wa_eq ⟨by omega, by omega⟩
          have g7 : KPG w6 (wa w6 21 l ((n5 + 1 : Nat) : Int)) := FR.wa FR.rf (by simp)
          have h7 : PSI (wa w6 21 l ((n5 + 1 : Nat) : Int)) c p5 (n5 + 1) q5 o s := ⟨TKK_g g7 h6.1, h6.2⟩
          generalize wa w6 21 l ((n5 + 1 : Nat) : Int) = w7 at a21 aO a21l g7 h7
          have kn : KNc w6 w7 nn (n5 + 1) (n5 + 1) := ⟨⟨g7.2.2.1 6 (by simp), g7.2.2.1 7 (by simp)⟩, fun k k1 k2 => ⟨⟨aO _ _ (by decide), aO _ _ (by decide), aO _ _ (by decide), aO _ _ (by decide), aO _ _ (by decide)⟩, fun _ => a21 k (by omega)⟩⟩
          have kv : KNc v w7 (n + 1) nn l := ⟨⟨(g7.2.2.1 6 (by simp)).trans (gv6.2.2.1 6 (by simp)), (g7.2.2.1 7 (by simp)).trans (gv6.2.2.1 7 (by simp))⟩, fun k k1 k2 => by
            obtain ⟨b1, b2, b3, b4, b5, b6⟩ := ov6.1 k k2
            exact ⟨⟨by rw [aO _ _ (by decide)]; exact b1, by rw [aO _ _ (by decide)]; exact b2, by rw [aO _ _ (by decide)]; exact b3, by rw [aO _ _ (by decide)]; exact b4, by rw [aO _ _ (by decide)]; exact b5⟩, fun k3 => by rw [a21 k k3]; exact b6⟩⟩
          have ol7 : OLDc u w7 n s := by
            have o8 := OLDc.tr ol ov6 (by omega)
            refine ⟨fun k hk => ?_, fun i hi => by rw [aO _ _ (by decide)]; exact o8.2 i hi⟩
            obtain ⟨b1, b2, b3, b4, b5, b6⟩ := o8.1 k hk
            exact ⟨by rw [aO _ _ (by decide)]; exact b1, by rw [aO _ _ (by decide)]; exact b2, by rw [aO _ _ (by decide)]; exact b3, by rw [aO _ _ (by decide)]; exact b4, by rw [aO _ _ (by decide)]; exact b5, by rw [a21 k (by omega)]; exact b6⟩
          have rp7 := RP_kK (AG_kK (Gw_stK v w7) (Gw_bdK v)) AG_bdK h3 kv
          have ag7 := AG_kK (Gw_stK w6 w7) (Gw_bdK w6) _ _ _ _ _ _ _ ag kn
          exact ih (k + 1) (j + 1) first (n5 + 1) p5 (n5 + 1) q5 w7 (g.tr (gv6.tr g7)) ol7 h7 ⟨by rw [aO _ _ (by decide), hd1.1]; exact nf.1, by rw [aO _ _ (by decide), hd1.2.1]; exact nf.2.1, by rw [aO _ _ (by decide), hd1.2.2.1]; exact nf.2.2.1, by rw [a21 _ (by omega), hd1.2.2.2.2.2]; exact nf.2.2.2⟩ (Or.inr ⟨by omega, by rw [aO _ _ (by decide), hd1.2.2.2.1]; exact h2, Or.inr ⟨h1, l, pp, nn, qq, rp7, ⟨a21l, fun z => absurd z (by decide)⟩, ag7⟩, by rw [a21 _ (by omega)]; exact f6⟩) (by omega) (by omega)
  unfold hm_Pa_applied hb_Pa_applied_0
  refine look_T h (fun w gw => ⟨gw, rfl⟩) (fun h45 => ?_)
  rw [show (20 : Int32) = I 20 from rfl]
  refine k_eq (A_r u 6 p) ⟨by decide, by decide⟩ (fun e20 => ?_) (fun _ => ok_some.mpr ⟨KPG.rf, x, p, n, q, rfl, OLDc.rf, h, Nat.le_refl _, XP_kK (by omega) (by omega) _ _ _ _ _ _ _ hx (KN_old KPG.rf (OLDc.rf (n := n) (s := 0)) (Nat.le_refl _)), x0⟩)
  refine e_in ⟨by omega, by omega⟩ (by decide) ?_
  rw [tnI (n := x) rfl (by omega), I_A (k := 17), etx, lit0, show (15 : Int32) = I 15 from rfl]
  have pc := h.2.1.2
  refine add_B h (by omega) ⟨by decide, by decide⟩ ⟨by omega, by omega⟩ ⟨by omega, by omega⟩ ⟨by decide, by decide⟩ ⟨by decide, by decide⟩ (fun w6 g6 o6 h6 fa => ?_)
  obtain ⟨f1, f2, f3, f4, f5, f6⟩ := fa
  exact gen N 0 0 0 0 p (n + 1) q w6 g6 o6 h6 ⟨f1, f2, f3, f6⟩ (Or.inl ⟨rfl, rfl, rfl, rfl, rfl, by rw [g6.a6]; exact e20⟩) (by omega) (by omega)
theorem unit_okcK {S : SF_Pa_matched} (ho : o ≤ 25)
    (hu : o < 25 → ∀ u c p n q s, PSI u c p n q (o + 1) s → OK (fun w r => NDQ (fun w m lo hi a b q r => UwK 1 (o + 1) w m lo hi a b q r ∧ A w 21 m = 0) u c p n q (o + 1) s w r) (S.2.2.2.2.2.2.2.2.2.2.2.2.1 u))
    (hp : ∀ u c p n q s, PSI u c p n q o s → OK (fun w r => NDQ (fun w m lo hi a b q r => UwK 0 o w m lo hi a b q r ∧ A w 21 m = 0) u c p n q o s w r) (S.2.2.2.2.2.2.2.2.2.2.2.1 u))
    (ha : ∀ u c p n q s x lo a q0, PSI u c p n q o s → UwK 0 o u x lo p a n q0 q → A u 21 x = 0 → a ≤ 2 * lo → OK (fun w r => NDQ (fun w m _ hi _ b _ r => UwK 1 o w m lo hi a b q0 r ∧ A w 21 m = 0) u c p n q o s w r) (S.2.1 u (I ((x : Nat) : Int))))
    (h : PSI u c p n q o s) : OK (fun w r => NDQ (fun w m lo hi a b q r => UwK 1 o w m lo hi a b q r ∧ A w 21 m = 0) u c p n q o s w r) (hm_Pa_unit N S u) := by
  have hc := h.1.1
  have h2p := h.2.2.1.2
  have e26 : ∀ v1 : Int32, A u 6 p ≠ 0 ∧ A u 6 p ≠ 45 → (v1 = 34 ∧ A u 6 p = 34) ∨ (v1 = 14 ∧ A u 6 p = 14) → OK (fun w r => NDQ (fun w m lo hi a b q r => UwK 1 o w m lo hi a b q r ∧ A w 21 m = 0) u c p n q o s w r) (hb_Pa_unit_26 N S () u v1) := fun v1 hk hv => by
    unfold hb_Pa_unit_26
    obtain ⟨hpc, h2⟩ := PSI_at h hk
    refine ok_lt.mpr ?_
    rw [inc_e h, show u.1 665 = I ((p : Nat) : Int) by rw [I_F (k := 665), h.2.1.1]]
    have g1 : KPG u (wi u 665 ((p + 1 : Nat) : Int)) := KPG_at
    have o1 : OLDc u (wi u 665 ((p + 1 : Nat) : Int)) n s := OLDc.row rfl
    generalize wi u 665 ((p + 1 : Nat) : Int) = v at h2 g1 o1
    refine look_T h2 (fun w gw => ⟨g1.tr gw, rfl⟩) (fun h45 => ?_)
    obtain ⟨r6, e6⟩ := begU (N := N) (u := v) (tk_rng h2.1 h2.2.1.2)
    rw [e6, bnd_so]
    refine opens_T h2 (fun w gw => ⟨g1.tr gw, rfl⟩) (fun _ ho25 h3 => ?_)
    have g3 : KPG v (wi v 666 ((o + 1 : Nat) : Int)) := KPG_op
    have o3 : OLDc v (wi v 666 ((o + 1 : Nat) : Int)) n s := OLDc.row rfl
    generalize wi v 666 ((o + 1 : Nat) : Int) = w1 at h3 g3 o3
    have e69 : ∀ K : Int, ((K = 17 ∧ A u 6 p = 34) ∨ (K = 18 ∧ A u 6 p = 14)) → OK (fun w r => NDQ (fun w m lo hi a b q r => UwK 1 o w m lo hi a b q r ∧ A w 21 m = 0) u c p n q o s w r) (hb_Pa_unit_69 N S () w1 (I ((p : Nat) : Int)) (I K)) := fun K hK => by
      unfold hb_Pa_unit_69
      refine ok_T (ok_mono (hu ho25 w1 c (p + 1) n q s h3) (fun w5 r hw5 => ?_))
      obtain ⟨g5, hw5⟩ := hw5
      cases r with
      | inr k => exact ⟨g1.tr (g3.tr g5), hw5⟩
      | inl x2 =>
        obtain ⟨m, p5, n5, q5, rfl, ol5, hv5, hp5, em, -⟩ := hw5
        have hd := Uw_bdK w5 _ _ _ _ _ _ _ em
        unfold HDc at hd
        have n5b : n5 ≤ 8000 := by have := hv5.2.2.1.2; have := hv5.2.1.2; omega
        have p5c := hv5.2.1.2
        rw [lit0]
        refine add_B hv5 (by omega) ⟨by omega, by omega⟩ ⟨by omega, by omega⟩ ⟨by omega, by omega⟩ ⟨by decide, by decide⟩ ⟨by decide, by decide⟩ (fun w6 g6 o6 h6 fa => ok_lt.mpr (ok_some.mpr ?_))
        obtain ⟨f1, f2, f3, f4, f5, f6⟩ := fa
        obtain ⟨e, h7⟩ := close_e h6
        rw [e]
        have g7 : KPG w6 (wi w6 666 ((o : Nat) : Int)) := KPG_op
        have o7 : OLDc w6 (wi w6 666 ((o : Nat) : Int)) (n5 + 1) s := OLDc.row rfl
        refine ⟨g1.tr (g3.tr (g5.tr (g6.tr g7))), n5 + 1, p5, n5 + 1, q5, rfl, OLDc.tr o1 (OLDc.tr o3 (OLDc.tr ol5 (OLDc.tr o6 o7 (by omega)) (by omega)) (Nat.le_refl _)) (Nat.le_refl _), h7, by omega, ?_, f6⟩
        have fK : A (wi w6 666 ((o : Nat) : Int)) 16 (n5 + 1) = 17 ∨ A (wi w6 666 ((o : Nat) : Int)) 16 (n5 + 1) = 18 := by
          rcases hK with ⟨rfl, -⟩ | ⟨rfl, -⟩
          · exact Or.inl f1
          · exact Or.inr f1
        have kk : (A (wi w6 666 ((o : Nat) : Int)) 16 (n5 + 1) = 17 → A (wi w6 666 ((o : Nat) : Int)) 6 p = 34) ∧ (A (wi w6 666 ((o : Nat) : Int)) 16 (n5 + 1) = 18 → A (wi w6 666 ((o : Nat) : Int)) 6 p = 14) := by
          rw [(g1.tr (g3.tr (g5.tr (g6.tr g7)))).a6]
          have f1' : A (wi w6 666 ((o : Nat) : Int)) 16 (n5 + 1) = K := f1
          rw [f1']
          omega
        exact ⟨⟨⟨by omega, by omega⟩, by omega, by omega, by omega, by omega⟩, ⟨p, f2, by omega, by omega⟩, ho, Or.inr (Or.inr (Or.inr (Or.inr (Or.inr (Or.inr (Or.inr (Or.inr (Or.inr (Or.inr (Or.inr (Or.inr (Or.inl ⟨fK, Nat.le_refl _, m, n5, f3, XP_kK (by omega) (Nat.le_refl _) _ _ _ _ _ _ _ em (KN_old (g6.tr g7) (OLDc.tr o6 o7 (by omega)) (Nat.le_refl _)), by omega, kk⟩))))))))))))⟩
    exact ok_br.mpr ⟨fun z => e69 17 (Or.inl ⟨rfl, by
      rcases hv with ⟨-, e⟩ | ⟨rfl, -⟩
      · exact e
      · exact absurd z (by decide)⟩), fun z => e69 18 (Or.inr ⟨rfl, by
      rcases hv with ⟨rfl, -⟩ | ⟨-, e⟩
      · exact absurd z (by decide)
      · exact e⟩)⟩
  unfold hm_Pa_unit hb_Pa_unit_0
  refine look_T h (fun w gw => ⟨gw, rfl⟩) (fun h45 => ?_)
  rw [show (34 : Int32) = I 34 from rfl, show (14 : Int32) = I 14 from rfl]
  refine k_eq (A_r u 6 p) ⟨by decide, by decide⟩ (fun e => e26 _ (by omega) (Or.inl ⟨by rw [e]; rfl, e⟩)) (fun _ => k_eq (A_r u 6 p) ⟨by decide, by decide⟩ (fun e => e26 _ (by omega) (Or.inr ⟨by rw [e]; rfl, e⟩)) (fun _ => ?_))
  refine ok_T (ok_mono (hp u c p n q s h) (fun w5 r hw5 => ?_))
  obtain ⟨g5, hw5⟩ := hw5
  cases r with
  | inr k => exact ⟨g5, hw5⟩
  | inl x2 =>
    obtain ⟨m, p5, n5, q5, rfl, ol5, hv5, hp5, em, m0⟩ := hw5
    have hd := (Uw_bdK w5 _ _ _ _ _ _ _ em).1
    refine ok_T (ok_mono (ha w5 c p5 n5 q5 s m p n q hv5 em m0 h2p) (fun w6 r hw6 => ?_))
    obtain ⟨g6, hw6⟩ := hw6
    cases r with
    | inr k => exact ⟨g5.tr g6, hw6⟩
    | inl x2 =>
      obtain ⟨m6, p6, n6, q6, rfl, ol6, hv6, hp6, em6, m60⟩ := hw6
      exact ok_some.mpr ⟨g5.tr g6, m6, p6, n6, q6, rfl, OLDc.tr ol5 ol6 (by omega), hv6, by omega, em6, m60⟩
end
