set_option maxRecDepth 100000
def Uw (cl o : Nat) (w : MS) : Nat → Nat → Nat → Nat → Nat → Nat → Nat → Prop := XPc w (4 * (26 - o) + cl) o cl
section
variable {u v w : MS} {N c p n q o s p2 n2 q2 m a b l lo hi r d most f t pl ph : Nat}
theorem Uw_st {cl : Nat} (u w : MS) : StE u w (Uw cl o u) (Uw cl o w) := XP_k (Nat.le_refl _) (Nat.le_refl _)
theorem Uw_bd {cl : Nat} (u : MS) : BdE (Uw cl o u) := XP_bd _ _ _
theorem f_o (ho : o ≤ 25) : 4 * (26 - o) = (4 * (25 - o) + 3) + 1 := by omega
theorem BX (ho : o ≤ 25) (u w : MS) : StE u w (Bw o u) (XPc w (4 * (25 - o) + 3) (o + 2) 3) := XP_k (by omega) (Nat.le_refl _)
theorem GX (u w : MS) : StE u w (Gw o u) (XPc w (4 * (25 - o) + 3) (o + 1) 3) := XP_k (Nat.le_refl _) (Nat.le_refl _)
theorem PX (ho : o ≤ 25) (u w : MS) : StE u w (Pw o u) (PAc w (4 * (25 - o) + 3)) := PA_k (by omega)
theorem CXc (ho : o ≤ 25) (u w : MS) : StE u w (CSPc u (Pw o u) (Bw o u) (Gw o u)) (CSPc w (PAc w (4 * (25 - o) + 3)) (XPc w (4 * (25 - o) + 3) (o + 2) 3) (XPc w (4 * (25 - o) + 3) (o + 1) 3)) := CSP_k (PX ho u w) (BX ho u w) (GX u w) (Pw_bd u) (Bw_bd u) (Gw_bd u)
theorem HX (ho : o ≤ 25) (u w : MS) : StE u w (CHPc u (Bw o u) (Gw o u)) (CHPc w (XPc w (4 * (25 - o) + 3) (o + 2) 3) (XPc w (4 * (25 - o) + 3) (o + 1) 3)) := CHP_k (BX ho u w) (GX u w) (Bw_bd u) (Gw_bd u)
theorem caseOf_okc {S : SF_Pa_matched} (ho : o ≤ 25)
    (hx : ∀ u c p n q s, PSI u c p n q o s → OK (fun w r => NDQ (fun w m lo hi a b q r => Gw o w m lo hi a b q r ∧ A w 21 m = 0) u c p n q o s w r) (S.2.2.2.2.2.2.2.2.2.2.2.2.2.2.1 u 1))
    (hp : ∀ u c p n q s, PSI u c p n q o s → OK (fun w r => NDQ (fun w m lo hi a b q r => ∃ k, RWc w 1 (CSPc w (Pw o w) (Bw o w) (Gw o w)) k m lo hi a b q r) u c p n q o s w r) (S.2.2.2.2.2.2.2.1 u 1))
    (h : PSI u c p n q o s) (hk : A u 6 p ≠ 0 ∧ A u 6 p ≠ 45) : OK (fun w r => NDQ (fun w m lo hi a b q r => Uw 0 o w m lo hi a b q r ∧ A w 21 m = 0) u c p n q o s w r) (hm_Pa_caseOf N S u) := by
  have hc := h.1.1
  have h2p := h.2.2.1.2
  unfold hm_Pa_caseOf hb_Pa_caseOf_0
  obtain ⟨hpc, h2⟩ := PSI_at h hk
  refine ok_lt.mpr ?_
  rw [inc_e h, show u.1 665 = I ((p : Nat) : Int) by rw [I_F (k := 665), h.2.1.1]]
  have g1 : KPG u (wi u 665 ((p + 1 : Nat) : Int)) := KPG_at
  have o1 : OLDc u (wi u 665 ((p + 1 : Nat) : Int)) n s := OLDc.row rfl
  generalize wi u 665 ((p + 1 : Nat) : Int) = v at h2 g1 o1
  refine ok_T (ok_mono (hx v c (p + 1) n q s h2) (fun w r hw => ?_))
  obtain ⟨gw, hw⟩ := hw
  cases r with
  | inr k => exact ⟨g1.tr gw, hw⟩
  | inl x =>
    obtain ⟨x, p3, n3, q3, rfl, ol3, hv3, hp3, ex, -⟩ := hw
    have hd := Gw_bd w _ _ _ _ _ _ _ ex
    unfold HDc at hd
    rw [show (15 : Int32) = I 15 from rfl]
    refine need_T hv3 (by omega) (fun w2 gw2 => ⟨g1.tr (gw.tr gw2), rfl⟩) (fun _ h3 => ?_)
    have g3 : KPG w (wi w 665 ((p3 + 1 : Nat) : Int)) := KPG_at
    have o3 : OLDc w (wi w 665 ((p3 + 1 : Nat) : Int)) n3 s := OLDc.row rfl
    generalize wi w 665 ((p3 + 1 : Nat) : Int) = w1 at h3 g3 o3
    refine ok_T (ok_mono (hp w1 c (p3 + 1) n3 q3 s h3) (fun w2 r hw2 => ?_))
    obtain ⟨g2, hw2⟩ := hw2
    cases r with
    | inr k => exact ⟨g1.tr (gw.tr (g3.tr g2)), hw2⟩
    | inl x2 =>
      obtain ⟨mp, p4, n4, q4, rfl, ol4, hv4, hp4, kb, em⟩ := hw2
      have rh := (RW_hd CSP_bd em).1
      unfold HDc at rh
      rw [show (11 : Int32) = I 11 from rfl]
      refine need_T hv4 (by omega) (fun w2 gw2 => ⟨g1.tr (gw.tr (g3.tr (g2.tr gw2))), rfl⟩) (fun _ h5 => ?_)
      have g5 : KPG w2 (wi w2 665 ((p4 + 1 : Nat) : Int)) := KPG_at
      have o5 : OLDc w2 (wi w2 665 ((p4 + 1 : Nat) : Int)) n4 s := OLDc.row rfl
      generalize wi w2 665 ((p4 + 1 : Nat) : Int) = w3 at h5 g5 o5
      have n4b : n4 ≤ 8000 := by have := hv4.2.2.1.2; have := hv4.2.1.2; omega
      have p5c := h5.2.1.2
      rw [lit0q, show (9 : Int32) = I 9 from rfl]
      refine add_B h5 (by omega) ⟨by decide, by decide⟩ ⟨by omega, by omega⟩ ⟨by omega, by omega⟩ ⟨by omega, by omega⟩ ⟨by decide, by decide⟩ (fun w4 g6 o6 h6 fa => ok_some.mpr ?_)
      obtain ⟨f1, f2, f3, f4, f5, f6⟩ := fa
      have gw4 : KPG w w4 := g3.tr (g2.tr (g5.tr g6))
      have ow4 : OLDc w w4 n3 s := OLDc.tr o3 (OLDc.tr ol4 (OLDc.tr o5 o6 (Nat.le_refl _)) (by omega)) (Nat.le_refl _)
      have g24 : KPG w2 w4 := g5.tr g6
      have o24 : OLDc w2 w4 n4 s := OLDc.tr o5 o6 (Nat.le_refl _)
      refine ⟨g1.tr (gw.tr gw4), n4 + 1, p4 + 1, n4 + 1, q4, rfl, OLDc.tr o1 (OLDc.tr ol3 ow4 (by omega)) (Nat.le_refl _), h6, by omega, ?_, f6⟩
      show XPc w4 (4 * (26 - o)) o 0 _ _ _ _ _ _ _
      rw [f_o ho]
      exact ⟨⟨⟨by omega, by omega⟩, by omega, by omega, by omega, by omega⟩, ⟨p, f2, by omega, by omega⟩, ho, Or.inr (Or.inr (Or.inr (Or.inr (Or.inr (Or.inl ⟨f1, x, p3, n3, q3, kb, mp, n4, f3, GX w w4 _ _ _ _ _ _ _ ex (KN_old gw4 ow4 (Nat.le_refl _)), f4, RW_k (CXc ho w2 w4) CSP_bd em (KN_old g24 o24 (Nat.le_refl _)), by omega⟩)))))⟩
theorem receive_okc {S : SF_Pa_matched} (ho : o ≤ 25)
    (hx : ∀ u c p n q s, PSI u c p n q o s → OK (fun w r => NDQ (fun w m lo hi a b q r => Gw o w m lo hi a b q r ∧ A w 21 m = 0) u c p n q o s w r) (S.2.2.2.2.2.2.2.2.2.2.2.2.2.2.1 u 1))
    (hp : ∀ u c p n q s, PSI u c p n q o s → OK (fun w r => NDQ (fun w m lo hi a b q r => ∃ k, RWc w 1 (CSPc w (Pw o w) (Bw o w) (Gw o w)) k m lo hi a b q r) u c p n q o s w r) (S.2.2.2.2.2.2.2.1 u 1))
    (hb : ∀ u c p n q s, PSI u c p n q o s → OK (fun w r => NDQ (fun w m lo hi a b q r => ∃ k, RWc w 1 (Bw o w) k m lo hi a b q r) u c p n q o s w r) (S.2.2.2.2.2.2.2.2.2.1 u))
    (h : PSI u c p n q o s) (hk : A u 6 p ≠ 0 ∧ A u 6 p ≠ 45) : OK (fun w r => NDQ (fun w m lo hi a b q r => Uw 0 o w m lo hi a b q r ∧ A w 21 m = 0) u c p n q o s w r) (hm_Pa_receive N S u) := by
  have hc := h.1.1
  have h2p := h.2.2.1.2
  unfold hm_Pa_receive hb_Pa_receive_0
  obtain ⟨hpc, h2⟩ := PSI_at h hk
  refine ok_lt.mpr ?_
  rw [inc_e h, show u.1 665 = I ((p : Nat) : Int) by rw [I_F (k := 665), h.2.1.1]]
  have g1 : KPG u (wi u 665 ((p + 1 : Nat) : Int)) := KPG_at
  have o1 : OLDc u (wi u 665 ((p + 1 : Nat) : Int)) n s := OLDc.row rfl
  generalize wi u 665 ((p + 1 : Nat) : Int) = v at h2 g1 o1
  have e75 : ∀ (w w0 : MS) (k mc m1 c1 s1 x mb p3 n3 q3 : Nat), KPG u w0 → KPG w0 w → OLDc u w0 n s → OLDc w0 w c1 s → n ≤ c1 → PSI w c p3 n3 q3 o s → p + 1 ≤ m1 → mc ≤ c1 → (c1 + 2 * (p + 1) ≤ n + 2 * m1 ∧ q ≤ s1 ∧ 5 * s1 + (p + 1) ≤ 5 * q + m1) → ORc w0 1 (CSPc w0 (Pw o w0) (Bw o w0) (Gw o w0)) k mc (p + 1) m1 n c1 q s1 → ((x = 0 ∧ mb = 0 ∧ 1 ≤ k ∧ p3 = m1 ∧ s1 = q3 ∧ c1 = n3) ∨ (1 ≤ x ∧ (x ≤ n3 ∧ mb ≤ n3) ∧ (m1 + 3 ≤ p3 ∧ c1 ≤ n3 ∧ n3 + 2 * m1 ≤ c1 + 2 * p3 ∧ s1 ≤ q3 ∧ 5 * q3 + m1 ≤ 5 * s1 + p3) ∧ ∃ m2 c2 s2 kb, c2 ≤ n3 ∧ Gw o w x (m1 + 1) m2 c1 c2 s1 s2 ∧ RWc w 1 (Bw o w) kb mb (m2 + 1) p3 c2 n3 s2 q3)) → OK (fun w r => NDQ (fun w m lo hi a b q r => Uw 0 o w m lo hi a b q r ∧ A w 21 m = 0) u c p n q o s w r) (hb_Pa_receive_75 N S () w (I ((p : Nat) : Int)) (I ((mc : Nat) : Int)) (I ((x : Nat) : Int)) (I ((mb : Nat) : Int))) := by
    intro w w0 k mc m1 c1 s1 x mb p3 n3 q3 gu0 g0w ou0 o0w hnc hw hm1 hmc hcnt ec hx
    unfold hb_Pa_receive_75
    rw [show (11 : Int32) = I 11 from rfl]
    refine need_T hw (by omega) (fun w2 gw2 => ⟨gu0.tr (g0w.tr gw2), rfl⟩) (fun _ h5 => ?_)
    have g5 : KPG w (wi w 665 ((p3 + 1 : Nat) : Int)) := KPG_at
    have o5 : OLDc w (wi w 665 ((p3 + 1 : Nat) : Int)) n3 s := OLDc.row rfl
    generalize wi w 665 ((p3 + 1 : Nat) : Int) = w3 at h5 g5 o5
    have n4b : n3 ≤ 8000 := by have := hw.2.2.1.2; have := hw.2.1.2; omega
    have p5c := h5.2.1.2
    have xb : x ≤ n3 ∧ mb ≤ n3 ∧ c1 ≤ n3 ∧ m1 ≤ p3 ∧ n3 + 2 * m1 ≤ c1 + 2 * p3 ∧ s1 ≤ q3 ∧ 5 * q3 + m1 ≤ 5 * s1 + p3 := by
      rcases hx with hx | ⟨-, h1, h2, -⟩ <;> omega
    refine add_B h5 (by omega) ⟨by decide, by decide⟩ ⟨by omega, by omega⟩ ⟨by omega, by omega⟩ ⟨by omega, by omega⟩ ⟨by omega, by omega⟩ (fun w4 g6 o6 h6 fa => ok_some.mpr ?_)
    obtain ⟨f1, f2, f3, f4, f5, f6⟩ := fa
    have g04 : KPG w0 w4 := g0w.tr (g5.tr g6)
    have ow4 : OLDc w w4 n3 s := OLDc.tr o5 o6 (Nat.le_refl _)
    have o04 : OLDc w0 w4 c1 s := OLDc.tr o0w ow4 (by omega)
    refine ⟨gu0.tr g04, n3 + 1, p3 + 1, n3 + 1, q3, rfl, OLDc.tr ou0 o04 hnc, h6, by omega, ?_, f6⟩
    show XPc w4 (4 * (26 - o)) o 0 _ _ _ _ _ _ _
    rw [f_o ho]
    refine ⟨⟨⟨by omega, by omega⟩, by omega, by omega, by omega, by omega⟩, ⟨p, f2, by omega, by omega⟩, ho, Or.inr (Or.inr (Or.inr (Or.inr (Or.inr (Or.inr (Or.inr (Or.inl ⟨f1, k, mc, m1, c1, s1, f4, OR_k (CXc ho w0 w4) CSP_bd ec (KN_old g04 o04 (Nat.le_refl _)), ?_⟩)))))))⟩
    rcases hx with ⟨h1, h2, h3, h4, h5, h6⟩ | ⟨h1, -, -, m2, c2, s2, kb, h2, h3, h4⟩
    · exact Or.inl ⟨by rw [f3, h1]; rfl, by rw [f5, h2]; rfl, h3, by omega, h5, by omega⟩
    · exact Or.inr ⟨x, m2, c2, s2, kb, mb, n3, h1, f3, GX w w4 _ _ _ _ _ _ _ h3 (KN_old (g5.tr g6) ow4 h2), f5, by rw [show p3 + 1 - 1 = p3 by omega]; exact RW_k (BX ho w w4) (Bw_bd w) h4 (KN_old (g5.tr g6) ow4 (Nat.le_refl _)), by omega⟩
  have e32 : ∀ (w0 : MS) (k mc m1 c1 s1 : Nat), KPG u w0 → OLDc u w0 n s → n ≤ c1 → PSI w0 c m1 c1 s1 o s → p + 1 ≤ m1 → mc ≤ c1 → (c1 + 2 * (p + 1) ≤ n + 2 * m1 ∧ q ≤ s1 ∧ 5 * s1 + (p + 1) ≤ 5 * q + m1) → ORc w0 1 (CSPc w0 (Pw o w0) (Bw o w0) (Gw o w0)) k mc (p + 1) m1 n c1 q s1 → (k = 0 → A w0 6 m1 = 5) → OK (fun w r => NDQ (fun w m lo hi a b q r => Uw 0 o w m lo hi a b q r ∧ A w 21 m = 0) u c p n q o s w r) (hb_Pa_receive_32 N S () w0 (I ((p : Nat) : Int)) (I ((mc : Nat) : Int))) := by
    intro w0 k mc m1 c1 s1 gu0 ou0 hnc h0 hm1 hmc hcnt ec hk0
    unfold hb_Pa_receive_32
    refine look_T h0 (fun w gw => ⟨gu0.tr gw, rfl⟩) (fun h45 => ?_)
    rw [show (5 : Int32) = I 5 from rfl]
    refine k_eq (A_r w0 6 m1) ⟨by decide, by decide⟩ (fun e => ok_lt.mpr ?_) (fun ne => e75 w0 w0 k mc m1 c1 s1 0 0 m1 c1 s1 gu0 KPG.rf ou0 OLDc.rf hnc h0 hm1 hmc hcnt ec (Or.inl ⟨rfl, rfl, by rcases Nat.eq_zero_or_pos k with z | z; exact absurd (hk0 z) ne; exact z, rfl, rfl, rfl⟩))
    obtain ⟨hlt2, h3⟩ := PSI_at h0 (by omega)
    rw [inc_e h0]
    have g3 : KPG w0 (wi w0 665 ((m1 + 1 : Nat) : Int)) := KPG_at
    have o3 : OLDc w0 (wi w0 665 ((m1 + 1 : Nat) : Int)) c1 s := OLDc.row rfl
    generalize wi w0 665 ((m1 + 1 : Nat) : Int) = w1 at h3 g3 o3
    refine ok_T (ok_mono (hx w1 c (m1 + 1) c1 s1 s h3) (fun w2 r hw2 => ?_))
    obtain ⟨g2, hw2⟩ := hw2
    cases r with
    | inr k => exact ⟨gu0.tr (g3.tr g2), hw2⟩
    | inl x2 =>
      obtain ⟨x, p4, n4, q4, rfl, ol4, hv4, hp4, ex, -⟩ := hw2
      have hd := Gw_bd w2 _ _ _ _ _ _ _ ex
      unfold HDc at hd
      rw [show (38 : Int32) = I 38 from rfl]
      refine need_T hv4 (by omega) (fun w2 gw2 => ⟨gu0.tr (g3.tr (g2.tr gw2)), rfl⟩) (fun _ h5 => ?_)
      have g5 : KPG w2 (wi w2 665 ((p4 + 1 : Nat) : Int)) := KPG_at
      have o5 : OLDc w2 (wi w2 665 ((p4 + 1 : Nat) : Int)) n4 s := OLDc.row rfl
      generalize wi w2 665 ((p4 + 1 : Nat) : Int) = w3 at h5 g5 o5
      refine ok_T (ok_mono (hb w3 c (p4 + 1) n4 q4 s h5) (fun w4 r hw4 => ?_))
      obtain ⟨g6, hw4⟩ := hw4
      cases r with
      | inr k => exact ⟨gu0.tr (g3.tr (g2.tr (g5.tr g6))), hw4⟩
      | inl x2 =>
        obtain ⟨mb, p6, n6, q6, rfl, ol6, hv6, hp6, kb, em⟩ := hw4
        have rh := (RW_hd (Bw_bd w4) em).1
        unfold HDc at rh
        exact e75 w4 w0 k mc m1 c1 s1 x mb p6 n6 q6 gu0 (g3.tr (g2.tr (g5.tr g6))) ou0 (OLDc.tr o3 (OLDc.tr ol4 (OLDc.tr o5 ol6 (Nat.le_refl _)) (by omega)) (Nat.le_refl _)) hnc hv6 hm1 hmc hcnt ec (Or.inr ⟨by omega, by omega, by omega, p4, n4, q4, kb, by omega, Gw_st w2 w4 _ _ _ _ _ _ _ ex (KN_old (g5.tr g6) (OLDc.tr o5 ol6 (Nat.le_refl _)) (Nat.le_refl _)), em⟩)
  refine look_T h2 (fun w gw => ⟨g1.tr gw, rfl⟩) (fun h45 => ?_)
  rw [show (5 : Int32) = I 5 from rfl]
  refine k_eq (A_r v 6 (p + 1)) ⟨by decide, by decide⟩ (fun e => ?_) (fun _ => ?_)
  · exact e32 v 0 0 (p + 1) n q g1 o1 (Nat.le_refl _) h2 (Nat.le_refl _) (by omega) (by omega) (Or.inl ⟨rfl, rfl, rfl, rfl, rfl⟩) (fun _ => e)
  · refine ok_T (ok_mono (hp v c (p + 1) n q s h2) (fun w2 r hw2 => ?_))
    obtain ⟨g2, hw2⟩ := hw2
    cases r with
    | inr k => exact ⟨g1.tr g2, hw2⟩
    | inl x2 =>
      obtain ⟨mp, p4, n4, q4, rfl, ol4, hv4, hp4, kb, em⟩ := hw2
      obtain ⟨rh, hk1⟩ := RW_hd CSP_bd em
      unfold HDc at rh
      exact e32 w2 kb mp p4 n4 q4 (g1.tr g2) (OLDc.tr o1 ol4 (Nat.le_refl _)) (by omega) hv4 hp4 (by omega) (by omega) (Or.inr ⟨hk1, em⟩) (fun z => by omega)
theorem place_B {α : Type} {Q : MS → α → Prop} {f : MS → Int32 → Option (MS × α)} (h : PSI u c p n q o s) (hk : ∀ w, KPG u w → OLDc u w n s → PSI w c p n (q + 1) o s → OK Q (f w (I (if q < 400 then ((q : Nat) : Int) else 0)))) : OK Q (bnd (hm_Co_addPlace N u) f) := by
  obtain ⟨h1, h2, h3, h6, h7, h9⟩ := h
  unfold hm_Co_addPlace hb_Co_addPlace_0
  rw [I_F (k := 449), h6, show (400 : Int32) = I 400 from rfl]
  by_cases hq : q < 400
  · rw [if_pos hq] at h6 ⊢
    rw [decL (by omega) (by omega) (by decide) (by decide), decide_eq_true (by omega), br_tq, lt_e, lit1q, I_add, show ((q : Nat) : Int) + 1 = ((q + 1 : Nat) : Int) by omega, wi_e]
    have e : ∀ k, k ≠ 449 → F (wi u 449 ((q + 1 : Nat) : Int)) k = F u k := fun k hk => by rw [F_wi (by omega) (by omega), if_neg hk]
    have e9 : F (wi u 449 ((q + 1 : Nat) : Int)) 449 = ((q + 1 : Nat) : Int) := by rw [F_wi (by omega) (by omega), if_pos rfl]
    rw [I_F (k := 449), e9, I_sub, show ((q + 1 : Nat) : Int) - 1 = ((q : Nat) : Int) by omega, bnd_so]
    have := hk (wi u 449 ((q + 1 : Nat) : Int)) (FR.wi FR.rf (by simp)) (OLDc.row rfl) ⟨h1, ⟨by rw [e 665 (by decide)]; exact h2.1, h2.2⟩, ⟨by rw [e 306 (by decide)]; exact h3.1, h3.2⟩, by rw [e9]; split <;> omega, ⟨by rw [e 666 (by decide)]; exact h7.1, h7.2⟩, by rw [e 664 (by decide)]; exact h9.1, h9.2⟩
    rw [if_pos hq] at this
    exact this
  · rw [if_neg hq] at h6 ⊢
    rw [show decide (I 400 < I 400) = false from by decide, br_fq, bnd_so]
    have := hk u KPG.rf OLDc.rf ⟨h1, h2, h3, by rw [h6, if_neg (by omega)], h7, h9⟩
    rw [if_neg hq] at this
    exact this
theorem fun_okc {S : SF_Pa_matched} (ho : o ≤ 25)
    (hr : ∀ u c p n q s, PSI u c p n q o s → OK (fun w r => NDQ (fun w m lo hi a b q r => lo + 1 ≤ hi ∧ ∃ k, k ≤ 6 ∧ ORc w 1 (Pw o w) k m lo (hi - 1) a b q r) u c p n q o s w r) (S.2.2.2.2.2.2.2.2.2.2.2.2.2.2.2.2.2.2.2 u 1 (I ((6 : Nat) : Int)) (I 21)))
    (ht : ∀ u c p n q s t k m0 pl ph a, PSI u c p n q o s → t < p → pl ≤ ph ∧ ph ≤ p → ORc u 1 (Pw o u) k m0 pl ph a n q q → OK (fun w r => NDQ (fun w m lo hi a1 b q r => PRTc w (Pw o w) (Bw o w) (Gw o w) k m pl ph lo hi a b q r ∧ (a1 < m ∧ m = b) ∧ lo + 2 ≤ hi ∧ b + 1 + 2 * lo ≤ a1 + 2 * hi ∧ q ≤ r ∧ 5 * r + lo + 2 ≤ 5 * q + hi ∧ A w 21 m = 0 ∧ A w 17 m = ((t : Nat) : Int)) u c p n q o s w r) (S.2.2.2.2.2.1 u (I ((t : Nat) : Int)) (I ((m0 : Nat) : Int))))
    (h : PSI u c p n q o s) (hk : A u 6 p ≠ 0 ∧ A u 6 p ≠ 45) : OK (fun w r => NDQ (fun w m lo hi a b q r => Uw 0 o w m lo hi a b q r ∧ A w 21 m = 0) u c p n q o s w r) (hm_Pa_fun N S u) := by
  have hc := h.1.1
  have h2p := h.2.2.1.2
  unfold hm_Pa_fun hb_Pa_fun_0
  obtain ⟨hpc, h2⟩ := PSI_at h hk
  refine ok_lt.mpr ?_
  rw [inc_e h, show u.1 665 = I ((p : Nat) : Int) by rw [I_F (k := 665), h.2.1.1]]
  have g1 : KPG u (wi u 665 ((p + 1 : Nat) : Int)) := KPG_at
  have o1 : OLDc u (wi u 665 ((p + 1 : Nat) : Int)) n s := OLDc.row rfl
  generalize wi u 665 ((p + 1 : Nat) : Int) = v at h2 g1 o1
  refine look_T h2 (fun w gw => ⟨g1.tr gw, rfl⟩) (fun h45 => ?_)
  rw [show (2 : Int32) = I 2 from rfl]
  refine k_eq (A_r v 6 (p + 1)) ⟨by decide, by decide⟩ (fun e => ok_lt.mpr ?_) (fun _ => ?_)
  · obtain ⟨hlt2, h3⟩ := PSI_at h2 (by omega)
    rw [inc_e h2, show v.1 665 = I ((p + 1 : Nat) : Int) by rw [I_F (k := 665), h2.2.1.1]]
    have g3 : KPG v (wi v 665 ((p + 1 + 1 : Nat) : Int)) := KPG_at
    have o3 : OLDc v (wi v 665 ((p + 1 + 1 : Nat) : Int)) n s := OLDc.row rfl
    generalize wi v 665 ((p + 1 + 1 : Nat) : Int) = w1 at h3 g3 o3
    rw [show (37 : Int32) = I 37 from rfl]
    refine need_T h3 (by omega) (fun w2 gw2 => ⟨g1.tr (g3.tr gw2), rfl⟩) (fun _ h4 => ?_)
    have g4 : KPG w1 (wi w1 665 ((p + 1 + 1 + 1 : Nat) : Int)) := KPG_at
    have o4 : OLDc w1 (wi w1 665 ((p + 1 + 1 + 1 : Nat) : Int)) n s := OLDc.row rfl
    generalize wi w1 665 ((p + 1 + 1 + 1 : Nat) : Int) = w2 at h4 g4 o4
    rw [lit1q]
    refine need_T h4 (by omega) (fun w2 gw2 => ⟨g1.tr (g3.tr (g4.tr gw2)), rfl⟩) (fun _ h5 => ?_)
    have g5 : KPG w2 (wi w2 665 ((p + 1 + 1 + 1 + 1 : Nat) : Int)) := KPG_at
    have o5 : OLDc w2 (wi w2 665 ((p + 1 + 1 + 1 + 1 : Nat) : Int)) n s := OLDc.row rfl
    generalize wi w2 665 ((p + 1 + 1 + 1 + 1 : Nat) : Int) = w3 at h5 g5 o5
    have p5c := h5.2.1.2
    refine e_in ⟨by omega, by omega⟩ (by decide) (e_in ⟨by omega, by omega⟩ (by decide) ?_)
    rw [tnI (n := p + 1) rfl (by omega), tnI (n := p + 1 + 1 + 1) rfl (by omega), I_A (k := 7), I_A (k := 7), lit0q, show (13 : Int32) = I 13 from rfl]
    refine add_B h5 (by omega) ⟨by decide, by decide⟩ ⟨by omega, by omega⟩ (A_r w3 7 _) (A_r w3 7 _) ⟨by decide, by decide⟩ (fun w4 g6 o6 h6 fa => ok_some.mpr ?_)
    obtain ⟨f1, f2, f3, f4, f5, f6⟩ := fa
    refine ⟨g1.tr (g3.tr (g4.tr (g5.tr g6))), n + 1, p + 1 + 1 + 1 + 1, n + 1, q, rfl, OLDc.tr o1 (OLDc.tr o3 (OLDc.tr o4 (OLDc.tr o5 o6 (Nat.le_refl _)) (Nat.le_refl _)) (Nat.le_refl _)) (Nat.le_refl _), h6, by omega, ?_, f6⟩
    show XPc w4 (4 * (26 - o)) o 0 _ _ _ _ _ _ _
    rw [f_o ho]
    exact ⟨⟨⟨by omega, by omega⟩, by omega, by omega, by omega, by omega⟩, ⟨p, f2, by omega, by omega⟩, ho, Or.inr (Or.inr (Or.inr (Or.inr (Or.inr (Or.inr (Or.inr (Or.inr (Or.inr (Or.inl ⟨f1, by omega, rfl⟩)))))))))⟩
  · rw [show (20 : Int32) = I 20 from rfl]
    refine need_T h2 (by omega) (fun w2 gw2 => ⟨g1.tr gw2, rfl⟩) (fun _ h3 => ?_)
    have g3 : KPG v (wi v 665 ((p + 1 + 1 : Nat) : Int)) := KPG_at
    have o3 : OLDc v (wi v 665 ((p + 1 + 1 : Nat) : Int)) n s := OLDc.row rfl
    generalize wi v 665 ((p + 1 + 1 : Nat) : Int) = w1 at h3 g3 o3
    refine place_B h3 (fun w2 g4 o4 h4 => ?_)
    have gu2 : KPG u w2 := g1.tr (g3.tr g4)
    have ou2 : OLDc u w2 n s := OLDc.tr o1 (OLDc.tr o3 o4 (Nat.le_refl _)) (Nat.le_refl _)
    refine ok_T (ok_mono (hr w2 c (p + 1 + 1) n (q + 1) s h4) (fun w5 r hw5 => ?_))
    obtain ⟨g5, hw5⟩ := hw5
    cases r with
    | inr k => exact ⟨gu2.tr g5, hw5⟩
    | inl x2 =>
      obtain ⟨mp, p5, n5, q5, rfl, ol5, hv5, hp5, hlo, k, hk6, em⟩ := hw5
      have oh := OR_hd (Pw_bd w5) em
      have eq : q + 1 = q5 := ORq (fun _ _ _ _ _ _ _ h => PAq h) em
      subst eq
      refine ok_T (ok_mono (ht w5 c p5 n5 (q + 1) s p k mp (p + 1 + 1) (p5 - 1) n hv5 (by omega) (by omega) em) (fun w6 r hw6 => ?_))
      obtain ⟨g6, hw6⟩ := hw6
      cases r with
      | inr k => exact ⟨gu2.tr (g5.tr g6), hw6⟩
      | inl x2 =>
        obtain ⟨m2, p7, n7, q7, rfl, ol7, hv7, hp7, e1, e2, e3, e4, e5, e6, e7, -⟩ := hw6
        rw [show (11 : Int32) = I 11 from rfl]
        refine need_T hv7 (by omega) (fun w2 gw2 => ⟨gu2.tr (g5.tr (g6.tr gw2)), rfl⟩) (fun _ h8 => ?_)
        have g8 : KPG w6 (wi w6 665 ((p7 + 1 : Nat) : Int)) := KPG_at
        have o8 : OLDc w6 (wi w6 665 ((p7 + 1 : Nat) : Int)) n7 s := OLDc.row rfl
        generalize wi w6 665 ((p7 + 1 : Nat) : Int) = w7 at h8 g8 o8
        have n7b : n7 ≤ 8000 := by have := hv7.2.2.1.2; have := hv7.2.1.2; omega
        have p8c := h8.2.1.2
        have qr : RG (if q < 400 then ((q : Nat) : Int) else 0) := by
          constructor <;> split <;> omega
        rw [show (12 : Int32) = I 12 from rfl]
        refine add_B h8 (by omega) ⟨by decide, by decide⟩ ⟨by omega, by omega⟩ qr ⟨by omega, by omega⟩ ⟨by omega, by omega⟩ (fun w9 g9 o9 h9 fa => ok_some.mpr ?_)
        obtain ⟨f1, f2, f3, f4, f5, f6⟩ := fa
        have g69 : KPG w6 w9 := g8.tr g9
        have o69 : OLDc w6 w9 n7 s := OLDc.tr o8 o9 (Nat.le_refl _)
        refine ⟨gu2.tr (g5.tr (g6.tr g69)), n7 + 1, p7 + 1, n7 + 1, q7, rfl, OLDc.tr ou2 (OLDc.tr ol5 (OLDc.tr ol7 o69 (by omega)) (by omega)) (Nat.le_refl _), h9, by omega, ?_, f6⟩
        show XPc w9 (4 * (26 - o)) o 0 _ _ _ _ _ _ _
        rw [f_o ho]
        refine ⟨⟨⟨by omega, by omega⟩, by omega, by omega, by omega, by omega⟩, ⟨p, f2, by omega, by omega⟩, ho, Or.inr (Or.inr (Or.inr (Or.inr (Or.inr (Or.inr (Or.inr (Or.inr (Or.inl ⟨f1, k, m2, p5 - 1, n7, f2, f3, f4, by rw [show p7 + 1 - 1 = p7 by omega]; exact f5, hk6, by omega, ?_, by omega⟩))))))))⟩
        rw [show p7 + 1 - 1 = p7 by omega, show p5 - 1 + 1 = p5 by omega]
        exact PRT_k (PX ho w6 w9) (BX ho w6 w9) (GX w6 w9) (Pw_bd w6) (Bw_bd w6) (Gw_bd w6) e1 (KN_old g69 o69 (Nat.le_refl _))
end
