section
set_option maxRecDepth 100000
def Uw (cl o : Nat) (w : MS) : Nat → Nat → Nat → Nat → Nat → Nat → Nat → Prop := XPc w (4 * (26 - o) + cl) o cl
section
variable {u v w : MS} {N c p n q o s p2 n2 q2 m a b l lo hi r d most f t pl ph : Nat}
theorem Uw_st {cl : Nat} (u w : MS) : StE u w (Uw cl o u) (Uw cl o w) := XP_k (Nat.le_refl _) (Nat.le_refl _)
theorem Uw_bd {cl : Nat} (u : MS) : BdE (Uw cl o u) := XP_bd _ _ _
theorem f_o (ho : o ≤ 25) : 4 * (26 - o) = (4 * (25 - o) + 3) + 1 := by omega
theorem BX (ho : o ≤ 25) (u w : MS) : StE u w (Bw o u) (XPc w (4 * (25 - o) + 3) (o + 2) 3) := XP_k (by omega) (Nat.le_refl _)
theorem GX (u w : MS) : StE u w (Gw o u) (XPc w (4 * (25 - o) + 3) (o + 1) 3) := XP_k (Nat.le_refl _) (Nat.le_refl _)
theorem PX (ho : o ≤ 25) (u w : MS) : StE u w (Pw o u) (PAc w (4 * (25 - o) + 3)) := PA_k (by omega)
theorem CXc (ho : o ≤ 25) (u w : MS) : StE u w (CSPc u (Pw o u) (Bw o u) (Gw o u)) (CSPc w (PAc w (4 * (25 - o) + 3)) (XPc w (4 * (25 - o) + 3) (o + 2) 3) (XPc w (4 * (25 - o) + 3) (o + 1) 3)) := CSP_k (PX ho u w) (BX ho u w) (GX u w) (Pw_bd u) (Bw_bd u) (Gw_bd u)
theorem HX (ho : o ≤ 25) (u w : MS) : StE u w (CHPc u (Bw o u) (Gw o u)) (CHPc w (XPc w (4 * (25 - o) + 3) (o + 2) 3) (XPc w (4 * (25 - o) + 3) (o + 1) 3)) := CHP_k (BX ho u w) (GX u w) (Bw_bd u) (Gw_bd u)
theorem caseOf_okc {S : SF_Pa_matched} (ho : o ≤ 25)
    (hx : ∀ u c p n q s, PSI u c p n q o s → OK (fun w r => NDQ (fun w m lo hi a b q r => Gw o w m lo hi a b q r ∧ A w 21 m = 0) u c p n q o s w r) (S.2.2.2.2.2.2.2.2.2.2.2.2.2.2.1 u 1))
    (hp : ∀ u c p n q s, PSI u c p n q o s → OK (fun w r => NDQ (fun w m lo hi a b q r => ∃ k, RWc w 1 (CSPc w (Pw o w) (Bw o w) (Gw o w)) k m lo hi a b q r) u c p n q o s w r) (S.2.2.2.2.2.2.2.1 u 1))
    (h : PSI u c p n q o s) (hk : A u 6 p ≠ 0 ∧ A u 6 p ≠ 45) : OK (fun w r => NDQ (fun w m lo hi a b q r => Uw 0 o w m lo hi a b q r ∧ A w 21 m = 0) u c p n q o s w r) (hm_Pa_caseOf N S u) := by
  have hc := h.1.1
  have h2p := h.2.2.1.2
  unfold hm_Pa_caseOf hb_Pa_caseOf_0
  obtain ⟨hpc, h2⟩ := PSI_at h hk
  refine ok_lt.mpr ?_
  rw [inc_e h, show u.1 665 = I ((p : Nat) : Int) by rw [I_F (k := 665), h.2.1.1]]
  have g1 : KPG u (wi u 665 ((p + 1 : Nat) : Int)) := KPG_at
  have o1 : OLDc u (wi u 665 ((p + 1 : Nat) : Int)) n s := OLDc.row rfl
  generalize wi u 665 ((p + 1 : Nat) : Int) = v at h2 g1 o1
  refine ok_T (ok_mono (hx v c (p + 1) n q s h2) (fun w r hw => ?_))
  obtain ⟨gw, hw⟩ := hw
  cases r with
  | inr k => exact ⟨g1.tr gw, hw⟩
  | inl x =>
    obtain ⟨x, p3, n3, q3, rfl, ol3, hv3, hp3, ex, -⟩ := hw
    have hd := Gw_bd w _ _ _ _ _ _ _ ex
    unfold HDc at hd
    rw [show (15 : Int32) = I 15 from rfl]
    refine need_T hv3 (by omega) (fun w2 gw2 => ⟨g1.tr (gw.tr gw2), rfl⟩) (fun _ h3 => ?_)
    have g3 : KPG w (wi w 665 ((p3 + 1 : Nat) : Int)) := KPG_at
    have o3 : OLDc w (wi w 665 ((p3 + 1 : Nat) : Int)) n3 s := OLDc.row rfl
    generalize wi w 665 ((p3 + 1 : Nat) : Int) = w1 at h3 g3 o3
    refine ok_T (ok_mono (hp w1 c (p3 + 1) n3 q3 s h3) (fun w2 r hw2 => ?_))
    obtain ⟨g2, hw2⟩ := hw2
    cases r with
    | inr k => exact ⟨g1.tr (gw.tr (g3.tr g2)), hw2⟩
    | inl x2 =>
      obtain ⟨mp, p4, n4, q4, rfl, ol4, hv4, hp4, kb, em⟩ := hw2
      have rh := (RW_hd CSP_bd em).1
      unfold HDc at rh
      rw [show (11 : Int32) = I 11 from rfl]
      refine need_T hv4 (by omega) (fun w2 gw2 => ⟨g1.tr (gw.tr (g3.tr (g2.tr gw2))), rfl⟩) (fun _ h5 => ?_)
      have g5 : KPG w2 (wi w2 665 ((p4 + 1 : Nat) : Int)) := KPG_at
      have o5 : OLDc w2 (wi w2 665 ((p4 + 1 : Nat) : Int)) n4 s := OLDc.row rfl
      generalize wi w2 665 ((p4 + 1 : Nat) : Int) = w3 at h5 g5 o5
      have n4b : n4 ≤ 8000 := by have := hv4.2.2.1.2; have := hv4.2.1.2; omega
      have p5c := h5.2.1.2
      rw [lit0q, show (9 : Int32) = I 9 from rfl]
      refine add_B h5 (by omega) ⟨by decide, by decide⟩ ⟨by omega, by omega⟩ ⟨by omega, by omega⟩ ⟨by omega, by omega⟩ ⟨by decide, by decide⟩ (fun w4 g6 o6 h6 fa => ok_some.mpr ?_)
      obtain ⟨f1, f2, f3, f4, f5, f6⟩ := fa
      have gw4 : KPG w w4 := g3.tr (g2.tr (g5.tr g6))
      have ow4 : OLDc w w4 n3 s := OLDc.tr o3 (OLDc.tr ol4 (OLDc.tr o5 o6 (Nat.le_refl _)) (by omega)) (Nat.le_refl _)
      have g24 : KPG w2 w4 := g5.tr g6
      have o24 : OLDc w2 w4 n4 s := OLDc.tr o5 o6 (Nat.le_refl _)
      refine ⟨g1.tr (gw.tr gw4), n4 + 1, p4 + 1, n4 + 1, q4, rfl, OLDc.tr o1 (OLDc.tr ol3 ow4 (by omega)) (Nat.le_refl _), h6, by omega, ?_, f6⟩
      show XPc w4 (4 * (26 - o)) o 0 _ _ _ _ _ _ _
      rw [f_o ho]
      exact ⟨⟨⟨by omega, by omega⟩, by omega, by omega, by omega, by omega⟩, ⟨p, f2, by omega, by omega⟩, ho, Or.inr (Or.inr (Or.inr (Or.inr (Or.inr (Or.inl ⟨f1, x, p3, n3, q3, kb, mp, n4, f3, GX w w4 _ _ _ _ _ _ _ ex (KN_old gw4 ow4 (Nat.le_refl _)), f4, RW_k (CXc ho w2 w4) CSP_bd em (KN_old g24 o24 (Nat.le_refl _)), by omega⟩)))))⟩
theorem receive_okc {S : SF_Pa_matched} (ho : o ≤ 25)
    (hx : ∀ u c p n q s, PSI u c p n q o s → OK (fun w r => NDQ (fun w m lo hi a b q r => Gw o w m lo hi a b q r ∧ A w 21 m = 0) u c p n q o s w r) (S.2.2.2.2.2.2.2.2.2.2.2.2.2.2.1 u 1))
    (hp : ∀ u c p n q s, PSI u c p n q o s → OK (fun w r => NDQ (fun w m lo hi a b q r => ∃ k, RWc w 1 (CSPc w (Pw o w) (Bw o w) (Gw o w)) k m lo hi a b q r) u c p n q o s w r) (S.2.2.2.2.2.2.2.1 u 1))
    (hb : ∀ u c p n q s, PSI u c p n q o s → OK (fun w r => NDQ (fun w m lo hi a b q r => ∃ k, RWc w 1 (Bw o w) k m lo hi a b q r) u c p n q o s w r) (S.2.2.2.2.2.2.2.2.2.1 u))
    (h : PSI u c p n q o s) (hk : A u 6 p ≠ 0 ∧ A u 6 p ≠ 45) : OK (fun w r => NDQ (fun w m lo hi a b q r => Uw 0 o w m lo hi a b q r ∧ A w 21 m = 0) u c p n q o s w r) (hm_Pa_receive N S u) := by
  have hc := h.1.1
  have h2p := h.2.2.1.2
  unfold hm_Pa_receive hb_Pa_receive_0
  obtain ⟨hpc, h2⟩ := PSI_at h hk
  refine ok_lt.mpr ?_
  rw [inc_e h, show u.1 665 = I ((p : Nat) : Int) by rw [I_F (k := 665), h.2.1.1]]
  have g1 : KPG u (wi u 665 ((p + 1 : Nat) : Int)) := KPG_at
  have o1 : OLDc u (wi u 665 ((p + 1 : Nat) : Int)) n s := OLDc.row rfl
  generalize wi u 665 ((p + 1 : Nat) : Int) = v at h2 g1 o1
  have e75 : ∀ (w w0 : MS) (k mc m1 c1 s1 x mb p3 n3 q3 : Nat), KPG u w0 → KPG w0 w → OLDc u w0 n s → OLDc w0 w c1 s → n ≤ c1 → PSI w c p3 n3 q3 o s → p + 1 ≤ m1 → mc ≤ c1 → (c1 + 2 * (p + 1) ≤ n + 2 * m1 ∧ q ≤ s1 ∧ 5 * s1 + (p + 1) ≤ 5 * q + m1) → ORc w0 1 (CSPc w0 (Pw o w0) (Bw o w0) (Gw o w0)) k mc (p + 1) m1 n c1 q s1 → ((x = 0 ∧ mb = 0 ∧ 1 ≤ k ∧ p3 = m1 ∧ s1 = q3 ∧ c1 = n3) ∨ (1 ≤ x ∧ (x ≤ n3 ∧ mb ≤ n3) ∧ (m1 + 3 ≤ p3 ∧ c1 ≤ n3 ∧ n3 + 2 * m1 ≤ c1 + 2 * p3 ∧ s1 ≤ q3 ∧ 5 * q3 + m1 ≤ 5 * s1 + p3) ∧ ∃ m2 c2 s2 kb, c2 ≤ n3 ∧ Gw o w x (m1 + 1) m2 c1 c2 s1 s2 ∧ RWc w 1 (Bw o w) kb mb (m2 + 1) p3 c2 n3 s2 q3)) → OK (fun w r => NDQ (fun w m lo hi a b q r => Uw 0 o w m lo hi a b q r ∧ A w 21 m = 0) u c p n q o s w r) (hb_Pa_receive_75 N S () w (I ((p : Nat) : Int)) (I ((mc : Nat) : Int)) (I ((x : Nat) : Int)) (I ((mb : Nat) : Int))) := by
    intro w w0 k mc m1 c1 s1 x mb p3 n3 q3 gu0 g0w ou0 o0w hnc hw hm1 hmc hcnt ec hx
    unfold hb_Pa_receive_75
    rw [show (11 : Int32) = I 11 from rfl]
    refine need_T hw (by omega) (fun w2 gw2 => ⟨gu0.tr (g0w.tr gw2), rfl⟩) (fun _ h5 => ?_)
    have g5 : KPG w (wi w 665 ((p3 + 1 : Nat) : Int)) := KPG_at
    have o5 : OLDc w (wi w 665 ((p3 + 1 : Nat) : Int)) n3 s := OLDc.row rfl
    generalize wi w 665 ((p3 + 1 : Nat) : Int) = w3 at h5 g5 o5
    have n4b : n3 ≤ 8000 := by have := hw.2.2.1.2; have := hw.2.1.2; omega
    have p5c := h5.2.1.2
    have xb : x ≤ n3 ∧ mb ≤ n3 ∧ c1 ≤ n3 ∧ m1 ≤ p3 ∧ n3 + 2 * m1 ≤ c1 + 2 * p3 ∧ s1 ≤ q3 ∧ 5 * q3 + m1 ≤ 5 * s1 + p3 := by
      rcases hx with hx | ⟨-, h1, h2, -⟩ <;> omega
    refine add_B h5 (by omega) ⟨by decide, by decide⟩ ⟨by omega, by omega⟩ ⟨by omega, by omega⟩ ⟨by omega, by omega⟩ ⟨by omega, by omega⟩ (fun w4 g6 o6 h6 fa => ok_some.mpr ?_)
    obtain ⟨f1, f2, f3, f4, f5, f6⟩ := fa
    have g04 : KPG w0 w4 := g0w.tr (g5.tr g6)
    have ow4 : OLDc w w4 n3 s := OLDc.tr o5 o6 (Nat.le_refl _)
    have o04 : OLDc w0 w4 c1 s := OLDc.tr o0w ow4 (by omega)
    refine ⟨gu0.tr g04, n3 + 1, p3 + 1, n3 + 1, q3, rfl, OLDc.tr ou0 o04 hnc, h6, by omega, ?_, f6⟩
    show XPc w4 (4 * (26 - o)) o 0 _ _ _ _ _ _ _
    rw [f_o ho]
    refine ⟨⟨⟨by omega, by omega⟩, by omega, by omega, by omega, by omega⟩, ⟨p, f2, by omega, by omega⟩, ho, Or.inr (Or.inr (Or.inr (Or.inr (Or.inr (Or.inr (Or.inr (Or.inl ⟨f1, k, mc, m1, c1, s1, f4, OR_k (CXc ho w0 w4) CSP_bd ec (KN_old g04 o04 (Nat.le_refl _)), ?_⟩)))))))⟩
    rcases hx with ⟨h1, h2, h3, h4, h5, h6⟩ | ⟨h1, -, -, m2, c2, s2, kb, h2, h3, h4⟩
    · exact Or.inl ⟨by rw [f3, h1]; rfl, by rw [f5, h2]; rfl, h3, by omega, h5, by omega⟩
    · exact Or.inr ⟨x, m2, c2, s2, kb, mb, n3, h1, f3, GX w w4 _ _ _ _ _ _ _ h3 (KN_old (g5.tr g6) ow4 h2), f5, by rw [show p3 + 1 - 1 = p3 by omega]; exact RW_k (BX ho w w4) (Bw_bd w) h4 (KN_old (g5.tr g6) ow4 (Nat.le_refl _)), by omega⟩
  have e32 : ∀ (w0 : MS) (k mc m1 c1 s1 : Nat), KPG u w0 → OLDc u w0 n s → n ≤ c1 → PSI w0 c m1 c1 s1 o s → p + 1 ≤ m1 → mc ≤ c1 → (c1 + 2 * (p + 1) ≤ n + 2 * m1 ∧ q ≤ s1 ∧ 5 * s1 + (p + 1) ≤ 5 * q + m1) → ORc w0 1 (CSPc w0 (Pw o w0) (Bw o w0) (Gw o w0)) k mc (p + 1) m1 n c1 q s1 → (k = 0 → A w0 6 m1 = 5) → OK (fun w r => NDQ (fun w m lo hi a b q r => Uw 0 o w m lo hi a b q r ∧ A w 21 m = 0) u c p n q o s w r) (hb_Pa_receive_32 N S () w0 (I ((p : Nat) : Int)) (I ((mc : Nat) : Int))) := by
    intro w0 k mc m1 c1 s1 gu0 ou0 hnc h0 hm1 hmc hcnt ec hk0
    unfold hb_Pa_receive_32
    refine look_T h0 (fun w gw => ⟨gu0.tr gw, rfl⟩) (fun h45 => ?_)
    rw [show (5 : Int32) = I 5 from rfl]
    refine k_eq (A_r w0 6 m1) ⟨by decide, by decide⟩ (fun e => ok_lt.mpr ?_) (fun ne => e75 w0 w0 k mc m1 c1 s1 0 0 m1 c1 s1 gu0 KPG.rf ou0 OLDc.rf hnc h0 hm1 hmc hcnt ec (Or.inl ⟨rfl, rfl, by rcases Nat.eq_zero_or_pos k with z | z; exact absurd (hk0 z) ne; exact z, rfl, rfl, rfl⟩))
    obtain ⟨hlt2, h3⟩ := PSI_at h0 (by omega)
    rw [inc_e h0]
    have g3 : KPG w0 (wi w0 665 ((m1 + 1 : Nat) : Int)) := KPG_at
    have o3 : OLDc w0 (wi w0 665 ((m1 + 1 : Nat) : Int)) c1 s := OLDc.row rfl
    generalize wi w0 665 ((m1 + 1 : Nat) : Int) = w1 at h3 g3 o3
    refine ok_T (ok_mono (hx w1 c (m1 + 1) c1 s1 s h3) (fun w2 r hw2 => ?_))
    obtain ⟨g2, hw2⟩ := hw2
    cases r with
    | inr k => exact ⟨gu0.tr (g3.tr g2), hw2⟩
    | inl x2 =>
      obtain ⟨x, p4, n4, q4, rfl, ol4, hv4, hp4, ex, -⟩ := hw2
      have hd := Gw_bd w2 _ _ _ _ _ _ _ ex
      unfold HDc at hd
      rw [show (38 : Int32) = I 38 from rfl]
      refine need_T hv4 (by omega) (fun w2 gw2 => ⟨gu0.tr (g3.tr (g2.tr gw2)), rfl⟩) (fun _ h5 => ?_)
      have g5 : KPG w2 (wi w2 665 ((p4 + 1 : Nat) : Int)) := KPG_at
      have o5 : OLDc w2 (wi w2 665 ((p4 + 1 : Nat) : Int)) n4 s := OLDc.row rfl
      generalize wi w2 665 ((p4 + 1 : Nat) : Int) = w3 at h5 g5 o5
      refine ok_T (ok_mono (hb w3 c (p4 + 1) n4 q4 s h5) (fun w4 r hw4 => ?_))
      obtain ⟨g6, hw4⟩ := hw4
      cases r with
      | inr k => exact ⟨gu0.tr (g3.tr (g2.tr (g5.tr g6))), hw4⟩
      | inl x2 =>
        obtain ⟨mb, p6, n6, q6, rfl, ol6, hv6, hp6, kb, em⟩ := hw4
        have rh := (RW_hd (Bw_bd w4) em).1
        unfold HDc at rh
        exact e75 w4 w0 k mc m1 c1 s1 x mb p6 n6 q6 gu0 (g3.tr (g2.tr (g5.tr g6))) ou0 (OLDc.tr o3 (OLDc.tr ol4 (OLDc.tr o5 ol6 (Nat.le_refl _)) (by omega)) (Nat.le_refl _)) hnc hv6 hm1 hmc hcnt ec (Or.inr ⟨by omega, by omega, by omega, p4, n4, q4, kb, by omega, Gw_st w2 w4 _ _ _ _ _ _ _ ex (KN_old (g5.tr g6) (OLDc.tr o5 ol6 (Nat.le_refl _)) (Nat.le_refl _)), em⟩)
  refine look_T h2 (fun w gw => ⟨g1.tr gw, rfl⟩) (fun h45 => ?_)
  rw [show (5 : Int32) = I 5 from rfl]
  refine k_eq (A_r v 6 (p + 1)) ⟨by decide, by decide⟩ (fun e => ?_) (fun _ => ?_)
  · exact e32 v 0 0 (p + 1) n q g1 o1 (Nat.le_refl _) h2 (Nat.le_refl _) (by omega) (by omega) (Or.inl ⟨rfl, rfl, rfl, rfl, rfl⟩) (fun _ => e)
  · refine ok_T (ok_mono (hp v c (p + 1) n q s h2) (fun w2 r hw2 => ?_))
    obtain ⟨g2, hw2⟩ := hw2
    cases r with
    | inr k => exact ⟨g1.tr g2, hw2⟩
    | inl x2 =>
      obtain ⟨mp, p4, n4, q4, rfl, ol4, hv4, hp4, kb, em⟩ := hw2
      obtain ⟨rh, hk1⟩ := RW_hd CSP_bd em
      unfold HDc at rh
      exact e32 w2 kb mp p4 n4 q4 (g1.tr g2) (OLDc.tr o1 ol4 (Nat.le_refl _)) (by omega) hv4 hp4 (by omega) (by omega) (Or.inr ⟨hk1, em⟩) (fun z => by omega)
theorem place_B {α : Type} {Q : MS → α → Prop} {f : MS → Int32 → Option (MS × α)} (h : PSI u c p n q o s) (hk : ∀ w, KPG u w → OLDc u w n s → PSI w c p n (q + 1) o s → OK Q (f w (I (if q < 400 then ((q : Nat) : Int) else 0)))) : OK Q (bnd (hm_Co_addPlace N u) f) := by
  obtain ⟨h1, h2, h3, h6, h7, h9⟩ := h
  unfold hm_Co_addPlace hb_Co_addPlace_0
  rw [I_F (k := 449), h6, show (400 : Int32) = I 400 from rfl]
  by_cases hq : q < 400
  · rw [if_pos hq] at h6 ⊢
    rw [decL (by omega) (by omega) (by decide) (by decide), decide_eq_true (by omega), br_tq, lt_e, lit1q, I_add, show ((q : Nat) : Int) + 1 = ((q + 1 : Nat) : Int) by omega, wi_e]
    have e : ∀ k, k ≠ 449 → F (wi u 449 ((q + 1 : Nat) : Int)) k = F u k := fun k hk => by rw [F_wi (by omega) (by omega), if_neg hk]
    have e9 : F (wi u 449 ((q + 1 : Nat) : Int)) 449 = ((q + 1 : Nat) : Int) := by rw [F_wi (by omega) (by omega), if_pos rfl]
    rw [I_F (k := 449), e9, I_sub, show ((q + 1 : Nat) : Int) - 1 = ((q : Nat) : Int) by omega, bnd_so]
    have := hk (wi u 449 ((q + 1 : Nat) : Int)) (FR.wi FR.rf (by simp)) (OLDc.row rfl) ⟨h1, ⟨by rw [e 665 (by decide)]; exact h2.1, h2.2⟩, ⟨by rw [e 306 (by decide)]; exact h3.1, h3.2⟩, by rw [e9]; split <;> omega, ⟨by rw [e 666 (by decide)]; exact h7.1, h7.2⟩, by rw [e 664 (by decide)]; exact h9.1, h9.2⟩
    rw [if_pos hq] at this
    exact this
  · rw [if_neg hq] at h6 ⊢
    rw [show decide (I 400 < I 400) = false from by decide, br_fq, bnd_so]
    have := hk u KPG.rf OLDc.rf ⟨h1, h2, h3, by rw [h6, if_neg (by omega)], h7, h9⟩
    rw [if_neg hq] at this
    exact this
theorem fun_okc {S : SF_Pa_matched} (ho : o ≤ 25)
    (hr : ∀ u c p n q s, PSI u c p n q o s → OK (fun w r => NDQ (fun w m lo hi a b q r => lo + 1 ≤ hi ∧ ∃ k, k ≤ 6 ∧ ORc w 1 (Pw o w) k m lo (hi - 1) a b q r) u c p n q o s w r) (S.2.2.2.2.2.2.2.2.2.2.2.2.2.2.2.2.2.2.2 u 1 (I ((6 : Nat) : Int)) (I 21)))
    (ht : ∀ u c p n q s t k m0 pl ph a, PSI u c p n q o s → t < p → pl ≤ ph ∧ ph ≤ p → ORc u 1 (Pw o u) k m0 pl ph a n q q → OK (fun w r => NDQ (fun w m lo hi a1 b q r => PRTc w (Pw o w) (Bw o w) (Gw o w) k m pl ph lo hi a b q r ∧ (a1 < m ∧ m = b) ∧ lo + 2 ≤ hi ∧ b + 1 + 2 * lo ≤ a1 + 2 * hi ∧ q ≤ r ∧ 5 * r + lo + 2 ≤ 5 * q + hi ∧ A w 21 m = 0 ∧ A w 17 m = ((t : Nat) : Int)) u c p n q o s w r) (S.2.2.2.2.2.1 u (I ((t : Nat) : Int)) (I ((m0 : Nat) : Int))))
    (h : PSI u c p n q o s) (hk : A u 6 p ≠ 0 ∧ A u 6 p ≠ 45) : OK (fun w r => NDQ (fun w m lo hi a b q r => Uw 0 o w m lo hi a b q r ∧ A w 21 m = 0) u c p n q o s w r) (hm_Pa_fun N S u) := by
  have hc := h.1.1
  have h2p := h.2.2.1.2
  unfold hm_Pa_fun hb_Pa_fun_0
  obtain ⟨hpc, h2⟩ := PSI_at h hk
  refine ok_lt.mpr ?_
  rw [inc_e h, show u.1 665 = I ((p : Nat) : Int) by rw [I_F (k := 665), h.2.1.1]]
  have g1 : KPG u (wi u 665 ((p + 1 : Nat) : Int)) := KPG_at
  have o1 : OLDc u (wi u 665 ((p + 1 : Nat) : Int)) n s := OLDc.row rfl
  generalize wi u 665 ((p + 1 : Nat) : Int) = v at h2 g1 o1
  refine look_T h2 (fun w gw => ⟨g1.tr gw, rfl⟩) (fun h45 => ?_)
  rw [show (2 : Int32) = I 2 from rfl]
  refine k_eq (A_r v 6 (p + 1)) ⟨by decide, by decide⟩ (fun e => ok_lt.mpr ?_) (fun _ => ?_)
  · obtain ⟨hlt2, h3⟩ := PSI_at h2 (by omega)
    rw [inc_e h2, show v.1 665 = I ((p + 1 : Nat) : Int) by rw [I_F (k := 665), h2.2.1.1]]
    have g3 : KPG v (wi v 665 ((p + 1 + 1 : Nat) : Int)) := KPG_at
    have o3 : OLDc v (wi v 665 ((p + 1 + 1 : Nat) : Int)) n s := OLDc.row rfl
    generalize wi v 665 ((p + 1 + 1 : Nat) : Int) = w1 at h3 g3 o3
    rw [show (37 : Int32) = I 37 from rfl]
    refine need_T h3 (by omega) (fun w2 gw2 => ⟨g1.tr (g3.tr gw2), rfl⟩) (fun _ h4 => ?_)
    have g4 : KPG w1 (wi w1 665 ((p + 1 + 1 + 1 : Nat) : Int)) := KPG_at
    have o4 : OLDc w1 (wi w1 665 ((p + 1 + 1 + 1 : Nat) : Int)) n s := OLDc.row rfl
    generalize wi w1 665 ((p + 1 + 1 + 1 : Nat) : Int) = w2 at h4 g4 o4
    rw [lit1q]
    refine need_T h4 (by omega) (fun w2 gw2 => ⟨g1.tr (g3.tr (g4.tr gw2)), rfl⟩) (fun _ h5 => ?_)
    have g5 : KPG w2 (wi w2 665 ((p + 1 + 1 + 1 + 1 : Nat) : Int)) := KPG_at
    have o5 : OLDc w2 (wi w2 665 ((p + 1 + 1 + 1 + 1 : Nat) : Int)) n s := OLDc.row rfl
    generalize wi w2 665 ((p + 1 + 1 + 1 + 1 : Nat) : Int) = w3 at h5 g5 o5
    have p5c := h5.2.1.2
    refine e_in ⟨by omega, by omega⟩ (by decide) (e_in ⟨by omega, by omega⟩ (by decide) ?_)
    rw [tnI (n := p + 1) rfl (by omega), tnI (n := p + 1 + 1 + 1) rfl (by omega), I_A (k := 7), I_A (k := 7), lit0q, show (13 : Int32) = I 13 from rfl]
    refine add_B h5 (by omega) ⟨by decide, by decide⟩ ⟨by omega, by omega⟩ (A_r w3 7 _) (A_r w3 7 _) ⟨by decide, by decide⟩ (fun w4 g6 o6 h6 fa => ok_some.mpr ?_)
    obtain ⟨f1, f2, f3, f4, f5, f6⟩ := fa
    refine ⟨g1.tr (g3.tr (g4.tr (g5.tr g6))), n + 1, p + 1 + 1 + 1 + 1, n + 1, q, rfl, OLDc.tr o1 (OLDc.tr o3 (OLDc.tr o4 (OLDc.tr o5 o6 (Nat.le_refl _)) (Nat.le_refl _)) (Nat.le_refl _)) (Nat.le_refl _), h6, by omega, ?_, f6⟩
    show XPc w4 (4 * (26 - o)) o 0 _ _ _ _ _ _ _
    rw [f_o ho]
    exact ⟨⟨⟨by omega, by omega⟩, by omega, by omega, by omega, by omega⟩, ⟨p, f2, by omega, by omega⟩, ho, Or.inr (Or.inr (Or.inr (Or.inr (Or.inr (Or.inr (Or.inr (Or.inr (Or.inr (Or.inl ⟨f1, by omega, rfl⟩)))))))))⟩
  · rw [show (20 : Int32) = I 20 from rfl]
    refine need_T h2 (by omega) (fun w2 gw2 => ⟨g1.tr gw2, rfl⟩) (fun _ h3 => ?_)
    have g3 : KPG v (wi v 665 ((p + 1 + 1 : Nat) : Int)) := KPG_at
    have o3 : OLDc v (wi v 665 ((p + 1 + 1 : Nat) : Int)) n s := OLDc.row rfl
    generalize wi v 665 ((p + 1 + 1 : Nat) : Int) = w1 at h3 g3 o3
    refine place_B h3 (fun w2 g4 o4 h4 => ?_)
    have gu2 : KPG u w2 := g1.tr (g3.tr g4)
    have ou2 : OLDc u w2 n s := OLDc.tr o1 (OLDc.tr o3 o4 (Nat.le_refl _)) (Nat.le_refl _)
    refine ok_T (ok_mono (hr w2 c (p + 1 + 1) n (q + 1) s h4) (fun w5 r hw5 => ?_))
    obtain ⟨g5, hw5⟩ := hw5
    cases r with
    | inr k => exact ⟨gu2.tr g5, hw5⟩
    | inl x2 =>
      obtain ⟨mp, p5, n5, q5, rfl, ol5, hv5, hp5, hlo, k, hk6, em⟩ := hw5
      have oh := OR_hd (Pw_bd w5) em
      have eq : q + 1 = q5 := ORq (fun _ _ _ _ _ _ _ h => PAq h) em
      subst eq
      refine ok_T (ok_mono (ht w5 c p5 n5 (q + 1) s p k mp (p + 1 + 1) (p5 - 1) n hv5 (by omega) (by omega) em) (fun w6 r hw6 => ?_))
      obtain ⟨g6, hw6⟩ := hw6
      cases r with
      | inr k => exact ⟨gu2.tr (g5.tr g6), hw6⟩
      | inl x2 =>
        obtain ⟨m2, p7, n7, q7, rfl, ol7, hv7, hp7, e1, e2, e3, e4, e5, e6, e7, -⟩ := hw6
        rw [show (11 : Int32) = I 11 from rfl]
        refine need_T hv7 (by omega) (fun w2 gw2 => ⟨gu2.tr (g5.tr (g6.tr gw2)), rfl⟩) (fun _ h8 => ?_)
        have g8 : KPG w6 (wi w6 665 ((p7 + 1 : Nat) : Int)) := KPG_at
        have o8 : OLDc w6 (wi w6 665 ((p7 + 1 : Nat) : Int)) n7 s := OLDc.row rfl
        generalize wi w6 665 ((p7 + 1 : Nat) : Int) = w7 at h8 g8 o8
        have n7b : n7 ≤ 8000 := by have := hv7.2.2.1.2; have := hv7.2.1.2; omega
        have p8c := h8.2.1.2
        have qr : RG (if q < 400 then ((q : Nat) : Int) else 0) := by
          constructor <;> split <;> omega
        rw [show (12 : Int32) = I 12 from rfl]
        refine add_B h8 (by omega) ⟨by decide, by decide⟩ ⟨by omega, by omega⟩ qr ⟨by omega, by omega⟩ ⟨by omega, by omega⟩ (fun w9 g9 o9 h9 fa => ok_some.mpr ?_)
        obtain ⟨f1, f2, f3, f4, f5, f6⟩ := fa
        have g69 : KPG w6 w9 := g8.tr g9
        have o69 : OLDc w6 w9 n7 s := OLDc.tr o8 o9 (Nat.le_refl _)
        refine ⟨gu2.tr (g5.tr (g6.tr g69)), n7 + 1, p7 + 1, n7 + 1, q7, rfl, OLDc.tr ou2 (OLDc.tr ol5 (OLDc.tr ol7 o69 (by omega)) (by omega)) (Nat.le_refl _), h9, by omega, ?_, f6⟩
        show XPc w9 (4 * (26 - o)) o 0 _ _ _ _ _ _ _
        rw [f_o ho]
        refine ⟨⟨⟨by omega, by omega⟩, by omega, by omega, by omega, by omega⟩, ⟨p, f2, by omega, by omega⟩, ho, Or.inr (Or.inr (Or.inr (Or.inr (Or.inr (Or.inr (Or.inr (Or.inr (Or.inl ⟨f1, k, m2, p5 - 1, n7, f2, f3, f4, by rw [show p7 + 1 - 1 = p7 by omega]; exact f5, hk6, by omega, ?_, by omega⟩))))))))⟩
        rw [show p7 + 1 - 1 = p7 by omega, show p5 - 1 + 1 = p5 by omega]
        exact PRT_k (PX ho w6 w9) (BX ho w6 w9) (GX w6 w9) (Pw_bd w6) (Bw_bd w6) (Gw_bd w6) e1 (KN_old g69 o69 (Nat.le_refl _))
end
end
section
set_option maxRecDepth 100000
section
variable {u v w : MS} {N c p n q o s p2 n2 q2 m a b l lo hi r d most f t x q0 : Nat}
theorem atomOrCall_okc {S : SF_Pa_matched} (ho : o ≤ 25)
    (hr : ∀ u c p n q s, PSI u c p n q o s → OK (fun w r => NDQ (fun w m lo hi a b q r => lo + 1 ≤ hi ∧ ∃ k, k ≤ 6 ∧ ORc w 1 (Gw o w) k m lo (hi - 1) a b q r) u c p n q o s w r) (S.2.2.2.2.2.2.2.2.2.2.2.2.2.2.2.2.2.2.2 u 0 (I ((6 : Nat) : Int)) (I 21)))
    (h : PSI u c p n q o s) (hk : A u 6 p = 2) (hN : 10000 ≤ N) : OK (fun w r => NDQ (fun w m lo hi a b q r => Uw 0 o w m lo hi a b q r ∧ A w 21 m = 0) u c p n q o s w r) (hm_Pa_atomOrCall N S u) := by
  have hc := h.1.1
  have h2p := h.2.2.1.2
  unfold hm_Pa_atomOrCall hb_Pa_atomOrCall_0
  rw [show u.1 665 = I ((p : Nat) : Int) by rw [I_F (k := 665), h.2.1.1]]
  refine leaf_B h (by omega) (fun v g1 o1 h2 lf m0 a6 => ?_)
  have p2c := h2.2.1.2
  refine look_T h2 (fun w gw => ⟨g1.tr gw, rfl⟩) (fun h45 => ?_)
  rw [show (20 : Int32) = I 20 from rfl]
  refine k_eq (A_r v 6 (p + 1)) ⟨by decide, by decide⟩ (fun e => ok_lt.mpr ?_) (fun _ => ok_some.mpr ?_)
  · obtain ⟨hlt2, h3⟩ := PSI_at h2 (by omega)
    rw [inc_e h2]
    have g3 : KPG v (wi v 665 ((p + 1 + 1 : Nat) : Int)) := KPG_at
    have o3 : OLDc v (wi v 665 ((p + 1 + 1 : Nat) : Int)) (n + 1) s := OLDc.row rfl
    generalize wi v 665 ((p + 1 + 1 : Nat) : Int) = w1 at h3 g3 o3
    refine ok_T (ok_mono (hr w1 c (p + 1 + 1) (n + 1) q s h3) (fun w5 r hw5 => ?_))
    obtain ⟨g5, hw5⟩ := hw5
    cases r with
    | inr k => exact ⟨g1.tr (g3.tr g5), hw5⟩
    | inl x2 =>
      obtain ⟨mp, p5, n5, q5, rfl, ol5, hv5, hp5, hlo, k, hk6, em⟩ := hw5
      have oh := OR_hd (Gw_bd w5) em
      have n5b : n5 ≤ 8000 := by have := hv5.2.2.1.2; have := hv5.2.1.2; omega
      have p5c := hv5.2.1.2
      have mb : mp ≤ 8015 := by
        rcases em with ⟨-, h, -⟩ | ⟨-, h⟩
        · omega
        · have := (RW_hd (Gw_bd w5) h).1.1; omega
      refine e_in ⟨by omega, by omega⟩ (by decide) ?_
      rw [len_ok (Gw_bd w5) hN (by omega) em, bnd_so, tnI (n := p) rfl (by omega), I_A (k := 7), show (14 : Int32) = I 14 from rfl]
      refine add_B hv5 (by omega) ⟨by decide, by decide⟩ ⟨by omega, by omega⟩ (A_r w5 7 p) ⟨by omega, by omega⟩ ⟨by omega, by omega⟩ (fun w6 g6 o6 h6 fa => ok_some.mpr ?_)
      obtain ⟨f1, f2, f3, f4, f5, f6⟩ := fa
      refine ⟨g1.tr (g3.tr (g5.tr g6)), n5 + 1, p5, n5 + 1, q5, rfl, OLDc.tr o1 (OLDc.tr o3 (OLDc.tr ol5 o6 (by omega)) (Nat.le_refl _)) (by omega), h6, by omega, ?_, f6⟩
      show XPc w6 (4 * (26 - o)) o 0 _ _ _ _ _ _ _
      rw [f_o ho]
      exact ⟨⟨⟨by omega, by omega⟩, by omega, by omega, by omega, by omega⟩, ⟨p, f2, by omega, by omega⟩, ho, Or.inr (Or.inr (Or.inr (Or.inr (Or.inr (Or.inr (Or.inr (Or.inr (Or.inr (Or.inr (Or.inl ⟨f1, f2, k, mp, n + 1, n5, f4, f5, hk6, by omega, OR_k (GX w5 w6) (Gw_bd w5) em (KN_old g6 o6 (Nat.le_refl _)), by omega⟩))))))))))⟩
  · refine ⟨g1, n + 1, p + 1, n + 1, q, rfl, o1, h2, by omega, ?_, m0⟩
    show XPc v (4 * (26 - o)) o 0 _ _ _ _ _ _ _
    rw [f_o ho]
    exact ⟨⟨⟨by omega, by omega⟩, by omega, by omega, by omega, by omega⟩, ⟨p, lf.2.2.1, by omega, by omega⟩, ho, Or.inl ⟨lf, rfl, rfl⟩⟩
theorem applied_okc {S : SF_Pa_matched} (ho : o ≤ 25)
    (hr : ∀ u c p n q s, PSI u c p n q o s → OK (fun w r => NDQ (fun w m lo hi a b q r => lo + 1 ≤ hi ∧ ∃ k, k ≤ 6 ∧ ORc w 1 (Gw o w) k m lo (hi - 1) a b q r) u c p n q o s w r) (S.2.2.2.2.2.2.2.2.2.2.2.2.2.2.2.2.2.2.2 u 0 (I ((6 : Nat) : Int)) (I 21)))
    (h : PSI u c p n q o s) (hx : Uw 0 o u x lo p a n q0 q) (x0 : A u 21 x = 0) (ha2 : a ≤ 2 * lo) (hN : 10000 ≤ N) : OK (fun w r => NDQ (fun w m _ hi _ b _ r => Uw 1 o w m lo hi a b q0 r ∧ A w 21 m = 0) u c p n q o s w r) (hm_Pa_applied N S u (I ((x : Nat) : Int))) := by
  have hc := h.1.1
  have h2p := h.2.2.1.2
  have hd := Uw_bd u _ _ _ _ _ _ _ hx
  have tkx : TKc u x lo p := by
    have hx2 : XPc u (4 * (26 - o)) o 0 x lo p a n q0 q := hx
    rw [f_o ho] at hx2
    exact hx2.2.1
  obtain ⟨tx, etx, tx1, tx2⟩ := tkx
  unfold HDc at hd
  have n8 : n ≤ 8000 := by have := h.2.1.2; omega
  have gen : ∀ (M k j first l pp nn qq : Nat) (v : MS), KPG u v → OLDc u v n s → PSI v c pp nn qq o s → (A v 16 (n + 1) = 15 ∧ A v 17 (n + 1) = ((tx : Nat) : Int) ∧ A v 18 (n + 1) = ((x : Nat) : Int) ∧ A v 21 (n + 1) = 0) → ((k = 0 ∧ l = 0 ∧ pp = p ∧ nn = n + 1 ∧ qq = q ∧ A v 6 pp = 20) ∨ (1 ≤ k ∧ A v 19 (n + 1) = ((first : Nat) : Int) ∧ RPc v 0 (AGc v (Gw o v)) k first l p pp (n + 1) nn q qq ∧ A v 21 l = 0)) → j + p ≤ pp → 4001 < M + pp → OK (fun w r => NDQ (fun w m _ hi _ b _ r => Uw 1 o w m lo hi a b q0 r ∧ A w 21 m = 0) u c p n q o s w r) (hg_Pa_applied N S M v (I ((n + 1 : Nat) : Int)) (I ((l : Nat) : Int)) (I ((j : Nat) : Int))) := by
    intro M
    induction M with
    | zero =>
      intro k j first l pp nn qq v _ _ hv
      have := hv.2.1.2
      omega
    | succ M ih =>
      intro k j first l pp nn qq v g ol hv nf hk hj hM
      have ppc := hv.2.1.2
      show OK _ (hb_Pa_applied_38 N S (hg_Pa_applied N S M) v (I ((n + 1 : Nat) : Int)) (I ((l : Nat) : Int)) (I ((j : Nat) : Int)))
      unfold hb_Pa_applied_38 hb_Pa_applied_145
      have hpos : n + 1 ≤ nn ∧ p ≤ pp ∧ l ≤ nn ∧ nn + 2 * p ≤ n + 1 + 2 * pp ∧ q ≤ qq ∧ 5 * qq + p ≤ 5 * q + pp := by
        rcases hk with hk | ⟨h1, h2, h3, h4⟩
        · omega
        · have := RP_hd AG_bd h3; omega
      have done : (k = 0 → False) → NDQ (fun w m _ hi _ b _ r => Uw 1 o w m lo hi a b q0 r ∧ A w 21 m = 0) u c p n q o s v (.inl (I ((n + 1 : Nat) : Int))) := fun hk0 => by
        rcases hk with ⟨h1, -⟩ | ⟨h1, h2, h3, h4⟩
        · exact absurd h1 (fun z => hk0 z)
        · have rh := RP_hd AG_bd h3
          refine ⟨g, n + 1, pp, nn, qq, rfl, ol, hv, by omega, ?_, nf.2.2.2⟩
          refine ⟨⟨⟨by omega, by omega⟩, by omega, by omega, by omega, by omega⟩, ⟨tx, nf.2.1, by omega, by omega⟩, ho, Or.inr (Or.inr (Or.inr (Or.inr (Or.inr (Or.inr (Or.inr (Or.inr (Or.inr (Or.inr (Or.inr (Or.inl ⟨nf.1, Nat.le_refl _, x, p, n, q, k, first, nf.2.2.1, Uw_st u v _ _ _ _ _ _ _ hx (KN_old g ol (Nat.le_refl _)), by omega, h2, ?_⟩)))))))))))⟩
          have rw1 := RW_of AG_bd h3 h4
          exact RW_k (AG_k (XP_k (by omega) (Nat.le_refl _)) (Gw_bd v)) AG_bd rw1 (KN_old KPG.rf (OLDc.rf (n := nn) (s := 0)) (Nat.le_refl _))
      rw [show (4000 : Int32) = I 4000 from rfl]
      refine k_le ⟨by decide, by decide⟩ ⟨by omega, by omega⟩ (fun z => ok_some.mpr (done (fun k0 => ?_))) (fun hlt => look_T hv (fun w gw => ⟨g.tr gw, rfl⟩) (fun h45 => ?_))
      · rcases hk with ⟨-, -, hk, -⟩ | ⟨hk, -⟩
        · omega
        · omega
      rw [show (20 : Int32) = I 20 from rfl]
      refine k_eq (A_r v 6 pp) ⟨by decide, by decide⟩ (fun e20 => ok_lt.mpr ?_) (fun ne => ok_some.mpr (done (fun k0 => ?_)))
      rotate_left
      · rcases hk with ⟨-, -, -, -, -, hk⟩ | ⟨hk, -⟩
        · exact ne hk
        · omega
      obtain ⟨hlt2, hv2⟩ := PSI_at hv ⟨by omega, by omega⟩
      rw [inc_e hv, show v.1 665 = I ((pp : Nat) : Int) by rw [I_F (k := 665), hv.2.1.1]]
      have g2 : KPG v (wi v 665 ((pp + 1 : Nat) : Int)) := KPG_at
      have o2 : OLDc v (wi v 665 ((pp + 1 : Nat) : Int)) nn s := OLDc.row rfl
      generalize wi v 665 ((pp + 1 : Nat) : Int) = v2 at hv2 g2 o2
      refine ok_T (ok_mono (hr v2 c (pp + 1) nn qq s hv2) (fun w r hw => ?_))
      obtain ⟨gw, hw⟩ := hw
      cases r with
      | inr k => exact ⟨g.tr (g2.tr gw), hw⟩
      | inl x2 =>
        obtain ⟨mp, p5, n5, q5, rfl, ol5, hv5, hp5, hlo, ka, hk6, em⟩ := hw
        have oh := OR_hd (Gw_bd w) em
        have n5b : n5 ≤ 8000 := by have := hv5.2.2.1.2; have := hv5.2.1.2; omega
        have p5c := hv5.2.1.2
        have mb : mp ≤ 8015 := by
          rcases em with ⟨-, h, -⟩ | ⟨-, h⟩
          · omega
          · have := (RW_hd (Gw_bd w) h).1.1; omega
        show OK _ (bnd (hm_Tr_length N w (I ((mp : Nat) : Int))) _)
        rw [len_ok (Gw_bd w) hN (by omega) em, bnd_so, show (16 : Int32) = I 16 from rfl, lit0q]
        refine add_B hv5 (by omega) ⟨by decide, by decide⟩ ⟨by omega, by omega⟩ ⟨by omega, by omega⟩ ⟨by omega, by omega⟩ ⟨by decide, by decide⟩ (fun w6 g6 o6 h6 fa => ?_)
        obtain ⟨f1, f2, f3, f4, f5, f6⟩ := fa
        have gv6 : KPG v w6 := g2.tr (gw.tr g6)
        have ov6 : OLDc v w6 nn s := OLDc.tr o2 (OLDc.tr ol5 o6 (by omega)) (Nat.le_refl _)
        have ag : AGc w6 (Gw o w6) (n5 + 1) pp p5 nn (n5 + 1) qq q5 := ⟨⟨⟨by omega, by omega⟩, by omega, by omega, by omega, by omega⟩, f1, ka, mp, n5, f3, f4, hk6, OR_k (Gw_st w w6) (Gw_bd w) em (KN_old g6 o6 (Nat.le_refl _)), by omega⟩
        have hd1 := (ov6.1 (n + 1) (by omega))
        have hj1 : I ((j : Nat) : Int) + 1 = I ((j + 1 : Nat) : Int) := by rw [lit1q, I_add, show ((j : Nat) : Int) + 1 = ((j + 1 : Nat) : Int) by omega]
        unfold hb_Pa_applied_136
        rw [hj1]
        rcases hk with ⟨h1, h2, h3, h4, h5, -⟩ | ⟨h1, h2, h3, h4⟩
        · subst h2
          refine ok_br.mpr ⟨fun _ => ?_, fun z => absurd z (by decide)⟩
          refine e_in ⟨by omega, by omega⟩ (by decide) (ok_lt.mpr ?_)
          rw [tnI (n := n + 1) rfl (by omega), wa_e]
          have a19 : ∀ k, k ≠ n + 1 → A (wa w6 19 (n + 1) ((n5 + 1 : Nat) : Int)) 19 k = A w6 19 k := fun k hk => wa_ne hk
          have aO : ∀ r k, r ≠ 19 → A (wa w6 19 (n + 1) ((n5 + 1 : Nat) : Int)) r k = A w6 r k := fun r k hr => wa_rne hr
          have a19d : A (wa w6 19 (n + 1) ((n5 + 1 : Nat) : Int)) 19 (n + 1) = ((n5 + 1 : Nat) : Int) := wa_eq ⟨by omega, by omega⟩
          have g7 : KPG w6 (wa w6 19 (n + 1) ((n5 + 1 : Nat) : Int)) := FR.wa FR.rf (by simp)
          have h7 : PSI (wa w6 19 (n + 1) ((n5 + 1 : Nat) : Int)) c p5 (n5 + 1) q5 o s := ⟨TKK_g g7 h6.1, h6.2⟩
          generalize wa w6 19 (n + 1) ((n5 + 1 : Nat) : Int) = w7 at a19 aO a19d g7 h7
          have kn : KNc w6 w7 nn (n5 + 1) (n5 + 1) := ⟨⟨g7.2.2.1 6 (by simp), g7.2.2.1 7 (by simp)⟩, fun k k1 k2 => ⟨⟨aO _ _ (by decide), aO _ _ (by decide), aO _ _ (by decide), a19 k (by omega), aO _ _ (by decide)⟩, fun _ => aO _ _ (by decide)⟩⟩
          have ol7 : OLDc u w7 n s := by
            have o8 := OLDc.tr ol ov6 (by omega)
            refine ⟨fun k hk => ?_, fun i hi => by rw [aO _ _ (by decide)]; exact o8.2 i hi⟩
            obtain ⟨b1, b2, b3, b4, b5, b6⟩ := o8.1 k hk
            exact ⟨by rw [aO _ _ (by decide)]; exact b1, by rw [aO _ _ (by decide)]; exact b2, by rw [aO _ _ (by decide)]; exact b3, by rw [a19 k (by omega)]; exact b4, by rw [aO _ _ (by decide)]; exact b5, by rw [aO _ _ (by decide)]; exact b6⟩
          refine ih 1 (j + 1) (n5 + 1) (n5 + 1) p5 (n5 + 1) q5 w7 (g.tr (gv6.tr g7)) ol7 h7 ⟨by rw [aO _ _ (by decide), hd1.1]; exact nf.1, by rw [aO _ _ (by decide), hd1.2.1]; exact nf.2.1, by rw [aO _ _ (by decide), hd1.2.2.1]; exact nf.2.2.1, by rw [aO _ _ (by decide), hd1.2.2.2.2.2]; exact nf.2.2.2⟩ (Or.inr ⟨Nat.le_refl _, a19d, Or.inl ⟨rfl, rfl, ?_⟩, by rw [aO _ _ (by decide)]; exact f6⟩) (by omega) (by omega)
          have := AG_k (Gw_st w6 w7) (Gw_bd w6) _ _ _ _ _ _ _ ag kn
          rw [h4, h3, h5] at this
          exact this
        · have rh := RP_hd AG_bd h3
          refine ok_br.mpr ⟨fun z => ?_, fun _ => ?_⟩
          · exfalso
            have := (I_eq (x := ((l : Nat) : Int)) (y := 0) (by omega) (by omega) (by decide) (by decide)).mp (show I ((l : Nat) : Int) = I 0 from of_decide_eq_true z)
            omega
          refine e_in ⟨by omega, by omega⟩ (by decide) (ok_lt.mpr ?_)
          rw [tnI (n := l) rfl (by omega), wa_e]
          have a21 : ∀ k, k ≠ l → A (wa w6 21 l ((n5 + 1 : Nat) : Int)) 21 k = A w6 21 k := fun k hk => wa_ne hk
          have aO : ∀ r k, r ≠ 21 → A (wa w6 21 l ((n5 + 1 : Nat) : Int)) r k = A w6 r k := fun r k hr => wa_rne hr
          have a21l : A (wa w6 21 l ((n5 + 1 : Nat) : Int)) 21 l = ((n5 + 1 : Nat) : Int) := wa_eq ⟨by omega, by omega⟩
          have g7 : KPG w6 (wa w6 21 l ((n5 + 1 : Nat) : Int)) := FR.wa FR.rf (by simp)
          have h7 : PSI (wa w6 21 l ((n5 + 1 : Nat) : Int)) c p5 (n5 + 1) q5 o s := ⟨TKK_g g7 h6.1, h6.2⟩
          generalize wa w6 21 l ((n5 + 1 : Nat) : Int) = w7 at a21 aO a21l g7 h7
          have kn : KNc w6 w7 nn (n5 + 1) (n5 + 1) := ⟨⟨g7.2.2.1 6 (by simp), g7.2.2.1 7 (by simp)⟩, fun k k1 k2 => ⟨⟨aO _ _ (by decide), aO _ _ (by decide), aO _ _ (by decide), aO _ _ (by decide), aO _ _ (by decide)⟩, fun _ => a21 k (by omega)⟩⟩
          have kv : KNc v w7 (n + 1) nn l := ⟨⟨(g7.2.2.1 6 (by simp)).trans (gv6.2.2.1 6 (by simp)), (g7.2.2.1 7 (by simp)).trans (gv6.2.2.1 7 (by simp))⟩, fun k k1 k2 => by
            obtain ⟨b1, b2, b3, b4, b5, b6⟩ := ov6.1 k k2
            exact ⟨⟨by rw [aO _ _ (by decide)]; exact b1, by rw [aO _ _ (by decide)]; exact b2, by rw [aO _ _ (by decide)]; exact b3, by rw [aO _ _ (by decide)]; exact b4, by rw [aO _ _ (by decide)]; exact b5⟩, fun k3 => by rw [a21 k k3]; exact b6⟩⟩
          have ol7 : OLDc u w7 n s := by
            have o8 := OLDc.tr ol ov6 (by omega)
            refine ⟨fun k hk => ?_, fun i hi => by rw [aO _ _ (by decide)]; exact o8.2 i hi⟩
            obtain ⟨b1, b2, b3, b4, b5, b6⟩ := o8.1 k hk
            exact ⟨by rw [aO _ _ (by decide)]; exact b1, by rw [aO _ _ (by decide)]; exact b2, by rw [aO _ _ (by decide)]; exact b3, by rw [aO _ _ (by decide)]; exact b4, by rw [aO _ _ (by decide)]; exact b5, by rw [a21 k (by omega)]; exact b6⟩
          have rp7 := RP_k (AG_k (Gw_st v w7) (Gw_bd v)) AG_bd h3 kv
          have ag7 := AG_k (Gw_st w6 w7) (Gw_bd w6) _ _ _ _ _ _ _ ag kn
          exact ih (k + 1) (j + 1) first (n5 + 1) p5 (n5 + 1) q5 w7 (g.tr (gv6.tr g7)) ol7 h7 ⟨by rw [aO _ _ (by decide), hd1.1]; exact nf.1, by rw [aO _ _ (by decide), hd1.2.1]; exact nf.2.1, by rw [aO _ _ (by decide), hd1.2.2.1]; exact nf.2.2.1, by rw [a21 _ (by omega), hd1.2.2.2.2.2]; exact nf.2.2.2⟩ (Or.inr ⟨by omega, by rw [aO _ _ (by decide), hd1.2.2.2.1]; exact h2, Or.inr ⟨h1, l, pp, nn, qq, rp7, a21l, ag7⟩, by rw [a21 _ (by omega)]; exact f6⟩) (by omega) (by omega)
  unfold hm_Pa_applied hb_Pa_applied_0
  refine look_T h (fun w gw => ⟨gw, rfl⟩) (fun h45 => ?_)
  rw [show (20 : Int32) = I 20 from rfl]
  refine k_eq (A_r u 6 p) ⟨by decide, by decide⟩ (fun e20 => ?_) (fun _ => ok_some.mpr ⟨KPG.rf, x, p, n, q, rfl, OLDc.rf, h, Nat.le_refl _, XP_k (by omega) (by omega) _ _ _ _ _ _ _ hx (KN_old KPG.rf (OLDc.rf (n := n) (s := 0)) (Nat.le_refl _)), x0⟩)
  refine e_in ⟨by omega, by omega⟩ (by decide) ?_
  rw [tnI (n := x) rfl (by omega), I_A (k := 17), etx, lit0q, show (15 : Int32) = I 15 from rfl]
  have pc := h.2.1.2
  refine add_B h (by omega) ⟨by decide, by decide⟩ ⟨by omega, by omega⟩ ⟨by omega, by omega⟩ ⟨by decide, by decide⟩ ⟨by decide, by decide⟩ (fun w6 g6 o6 h6 fa => ?_)
  obtain ⟨f1, f2, f3, f4, f5, f6⟩ := fa
  exact gen N 0 0 0 0 p (n + 1) q w6 g6 o6 h6 ⟨f1, f2, f3, f6⟩ (Or.inl ⟨rfl, rfl, rfl, rfl, rfl, by rw [g6.a6]; exact e20⟩) (by omega) (by omega)
theorem unit_okc {S : SF_Pa_matched} (ho : o ≤ 25)
    (hu : o < 25 → ∀ u c p n q s, PSI u c p n q (o + 1) s → OK (fun w r => NDQ (fun w m lo hi a b q r => Uw 1 (o + 1) w m lo hi a b q r ∧ A w 21 m = 0) u c p n q (o + 1) s w r) (S.2.2.2.2.2.2.2.2.2.2.2.2.1 u))
    (hp : ∀ u c p n q s, PSI u c p n q o s → OK (fun w r => NDQ (fun w m lo hi a b q r => Uw 0 o w m lo hi a b q r ∧ A w 21 m = 0) u c p n q o s w r) (S.2.2.2.2.2.2.2.2.2.2.2.1 u))
    (ha : ∀ u c p n q s x lo a q0, PSI u c p n q o s → Uw 0 o u x lo p a n q0 q → A u 21 x = 0 → a ≤ 2 * lo → OK (fun w r => NDQ (fun w m _ hi _ b _ r => Uw 1 o w m lo hi a b q0 r ∧ A w 21 m = 0) u c p n q o s w r) (S.2.1 u (I ((x : Nat) : Int))))
    (h : PSI u c p n q o s) : OK (fun w r => NDQ (fun w m lo hi a b q r => Uw 1 o w m lo hi a b q r ∧ A w 21 m = 0) u c p n q o s w r) (hm_Pa_unit N S u) := by
  have hc := h.1.1
  have h2p := h.2.2.1.2
  have e26 : ∀ v1 : Int32, A u 6 p ≠ 0 ∧ A u 6 p ≠ 45 → OK (fun w r => NDQ (fun w m lo hi a b q r => Uw 1 o w m lo hi a b q r ∧ A w 21 m = 0) u c p n q o s w r) (hb_Pa_unit_26 N S () u v1) := fun v1 hk => by
    unfold hb_Pa_unit_26
    obtain ⟨hpc, h2⟩ := PSI_at h hk
    refine ok_lt.mpr ?_
    rw [inc_e h, show u.1 665 = I ((p : Nat) : Int) by rw [I_F (k := 665), h.2.1.1]]
    have g1 : KPG u (wi u 665 ((p + 1 : Nat) : Int)) := KPG_at
    have o1 : OLDc u (wi u 665 ((p + 1 : Nat) : Int)) n s := OLDc.row rfl
    generalize wi u 665 ((p + 1 : Nat) : Int) = v at h2 g1 o1
    refine look_T h2 (fun w gw => ⟨g1.tr gw, rfl⟩) (fun h45 => ?_)
    obtain ⟨r6, e6⟩ := begU (N := N) (u := v) (tk_rng h2.1 h2.2.1.2)
    rw [e6, bnd_so]
    refine opens_T h2 (fun w gw => ⟨g1.tr gw, rfl⟩) (fun _ ho25 h3 => ?_)
    have g3 : KPG v (wi v 666 ((o + 1 : Nat) : Int)) := KPG_op
    have o3 : OLDc v (wi v 666 ((o + 1 : Nat) : Int)) n s := OLDc.row rfl
    generalize wi v 666 ((o + 1 : Nat) : Int) = w1 at h3 g3 o3
    have e69 : ∀ K : Int, (K = 17 ∨ K = 18) → OK (fun w r => NDQ (fun w m lo hi a b q r => Uw 1 o w m lo hi a b q r ∧ A w 21 m = 0) u c p n q o s w r) (hb_Pa_unit_69 N S () w1 (I ((p : Nat) : Int)) (I K)) := fun K hK => by
      unfold hb_Pa_unit_69
      refine ok_T (ok_mono (hu ho25 w1 c (p + 1) n q s h3) (fun w5 r hw5 => ?_))
      obtain ⟨g5, hw5⟩ := hw5
      cases r with
      | inr k => exact ⟨g1.tr (g3.tr g5), hw5⟩
      | inl x2 =>
        obtain ⟨m, p5, n5, q5, rfl, ol5, hv5, hp5, em, -⟩ := hw5
        have hd := Uw_bd w5 _ _ _ _ _ _ _ em
        unfold HDc at hd
        have n5b : n5 ≤ 8000 := by have := hv5.2.2.1.2; have := hv5.2.1.2; omega
        have p5c := hv5.2.1.2
        rw [lit0q]
        refine add_B hv5 (by omega) ⟨by omega, by omega⟩ ⟨by omega, by omega⟩ ⟨by omega, by omega⟩ ⟨by decide, by decide⟩ ⟨by decide, by decide⟩ (fun w6 g6 o6 h6 fa => ok_lt.mpr (ok_some.mpr ?_))
        obtain ⟨f1, f2, f3, f4, f5, f6⟩ := fa
        obtain ⟨e, h7⟩ := close_e h6
        rw [e]
        have g7 : KPG w6 (wi w6 666 ((o : Nat) : Int)) := KPG_op
        have o7 : OLDc w6 (wi w6 666 ((o : Nat) : Int)) (n5 + 1) s := OLDc.row rfl
        refine ⟨g1.tr (g3.tr (g5.tr (g6.tr g7))), n5 + 1, p5, n5 + 1, q5, rfl, OLDc.tr o1 (OLDc.tr o3 (OLDc.tr ol5 (OLDc.tr o6 o7 (by omega)) (by omega)) (Nat.le_refl _)) (Nat.le_refl _), h7, by omega, ?_, f6⟩
        have fK : A (wi w6 666 ((o : Nat) : Int)) 16 (n5 + 1) = 17 ∨ A (wi w6 666 ((o : Nat) : Int)) 16 (n5 + 1) = 18 := by
          rcases hK with rfl | rfl
          · exact Or.inl f1
          · exact Or.inr f1
        exact ⟨⟨⟨by omega, by omega⟩, by omega, by omega, by omega, by omega⟩, ⟨p, f2, by omega, by omega⟩, ho, Or.inr (Or.inr (Or.inr (Or.inr (Or.inr (Or.inr (Or.inr (Or.inr (Or.inr (Or.inr (Or.inr (Or.inr (Or.inl ⟨fK, Nat.le_refl _, m, n5, f3, XP_k (by omega) (Nat.le_refl _) _ _ _ _ _ _ _ em (KN_old (g6.tr g7) (OLDc.tr o6 o7 (by omega)) (Nat.le_refl _)), by omega⟩))))))))))))⟩
    exact ok_br.mpr ⟨fun _ => e69 17 (Or.inl rfl), fun _ => e69 18 (Or.inr rfl)⟩
  unfold hm_Pa_unit hb_Pa_unit_0
  refine look_T h (fun w gw => ⟨gw, rfl⟩) (fun h45 => ?_)
  rw [show (34 : Int32) = I 34 from rfl, show (14 : Int32) = I 14 from rfl]
  refine k_eq (A_r u 6 p) ⟨by decide, by decide⟩ (fun e => e26 _ (by omega)) (fun _ => k_eq (A_r u 6 p) ⟨by decide, by decide⟩ (fun e => e26 _ (by omega)) (fun _ => ?_))
  refine ok_T (ok_mono (hp u c p n q s h) (fun w5 r hw5 => ?_))
  obtain ⟨g5, hw5⟩ := hw5
  cases r with
  | inr k => exact ⟨g5, hw5⟩
  | inl x2 =>
    obtain ⟨m, p5, n5, q5, rfl, ol5, hv5, hp5, em, m0⟩ := hw5
    have hd := (Uw_bd w5 _ _ _ _ _ _ _ em).1
    refine ok_T (ok_mono (ha w5 c p5 n5 q5 s m p n q hv5 em m0 h2p) (fun w6 r hw6 => ?_))
    obtain ⟨g6, hw6⟩ := hw6
    cases r with
    | inr k => exact ⟨g5.tr g6, hw6⟩
    | inl x2 =>
      obtain ⟨m6, p6, n6, q6, rfl, ol6, hv6, hp6, em6, m60⟩ := hw6
      exact ok_some.mpr ⟨g5.tr g6, m6, p6, n6, q6, rfl, OLDc.tr ol5 ol6 (by omega), hv6, by omega, em6, m60⟩
end
end
section
set_option maxRecDepth 100000
def rnkc (k : Int) : Nat := if k = 16 then 1 else if k = 6 then 2 else if k = 31 ∨ k = 32 ∨ k = 39 ∨ k = 40 ∨ k = 41 ∨ k = 42 then 3 else if k = 43 ∨ k = 44 then 4 else if k = 33 ∨ k = 34 then 5 else if k = 10 ∨ k = 18 ∨ k = 35 then 6 else 0
def SGKc (u : MS) (base x : Nat) : Nat → Nat → Nat → Option Nat → Option Nat → Prop
  | 0 => fun mx z aa oo => mx = 0 ∧ z = 0 ∧ aa = none ∧ oo = none
  | m + 1 => fun mx z aa oo => ∃ (t : Nat) (k : Int) (mx2 z2 : Nat) (aa2 oo2 : Option Nat), (A u 34 (base + m) = ((t : Nat) : Int) ∧ t < x) ∧ A u 6 t = k ∧ mx = rnkc k ∧ 1 ≤ mx ∧ SGKc u base x m mx2 z2 aa2 oo2 ∧ (mx2 < mx ∨ (mx2 = 4 ∧ mx = 4)) ∧ ((k = 6 ∧ z = z2 ∧ aa2 = none ∧ aa = some z2 ∧ oo = oo2) ∨ (k = 16 ∧ z = z2 ∧ aa2 = none ∧ oo2 = none ∧ aa = none ∧ oo = some z2) ∨ (k ≠ 6 ∧ k ≠ 16 ∧ z = z2 + 1 ∧ aa = aa2 ∧ oo = oo2))
section
variable {u v w : MS} {N c p n q o s p2 n2 q2 a b l lo hi r d most f t x q0 base : Nat}
theorem rank_e {k : Int} (hk : 0 ≤ k ∧ k ≤ 45) : hm_Pa_rank N u (I k) = some (u, I ((rnkc k : Nat) : Int)) := by
  have cs : k = 0 ∨ k = 1 ∨ k = 2 ∨ k = 3 ∨ k = 4 ∨ k = 5 ∨ k = 6 ∨ k = 7 ∨ k = 8 ∨ k = 9 ∨ k = 10 ∨ k = 11 ∨ k = 12 ∨ k = 13 ∨ k = 14 ∨ k = 15 ∨ k = 16 ∨ k = 17 ∨ k = 18 ∨ k = 19 ∨ k = 20 ∨ k = 21 ∨ k = 22 ∨ k = 23 ∨ k = 24 ∨ k = 25 ∨ k = 26 ∨ k = 27 ∨ k = 28 ∨ k = 29 ∨ k = 30 ∨ k = 31 ∨ k = 32 ∨ k = 33 ∨ k = 34 ∨ k = 35 ∨ k = 36 ∨ k = 37 ∨ k = 38 ∨ k = 39 ∨ k = 40 ∨ k = 41 ∨ k = 42 ∨ k = 43 ∨ k = 44 ∨ k = 45 := by omega
  rcases cs with rfl | rfl | rfl | rfl | rfl | rfl | rfl | rfl | rfl | rfl | rfl | rfl | rfl | rfl | rfl | rfl | rfl | rfl | rfl | rfl | rfl | rfl | rfl | rfl | rfl | rfl | rfl | rfl | rfl | rfl | rfl | rfl | rfl | rfl | rfl | rfl | rfl | rfl | rfl | rfl | rfl | rfl | rfl | rfl | rfl | rfl <;> rfl
theorem rk_le (k : Int) : rnkc k ≤ 6 := by
  unfold rnkc
  repeat' (first | omega | split)
theorem STK_mx : ∀ {m mx z : Nat} {aa oo : Option Nat}, SGKc u base x m mx z aa oo → (aa ≠ none → 2 ≤ mx) ∧ (oo ≠ none → 1 ≤ mx)
  | 0, _, _, _, _, h => ⟨fun z => absurd h.2.2.1 z, fun z => absurd h.2.2.2 z⟩
  | m + 1, mx, z, aa, oo, h => by
    obtain ⟨t, k, mx2, z2, aa2, oo2, h1, h2, h3, h4, h5, h6, h7⟩ := h
    have ih := STK_mx h5
    rcases h7 with ⟨h7, -, -, -, h8⟩ | ⟨h7, -, -, -, h8, h9⟩ | ⟨h7, h8, -, h9, h10⟩
    · have e : mx = 2 := by rw [h3, h7]; rfl
      exact ⟨fun _ => by omega, fun _ => by omega⟩
    · exact ⟨fun z => absurd h8 z, fun _ => h4⟩
    · refine ⟨fun z => ?_, fun _ => h4⟩
      have := ih.1 (by rw [← h9]; exact z)
      omega
theorem STK_k {x2 : Nat} (e6 : w.2.2.1 6 = u.2.2.1 6) (hx : x ≤ x2) : ∀ {m mx z : Nat} {aa oo : Option Nat}, (∀ i, i < base + m → A w 34 i = A u 34 i) → SGKc u base x m mx z aa oo → SGKc w base x2 m mx z aa oo
  | 0, _, _, _, _, _, h => h
  | m + 1, mx, z, aa, oo, he, h => by
    obtain ⟨t, k, mx2, z2, aa2, oo2, h1, h2, h3, h4, h5, h6, h7⟩ := h
    exact ⟨t, k, mx2, z2, aa2, oo2, ⟨by rw [he _ (by omega)]; exact h1.1, by omega⟩, by show (w.2.2.1 6 t).toInt = _; rw [e6]; exact h2, h3, h4, STK_k e6 hx (fun i hi => he i (by omega)) h5, h6, h7⟩
def SGI (u v : MS) (c p n q o s pp nn qq j l m mx z : Nat) (aa oo : Option Nat) (first : Nat) : Prop := KPG u v ∧ OLDc u v n s ∧ PSI v c pp nn qq o (s + m) ∧ SPc v (Uw 1 o v) first p n q j l (pp + 1) nn qq (z + 1) aa oo ∧ SGKc v s pp m mx z aa oo ∧ A v 21 l = 0
theorem closeS_ok {rk first : Nat} (hN : 10000 ≤ N) (hrk : rk ≤ 6) : ∀ (M : Nat) (v : MS) (pp nn qq j l m mx z : Nat) (aa oo : Option Nat), SGI u v c p n q o s pp nn qq j l m mx z aa oo first → nn + m + 1 + 2 * p ≤ n + 2 * pp → n ≤ 2 * p → m < M → OK (fun w r => KPG u w ∧ match r with
    | .inr k => k = 3
    | .inl x => ∃ nn2 j2 l2 m2 mx2 z2 aa2 oo2, x = I ((l2 : Nat) : Int) ∧ SGI u w c p n q o s pp nn2 qq j2 l2 m2 mx2 z2 aa2 oo2 first ∧ nn2 + m2 = nn + m ∧ nn ≤ nn2 ∧ j ≤ j2 ∧ (m2 = 0 ∨ mx2 < rk ∨ (mx2 = 4 ∧ rk = 4))) (hg_Pa_closeSigns N M v (I ((s : Nat) : Int)) (I ((rk : Nat) : Int)) (I ((l : Nat) : Int))) := by
  intro M
  induction M with
  | zero => intro v pp nn qq j l m mx z aa oo _ _ _ h; omega
  | succ M ih =>
    intro v pp nn qq j l m mx z aa oo hs hcnt h2p hM
    have hs' := hs
    obtain ⟨g, ol, hv, sp, stk, l0⟩ := hs
    have hc := hv.1.1
    have ppc := hv.2.1.2
    have smp := hv.2.2.2.2.2.2
    have sh := SP_hd (Uw_bd v) sp
    have hj1 : 1 ≤ j := by
      cases j with
      | zero => exact sp.elim
      | succ j => omega
    show OK _ (hb_Pa_closeSigns_3 N (hg_Pa_closeSigns N M) v (I ((s : Nat) : Int)) (I ((rk : Nat) : Int)) (I ((l : Nat) : Int)))
    unfold hb_Pa_closeSigns_3 hb_Pa_closeSigns_60
    rw [show v.1 664 = I ((s + m : Nat) : Int) by rw [I_F (k := 664), hv.2.2.2.2.2.1]]
    have stop : (m = 0 ∨ mx < rk ∨ (mx = 4 ∧ rk = 4)) → OK (fun w r => KPG u w ∧ match r with
      | .inr k => k = 3
      | .inl x => ∃ nn2 j2 l2 m2 mx2 z2 aa2 oo2, x = I ((l2 : Nat) : Int) ∧ SGI u w c p n q o s pp nn2 qq j2 l2 m2 mx2 z2 aa2 oo2 first ∧ nn2 + m2 = nn + m ∧ nn ≤ nn2 ∧ j ≤ j2 ∧ (m2 = 0 ∨ mx2 < rk ∨ (mx2 = 4 ∧ rk = 4))) (some (v, (.inl (I ((l : Nat) : Int)) : Int32 ⊕ Nat))) := fun hh => ok_some.mpr ⟨g, nn, j, l, m, mx, z, aa, oo, rfl, hs', rfl, Nat.le_refl _, Nat.le_refl _, hh⟩
    refine k_le ⟨by omega, by omega⟩ ⟨by omega, by omega⟩ (fun hle => stop (Or.inl (by omega))) (fun hlt => ?_)
    cases m with
    | zero => omega
    | succ m =>
      obtain ⟨t, k, mx2, z2, aa2, oo2, ⟨t1, t2⟩, t3, t4, t5, t6, t7, t8⟩ := stk
      rw [lit1q, I_sub, show ((s + (m + 1) : Nat) : Int) - 1 = ((s + m : Nat) : Int) by omega]
      refine e_in ⟨by omega, by omega⟩ (by decide) ?_
      rw [tnI (n := s + m) rfl (by omega), I_A (k := 34), t1]
      refine e_in ⟨by omega, by omega⟩ (by decide) ?_
      have hk45 : 0 ≤ k ∧ k ≤ 45 := by
        have := hv.1.2.2 t (by omega)
        omega
      rw [tnI (n := t) rfl (by omega), I_A (k := 6), t3, rank_e hk45, bnd_so, ← t4]
      have mx6 : mx ≤ 6 := by rw [t4]; exact rk_le k
      refine k_lt ⟨by omega, by omega⟩ ⟨by omega, by omega⟩ (fun hh => stop (Or.inr (Or.inl (by omega)))) (fun hge => ?_)
      have e79 : OK (fun w r => KPG u w ∧ match r with
        | .inr k => k = 3
        | .inl x => ∃ nn2 j2 l2 m2 mx2 z2 aa2 oo2, x = I ((l2 : Nat) : Int) ∧ SGI u w c p n q o s pp nn2 qq j2 l2 m2 mx2 z2 aa2 oo2 first ∧ nn2 + m2 = nn + (m + 1) ∧ nn ≤ nn2 ∧ j ≤ j2 ∧ (m2 = 0 ∨ mx2 < rk ∨ (mx2 = 4 ∧ rk = 4))) (hb_Pa_closeSigns_79 N (hg_Pa_closeSigns N M) v (I ((s : Nat) : Int)) (I ((rk : Nat) : Int)) (I ((l : Nat) : Int)) (I ((t : Nat) : Int)) (I k)) := by
        unfold hb_Pa_closeSigns_79
        rw [show (23 : Int32) = I 23 from rfl, lit0q]
        refine add_B hv (by omega) ⟨by decide, by decide⟩ ⟨by omega, by omega⟩ ⟨by omega, by omega⟩ ⟨by decide, by decide⟩ ⟨by decide, by decide⟩ (fun w1 g1 o1 h1 fa => ?_)
        obtain ⟨f1, f2, f3, f4, f5, f6⟩ := fa
        have n1b := h1.2.2.1.2
        rw [chain_e (by omega), bnd_so]
        have g2 : KPG w1 (wa w1 21 l ((nn + 1 : Nat) : Int)) := FR.wa FR.rf (by simp)
        have a21 : ∀ k, k ≠ l → A (wa w1 21 l ((nn + 1 : Nat) : Int)) 21 k = A w1 21 k := fun k hk => wa_ne hk
        have aO : ∀ r k, r ≠ 21 → A (wa w1 21 l ((nn + 1 : Nat) : Int)) r k = A w1 r k := fun r k hr => wa_rne hr
        have a21l : A (wa w1 21 l ((nn + 1 : Nat) : Int)) 21 l = ((nn + 1 : Nat) : Int) := wa_eq ⟨by omega, by omega⟩
        have h2 : PSI (wa w1 21 l ((nn + 1 : Nat) : Int)) c pp (nn + 1) qq o (s + (m + 1)) := ⟨TKK_g g2 h1.1, h1.2⟩
        generalize wa w1 21 l ((nn + 1 : Nat) : Int) = w2 at g2 a21 aO a21l h2
        refine ok_lt.mpr ?_
        rw [show w2.1 664 = I ((s + (m + 1) : Nat) : Int) by rw [I_F (k := 664), h2.2.2.2.2.2.1], lit1q, I_sub, show ((s + (m + 1) : Nat) : Int) - 1 = ((s + m : Nat) : Int) by omega, wi_e]
        have g3 : KPG w2 (wi w2 664 ((s + m : Nat) : Int)) := FR.wi FR.rf (by simp)
        have h3 : PSI (wi w2 664 ((s + m : Nat) : Int)) c pp (nn + 1) qq o (s + m) := by
          obtain ⟨b1, b2, b3, b4, b5, b6⟩ := h2
          have e : ∀ k, k ≠ 664 → F (wi w2 664 ((s + m : Nat) : Int)) k = F w2 k := fun k hk => by rw [F_wi (by omega) (by omega), if_neg hk]
          exact ⟨b1, ⟨by rw [e 665 (by decide)]; exact b2.1, b2.2⟩, ⟨by rw [e 306 (by decide)]; exact b3.1, b3.2⟩, by rw [e 449 (by decide)]; exact b4, ⟨by rw [e 666 (by decide)]; exact b5.1, b5.2⟩, by rw [F_wi (by omega) (by omega), if_pos rfl], by omega⟩
        have r3 : (wi w2 664 ((s + m : Nat) : Int)).2.2.1 = w2.2.2.1 := rfl
        generalize wi w2 664 ((s + m : Nat) : Int) = w3 at g3 h3 r3
        have A3 : ∀ r k, A w3 r k = A w2 r k := fun r k => by show (w3.2.2.1 r k).toInt = _; rw [r3]; rfl
        have gv3 : KPG v w3 := g1.tr (g2.tr g3)
        have kv : KNc v w3 n nn l := ⟨⟨gv3.2.2.1 6 (by simp), gv3.2.2.1 7 (by simp)⟩, fun k k1 k2 => by
          obtain ⟨b1, b2, b3, b4, b5, b6⟩ := o1.1 k k2
          exact ⟨⟨by rw [A3, aO _ _ (by decide)]; exact b1, by rw [A3, aO _ _ (by decide)]; exact b2, by rw [A3, aO _ _ (by decide)]; exact b3, by rw [A3, aO _ _ (by decide)]; exact b4, by rw [A3, aO _ _ (by decide)]; exact b5⟩, fun k3 => by rw [A3, a21 k k3]; exact b6⟩⟩
        have sp3 := SP_k (Uw_st v w3) (Uw_bd v) sp kv
        have ol3 : OLDc u w3 n s := by
          refine ⟨fun k hk => ?_, fun i hi => ?_⟩
          · obtain ⟨b1, b2, b3, b4, b5, b6⟩ := o1.1 k (by omega)
            obtain ⟨c1, c2, c3, c4, c5, c6⟩ := ol.1 k hk
            exact ⟨by rw [A3, aO _ _ (by decide), b1]; exact c1, by rw [A3, aO _ _ (by decide), b2]; exact c2, by rw [A3, aO _ _ (by decide), b3]; exact c3, by rw [A3, aO _ _ (by decide), b4]; exact c4, by rw [A3, aO _ _ (by decide), b5]; exact c5, by rw [A3, a21 k (by omega), b6]; exact c6⟩
          · rw [A3, aO _ _ (by decide), o1.2 i (by omega)]; exact ol.2 i hi
        have stk3 : SGKc w3 s pp m mx2 z2 aa2 oo2 := STK_k (gv3.2.2.1 6 (by simp)) (Nat.le_refl _) (fun i hi => by rw [A3, aO _ _ (by decide)]; exact o1.2 i (by omega)) t6
        have e16 : A w3 16 (nn + 1) = 23 := by rw [A3, aO _ _ (by decide)]; exact f1
        have e18 : A w3 18 (nn + 1) = k := by rw [A3, aO _ _ (by decide)]; exact f3
        have e17 : TKc w3 (nn + 1) 0 (pp + 1) := ⟨t, by rw [A3, aO _ _ (by decide)]; exact f2, by omega, by omega⟩
        have stp : STPc w3 (Uw 1 o w3) (nn + 1) (pp + 1) (pp + 1) nn (nn + 1) qq qq (z + 1) aa oo (z2 + 1) aa2 oo2 := by
          refine Or.inr ⟨⟨rfl, by omega, rfl, rfl⟩, e17, ?_⟩
          rw [e16, e18]
          rcases t8 with ⟨k6, b1, b2, b3, b4⟩ | ⟨k16, b1, b2, b3, b4, b5⟩ | ⟨k6, k16, b1, b2, b3⟩
          · refine Or.inr (Or.inr (Or.inl ⟨rfl, k6, by omega, ?_, by omega, b2, b4.symm⟩))
            rw [b3, show z + 1 - 1 = z by omega, b1]
          · refine Or.inr (Or.inr (Or.inr (Or.inl ⟨rfl, k16, by omega, b4, ?_, by omega, b2, b3⟩)))
            rw [b5, show z + 1 - 1 = z by omega, b1]
          · exact Or.inr (Or.inr (Or.inr (Or.inr ⟨rfl, k6, k16, by omega, by omega, b2.symm, b3.symm⟩)))
        have hs3 : SGI u w3 c p n q o s pp (nn + 1) qq (j + 1) (nn + 1) m mx2 z2 aa2 oo2 first := ⟨g.tr gv3, ol3, h3, Or.inr ⟨hj1, by omega, l, pp + 1, nn, qq, z + 1, aa, oo, sp3, by rw [A3]; exact a21l, stp⟩, stk3, by rw [A3, a21 _ (by omega)]; exact f6⟩
        refine ok_mono (ih w3 pp (nn + 1) qq (j + 1) (nn + 1) m mx2 z2 aa2 oo2 hs3 (by omega) h2p (by omega)) (fun w r hw => ?_)
        obtain ⟨gw, hw⟩ := hw
        cases r with
        | inr k => exact ⟨gw, hw⟩
        | inl x =>
          obtain ⟨nn2, j2, l2, m2, mx3, z3, aa3, oo3, b1, b2, b3, b4, b5, b6⟩ := hw
          exact ⟨gw, nn2, j2, l2, m2, mx3, z3, aa3, oo3, b1, b2, by omega, by omega, by omega, b6⟩
      have e63 : OK (fun w r => KPG u w ∧ match r with
        | .inr k => k = 3
        | .inl x => ∃ nn2 j2 l2 m2 mx2 z2 aa2 oo2, x = I ((l2 : Nat) : Int) ∧ SGI u w c p n q o s pp nn2 qq j2 l2 m2 mx2 z2 aa2 oo2 first ∧ nn2 + m2 = nn + (m + 1) ∧ nn ≤ nn2 ∧ j ≤ j2 ∧ (m2 = 0 ∨ mx2 < rk ∨ (mx2 = 4 ∧ rk = 4))) (hb_Pa_closeSigns_63 N (hg_Pa_closeSigns N M) v (I ((s : Nat) : Int)) (I ((rk : Nat) : Int)) (I ((l : Nat) : Int)) (I ((t : Nat) : Int)) (I k) (I ((mx : Nat) : Int))) := by
        unfold hb_Pa_closeSigns_63
        exact ok_br.mpr ⟨fun _ => ok_br.mpr ⟨fun _ => refuse_T hv (fun w gw => ⟨g.tr gw, rfl⟩), fun _ => e79⟩, fun _ => e79⟩
      rw [show (4 : Int32) = I 4 from rfl]
      refine k_eq ⟨by omega, by omega⟩ ⟨by omega, by omega⟩ (fun he => k_eq ⟨by omega, by omega⟩ ⟨by decide, by decide⟩ (fun h4 => stop (Or.inr (Or.inr ⟨by omega, by omega⟩))) (fun _ => e63)) (fun _ => e63)
end
end
section
set_option maxRecDepth 100000
section
variable {u v w : MS} {N c p n q o s p2 n2 q2 a b l lo hi r d most f t x q0 base first : Nat}
theorem OLDc.mo {s2 : Nat} (h : OLDc u w n s2) (hs : s ≤ s2) : OLDc u w n s := ⟨h.1, fun i hi => h.2 i (by omega)⟩
theorem SP_first {E : Nat → Nat → Nat → Nat → Nat → Nat → Nat → Prop} (hb : BdE E) : ∀ {j l x c r s : Nat} {aa oo : Option Nat}, SPc u E n lo a q j l x c r s aa oo → a < n ∧ n ≤ c
  | 0, _, _, _, _, _, _, _, h => h.elim
  | j + 1, l, x, c, r, s, aa, oo, h => by
    rcases h with ⟨h1, h2, h0, h3⟩ | ⟨h1, h0, l2, x2, c2, r2, s2, aa2, oo2, h2, h3, h4⟩
    · have := (STP_hd hb h3).1; omega
    · have := (STP_hd hb h4).1
      have := SP_first hb h2
      omega
theorem SP_tk {E : Nat → Nat → Nat → Nat → Nat → Nat → Nat → Prop} (hb : BdE E) : ∀ {j l x c r s : Nat} {aa oo : Option Nat}, SPc u E n lo a q j l x c r s aa oo → lo + 2 ≤ x ∧ 5 * r + lo + 2 ≤ 5 * q + x
  | 0, _, _, _, _, _, _, _, h => h.elim
  | j + 1, l, x, c, r, s, aa, oo, h => by
    rcases h with ⟨h1, h2, h0, h3⟩ | ⟨h1, h0, l2, x2, c2, r2, s2, aa2, oo2, h2, h3, h4⟩
    · rcases h3 with ⟨⟨m, e1, e2⟩, -⟩ | ⟨-, -, st⟩
      · have := hb _ _ _ _ _ _ _ e1
        unfold HDc at this
        omega
      · exfalso
        rcases st with ⟨-, -, st, -⟩ | ⟨-, -, st, -⟩ | ⟨-, -, st, -⟩ | ⟨-, -, st, -⟩ | ⟨-, -, -, st, -⟩ <;> omega
    · have := STP_hd hb h4
      have := SP_tk hb h2
      omega
theorem signed_okc {S : SF_Pa_matched} (ho : o ≤ 25)
    (hu : ∀ u c p n q s, PSI u c p n q o s → OK (fun w r => NDQ (fun w m lo hi a b q r => Uw 1 o w m lo hi a b q r ∧ A w 21 m = 0) u c p n q o s w r) (S.2.2.2.2.2.2.2.2.2.2.2.2.1 u))
    (h : PSI u c p n q o s) (hN : 10000 ≤ N) : OK (fun w r => NDQ (fun w m lo hi a b q r => Uw 2 o w m lo hi a b q r ∧ A w 21 m = 0) u c p n q o s w r) (hm_Pa_signed N S u) := by
  have hc := h.1.1
  have h2p := h.2.2.1.2
  have e155 : ∀ (M pp nn qq j l m mx z al : Nat) (aa oo : Option Nat) (first : Nat) (v : MS), SGI u v c p n q o s pp nn qq j l m mx z aa oo first → ((al = 1 ∧ j = 1 ∧ m = 0 ∧ l = first) ∨ (al = 0 ∧ nn + m + 2 + 2 * p ≤ n + 2 * pp)) → nn + m + 1 + 2 * p ≤ n + 2 * pp → OK (fun w r => NDQ (fun w m lo hi a b q r => Uw 2 o w m lo hi a b q r ∧ A w 21 m = 0) u c p n q o s w r) (hb_Pa_signed_155 N S (hg_Pa_signed N S M) v (I ((p : Nat) : Int)) (I ((s : Nat) : Int)) (I ((first : Nat) : Int)) (I ((l : Nat) : Int)) (I ((al : Nat) : Int))) := by
    intro M pp nn qq j l m mx z al aa oo first v hs hal hcnt
    have hs' := hs
    obtain ⟨g, ol, hv, sp, stk, l0⟩ := hs
    have ppc := hv.2.1.2
    unfold hb_Pa_signed_155
    rcases hal with ⟨h1, h2, h3, h4⟩ | ⟨h1, h2⟩
    · subst h1 h2 h3 h4
      refine ok_br.mpr ⟨fun z => absurd z (by decide), fun _ => ok_some.mpr ?_⟩
      rcases sp with ⟨-, -, -, st⟩ | ⟨h1, -⟩
      · rcases st with ⟨⟨mm, e1, e2⟩, -⟩ | ⟨-, -, st⟩
        · have e3 : mm = pp := by omega
          subst e3
          have hd := (Uw_bd v _ _ _ _ _ _ _ e1).2.1
          exact ⟨g, l, mm, nn, qq, rfl, ol, hv, by omega, XP_k (by omega) (by omega) _ _ _ _ _ _ _ e1 (KN_old KPG.rf (OLDc.rf (n := nn) (s := 0)) (Nat.le_refl _)), l0⟩
        · exfalso
          rcases st with ⟨-, -, st, -⟩ | ⟨-, -, st, -⟩ | ⟨-, -, st, -⟩ | ⟨-, -, st, -⟩ | ⟨-, -, -, st, -⟩ <;> omega
      · exact absurd h1 (by decide)
    · subst h1
      refine ok_br.mpr ⟨fun _ => ?_, fun z => absurd z (by decide)⟩
      rw [show (0 : Int32) = I ((0 : Nat) : Int) from rfl]
      have hm4 : m ≤ 4000 := by have := hv.2.2.2.2.2.2; omega
      refine ok_T (ok_mono (closeS_ok (N := N) (rk := 0) hN (by omega) N v pp nn qq j l m mx z aa oo hs' hcnt h2p (by omega)) (fun w r hw => ?_))
      obtain ⟨gw, hw⟩ := hw
      cases r with
      | inr k => exact ⟨gw, hw⟩
      | inl x =>
        obtain ⟨nn2, j2, l2, m2, mx2, z2, aa2, oo2, rfl, ⟨-, ol2, hv2, sp2, stk2, l20⟩, b3, b4, b5, b6⟩ := hw
        have m20 : m2 = 0 := by
          rcases b6 with b6 | b6 | b6
          · exact b6
          · omega
          · omega
        subst m20
        obtain ⟨-, rfl, rfl, rfl⟩ := stk2
        have sh := SP_hd (Uw_bd w) sp2
        have stk2 := SP_tk (Uw_bd w) sp2
        have n2b : nn2 ≤ 8000 := by have := hv2.2.2.1.2; omega
        have fb : first ≤ 8015 := by have := SP_first (Uw_bd w) sp2; omega
        rw [show (22 : Int32) = I 22 from rfl]
        refine add_B hv2 (by omega) ⟨by decide, by decide⟩ ⟨by omega, by omega⟩ ⟨by omega, by omega⟩ ⟨by decide, by decide⟩ ⟨by decide, by decide⟩ (fun w6 g6 o6 h6 fa => ok_some.mpr ?_)
        obtain ⟨f1, f2, f3, f4, f5, f6⟩ := fa
        have sf : SFc w (Uw 1 o w) pp nn2 qq j2 first p n q 0 none none := by
          have := SF_app (i := 0) (n2 := 0) (hi := pp) (b := nn2) (r2 := qq) sp2 (by rw [l20]; rfl) ⟨rfl, rfl, rfl, rfl, rfl, rfl, rfl⟩
          exact this
        refine ⟨gw.tr g6, nn2 + 1, pp, nn2 + 1, qq, rfl, OLDc.tr ol2 (OLDc.mo o6 (by omega)) (by omega), h6, by omega, ?_, f6⟩
        exact ⟨⟨⟨by omega, by omega⟩, by omega, by omega, by omega, by omega⟩, ⟨p, f2, by omega, by omega⟩, ho, Or.inr (Or.inr (Or.inr (Or.inr (Or.inr (Or.inr (Or.inr (Or.inr (Or.inr (Or.inr (Or.inr (Or.inr (Or.inr (Or.inr (Or.inr (Or.inr ⟨f1, Nat.le_refl _, j2, first, nn2, f3, SF_k (Uw_st w w6) (Uw_bd w) sf (KN_old g6 o6 (Nat.le_refl _)), by omega⟩)))))))))))))))⟩
  have gen : ∀ (M pp nn qq j l m mx z al i : Nat) (aa oo : Option Nat) (first : Nat) (v : MS), SGI u v c p n q o s pp nn qq j l m mx z aa oo first → ((al = 1 ∧ j = 1 ∧ m = 0 ∧ l = first) ∨ (al = 0 ∧ nn + m + 2 + 2 * p ≤ n + 2 * pp)) → nn + m + 1 + 2 * p ≤ n + 2 * pp → i + p ≤ pp → 4001 < M + pp → OK (fun w r => NDQ (fun w m lo hi a b q r => Uw 2 o w m lo hi a b q r ∧ A w 21 m = 0) u c p n q o s w r) (hg_Pa_signed N S M v (I ((p : Nat) : Int)) (I ((s : Nat) : Int)) (I ((first : Nat) : Int)) (I ((l : Nat) : Int)) (I ((al : Nat) : Int)) (I ((i : Nat) : Int))) := by
    intro M
    induction M with
    | zero =>
      intro pp nn qq j l m mx z al i aa oo first v hs
      have := hs.2.2.1.2.1.2
      omega
    | succ M ih =>
      intro pp nn qq j l m mx z al i aa oo first v hs hal hcnt hi hM
      have hs' := hs
      obtain ⟨g, ol, hv, sp, stk, l0⟩ := hs
      have ppc := hv.2.1.2
      have smp := hv.2.2.2.2.2.2
      show OK _ (hb_Pa_signed_24 N S (hg_Pa_signed N S M) v (I ((p : Nat) : Int)) (I ((s : Nat) : Int)) (I ((first : Nat) : Int)) (I ((l : Nat) : Int)) (I ((al : Nat) : Int)) (I ((i : Nat) : Int)))
      unfold hb_Pa_signed_24
      rw [show (4000 : Int32) = I 4000 from rfl]
      refine k_le ⟨by decide, by decide⟩ ⟨by omega, by omega⟩ (fun _ => e155 M pp nn qq j l m mx z al aa oo first v hs' hal hcnt) (fun hlt => look_T hv (fun w gw => ⟨g.tr gw, rfl⟩) (fun h45 => ?_))
      have tr := tk_rng hv.1 ppc
      have rk6 := rk_le (A v 6 pp)
      rw [rank_e tr, bnd_so, lit0q]
      refine k_le ⟨by omega, by omega⟩ ⟨by decide, by decide⟩ (fun _ => e155 M pp nn qq j l m mx z al aa oo first v hs' hal hcnt) (fun hrk => look_T hv (fun w gw => ⟨g.tr gw, rfl⟩) (fun _ => ?_))
      rw [rank_e tr, bnd_so]
      have k0 : A v 6 pp ≠ 0 := fun z => by rw [z] at hrk; exact absurd hrk (by decide)
      have hm4 : m ≤ 4000 := by omega
      refine ok_T (ok_mono (closeS_ok (N := N) (rk := rnkc (A v 6 pp)) hN rk6 N v pp nn qq j l m mx z aa oo hs' hcnt h2p (by omega)) (fun w r hw => ?_))
      obtain ⟨gw, hw⟩ := hw
      cases r with
      | inr k => exact ⟨gw, hw⟩
      | inl x =>
        obtain ⟨nn2, j2, l2, m2, mx2, z2, aa2, oo2, rfl, ⟨gu, ol2, hv2, sp2, stk2, l20⟩, b3, b4, b5, b6⟩ := hw
        have sm2 := hv2.2.2.2.2.2.2
        have e6 : A w 6 pp = A v 6 pp := by rw [gu.a6, ← g.a6]
        show OK _ (ck (inb (w.1 664) 4002) _)
        rw [show w.1 664 = I ((s + m2 : Nat) : Int) by rw [I_F (k := 664), hv2.2.2.2.2.2.1], show w.1 665 = I ((pp : Nat) : Int) by rw [I_F (k := 665), hv2.2.1.1]]
        refine e_in ⟨by omega, by omega⟩ (by decide) (ok_lt.mpr ?_)
        rw [tnI (n := s + m2) rfl (by omega), wa_e]
        refine ok_lt.mpr ?_
        rw [show (wa w 34 (s + m2) ((pp : Nat) : Int)).1 664 = I ((s + m2 : Nat) : Int) by show w.1 664 = _; rw [I_F (k := 664), hv2.2.2.2.2.2.1], lit1q, I_add, show ((s + m2 : Nat) : Int) + 1 = ((s + (m2 + 1) : Nat) : Int) by omega, wi_e]
        have g3 : KPG w (wi (wa w 34 (s + m2) ((pp : Nat) : Int)) 664 ((s + (m2 + 1) : Nat) : Int)) := FR.wi (FR.wa FR.rf (by simp)) (by simp)
        have A3 : ∀ r k, r ≠ 34 → A (wi (wa w 34 (s + m2) ((pp : Nat) : Int)) 664 ((s + (m2 + 1) : Nat) : Int)) r k = A w r k := fun r k hr => wa_rne hr
        have A34 : ∀ k, k ≠ s + m2 → A (wi (wa w 34 (s + m2) ((pp : Nat) : Int)) 664 ((s + (m2 + 1) : Nat) : Int)) 34 k = A w 34 k := fun k hk => wa_ne hk
        have A34e : A (wi (wa w 34 (s + m2) ((pp : Nat) : Int)) 664 ((s + (m2 + 1) : Nat) : Int)) 34 (s + m2) = ((pp : Nat) : Int) := wa_eq ⟨by omega, by omega⟩
        have eF : ∀ k, k ≠ 664 → F (wi (wa w 34 (s + m2) ((pp : Nat) : Int)) 664 ((s + (m2 + 1) : Nat) : Int)) k = F w k := fun k hk => by rw [F_wi (by omega) (by omega), if_neg hk]; rfl
        have eF4 : F (wi (wa w 34 (s + m2) ((pp : Nat) : Int)) 664 ((s + (m2 + 1) : Nat) : Int)) 664 = ((s + (m2 + 1) : Nat) : Int) := by rw [F_wi (by omega) (by omega), if_pos rfl]
        generalize wi (wa w 34 (s + m2) ((pp : Nat) : Int)) 664 ((s + (m2 + 1) : Nat) : Int) = w3 at g3 A3 A34 A34e eF eF4
        have hlt3 : pp < c := by
          rcases Nat.lt_or_ge pp c with z | z
          · exact z
          · have e : pp = c := by omega
            rw [e] at k0 h45
            rcases hv.1.2.1 with z | z
            · exact absurd z k0
            · exact absurd z h45
        have P3 : F w3 665 = ((pp : Nat) : Int) ∧ F w3 306 = ((nn2 : Nat) : Int) ∧ F w3 449 = F w 449 ∧ F w3 666 = F w 666 := ⟨by rw [eF 665 (by decide)]; exact hv2.2.1.1, by rw [eF 306 (by decide)]; exact hv2.2.2.1.1, eF 449 (by decide), eF 666 (by decide)⟩
        have kw3 : ∀ {a b l}, KNc w w3 a b l := fun {a b l} => ⟨⟨g3.2.2.1 6 (by simp), g3.2.2.1 7 (by simp)⟩, fun k _ _ => ⟨⟨A3 _ _ (by decide), A3 _ _ (by decide), A3 _ _ (by decide), A3 _ _ (by decide), A3 _ _ (by decide)⟩, fun _ => A3 _ _ (by decide)⟩⟩
        have sp3 := SP_k (Uw_st w w3) (Uw_bd w) sp2 kw3
        have a63 : A w3 6 pp = A v 6 pp := by rw [g3.a6]; exact e6
        have stk3 : SGKc w3 s (pp + 1) m2 mx2 z2 aa2 oo2 := STK_k (g3.2.2.1 6 (by simp)) (by omega) (fun i hi => A34 i (by omega)) stk2
        have smx := STK_mx stk2
        have ord : mx2 < rnkc (A v 6 pp) ∨ (mx2 = 4 ∧ rnkc (A v 6 pp) = 4) := by
          rcases b6 with b6 | b6 | b6
          · subst b6
            have := stk2.1
            omega
          · exact Or.inl b6
          · exact Or.inr b6
        have e127 : ∀ (v3 : MS) (nn3 j3 l3 z' : Nat) (aa' oo' : Option Nat), KPG w3 v3 → (∀ k, k ≤ n → A v3 16 k = A u 16 k ∧ A v3 17 k = A u 17 k ∧ A v3 18 k = A u 18 k ∧ A v3 19 k = A u 19 k ∧ A v3 20 k = A u 20 k ∧ A v3 21 k = A u 21 k) → (∀ i, i < s + (m2 + 1) → A v3 34 i = A w3 34 i) → (F v3 665 = ((pp : Nat) : Int) ∧ F v3 306 = ((nn3 : Nat) : Int) ∧ F v3 449 = F w 449 ∧ F v3 666 = F w 666 ∧ F v3 664 = ((s + (m2 + 1) : Nat) : Int)) → 1 ≤ j3 → SPc v3 (Uw 1 o v3) first p n q j3 l3 (pp + 1) nn3 qq z' aa' oo' → SGKc w3 s (pp + 1) (m2 + 1) (rnkc (A v 6 pp)) z' aa' oo' → A v3 21 l3 = 0 → nn3 ≤ nn2 + 1 → OK (fun w r => NDQ (fun w m lo hi a b q r => Uw 2 o w m lo hi a b q r ∧ A w 21 m = 0) u c p n q o s w r) (hb_Pa_signed_127 N S (hg_Pa_signed N S M) v3 (I ((p : Nat) : Int)) (I ((s : Nat) : Int)) (I ((first : Nat) : Int)) (I ((l3 : Nat) : Int)) (0 : Int32) (I ((i : Nat) : Int))) := by
          intro v3 nn3 j3 l3 z' aa' oo' gv3 old3 sg3 P hj3 sp4 stk4 l30 hn3
          unfold hb_Pa_signed_127
          refine ok_lt.mpr ?_
          rw [show v3.1 665 = I ((pp : Nat) : Int) by rw [I_F (k := 665), P.1], lit1q, I_add, show ((pp : Nat) : Int) + 1 = ((pp + 1 : Nat) : Int) by omega, wi_e]
          have g4 : KPG v3 (wi v3 665 ((pp + 1 : Nat) : Int)) := KPG_at
          have r4 : (wi v3 665 ((pp + 1 : Nat) : Int)).2.2.1 = v3.2.2.1 := rfl
          have h4 : PSI (wi v3 665 ((pp + 1 : Nat) : Int)) c (pp + 1) nn3 qq o (s + (m2 + 1)) := by
            have e : ∀ k, k ≠ 665 → F (wi v3 665 ((pp + 1 : Nat) : Int)) k = F v3 k := fun k hk => by rw [F_wi (by omega) (by omega), if_neg hk]
            exact ⟨TKK_g (g3.tr (gv3.tr g4)) hv2.1, ⟨by rw [F_wi (by omega) (by omega), if_pos rfl], by omega⟩, ⟨by rw [e 306 (by decide)]; exact P.2.1, by omega⟩, by rw [e 449 (by decide), P.2.2.1]; exact hv2.2.2.2.1, ⟨by rw [e 666 (by decide), P.2.2.2.1]; exact hv2.2.2.2.2.1.1, ho⟩, by rw [e 664 (by decide)]; exact P.2.2.2.2, by omega⟩
          generalize wi v3 665 ((pp + 1 : Nat) : Int) = v4 at g4 r4 h4
          have A4 : ∀ r k, A v4 r k = A v3 r k := fun r k => by show (v4.2.2.1 r k).toInt = _; rw [r4]; rfl
          refine ok_T (ok_mono (hu v4 c (pp + 1) nn3 qq (s + (m2 + 1)) h4) (fun w5 r hw5 => ?_))
          obtain ⟨g5, hw5⟩ := hw5
          cases r with
          | inr k => exact ⟨gu.tr (g3.tr (gv3.tr (g4.tr g5))), hw5⟩
          | inl x5 =>
            obtain ⟨m5, p5, n5, q5, rfl, ol5, hv5, hp5, em, m50⟩ := hw5
            have hd := Uw_bd w5 _ _ _ _ _ _ _ em
            unfold HDc at hd
            have n5b : n5 ≤ 8000 := by have := hv5.2.2.1.2; have := hv5.2.1.2; omega
            have p5c := hv5.2.1.2
            have sh := SP_hd (Uw_bd v3) sp4
            show OK _ (bnd (hm_Pa_chain N w5 (I ((l3 : Nat) : Int)) (I ((m5 : Nat) : Int))) _)
            rw [chain_e (by omega), bnd_so, I_add, show ((i : Nat) : Int) + 1 = ((i + 1 : Nat) : Int) by omega]
            have g6 : KPG w5 (wa w5 21 l3 ((m5 : Nat) : Int)) := FR.wa FR.rf (by simp)
            have a21 : ∀ k, k ≠ l3 → A (wa w5 21 l3 ((m5 : Nat) : Int)) 21 k = A w5 21 k := fun k hk => wa_ne hk
            have aO : ∀ r k, r ≠ 21 → A (wa w5 21 l3 ((m5 : Nat) : Int)) r k = A w5 r k := fun r k hr => wa_rne hr
            have a21l : A (wa w5 21 l3 ((m5 : Nat) : Int)) 21 l3 = ((m5 : Nat) : Int) := wa_eq ⟨by omega, by omega⟩
            have h6 : PSI (wa w5 21 l3 ((m5 : Nat) : Int)) c p5 n5 q5 o (s + (m2 + 1)) := ⟨TKK_g g6 hv5.1, hv5.2⟩
            generalize wa w5 21 l3 ((m5 : Nat) : Int) = w6 at g6 a21 aO a21l h6
            have gv36 : KPG v3 w6 := g4.tr (g5.tr g6)
            have kv : KNc v3 w6 n nn3 l3 := ⟨⟨gv36.2.2.1 6 (by simp), gv36.2.2.1 7 (by simp)⟩, fun k k1 k2 => by
              obtain ⟨b1, b2, b3, b4, b5, b6⟩ := ol5.1 k k2
              exact ⟨⟨by rw [aO _ _ (by decide), b1, A4], by rw [aO _ _ (by decide), b2, A4], by rw [aO _ _ (by decide), b3, A4], by rw [aO _ _ (by decide), b4, A4], by rw [aO _ _ (by decide), b5, A4]⟩, fun k3 => by rw [a21 k k3, b6, A4]⟩⟩
            have kw : KNc w5 w6 nn3 n5 m5 := ⟨⟨g6.2.2.1 6 (by simp), g6.2.2.1 7 (by simp)⟩, fun k k1 k2 => ⟨⟨aO _ _ (by decide), aO _ _ (by decide), aO _ _ (by decide), aO _ _ (by decide), aO _ _ (by decide)⟩, fun k3 => a21 k (by omega)⟩⟩
            have sp6 := SP_k (Uw_st v3 w6) (Uw_bd v3) sp4 kv
            have em6 := Uw_st w5 w6 _ _ _ _ _ _ _ em kw
            have ol6 : OLDc u w6 n s := by
              refine ⟨fun k hk => ?_, fun i hi => ?_⟩
              · obtain ⟨b1, b2, b3, b4, b5, b6⟩ := ol5.1 k (by omega)
                obtain ⟨c1, c2, c3, c4, c5, c6⟩ := old3 k hk
                exact ⟨by rw [aO _ _ (by decide), b1, A4]; exact c1, by rw [aO _ _ (by decide), b2, A4]; exact c2, by rw [aO _ _ (by decide), b3, A4]; exact c3, by rw [aO _ _ (by decide), b4, A4]; exact c4, by rw [aO _ _ (by decide), b5, A4]; exact c5, by rw [a21 k (by omega), b6, A4]; exact c6⟩
              · rw [aO _ _ (by decide), ol5.2 i (by omega), A4, sg3 i (by omega), A34 i (by omega)]; exact ol2.2 i hi
            have stk6 : SGKc w6 s p5 (m2 + 1) (rnkc (A v 6 pp)) z' aa' oo' := STK_k ((gv36.2.2.1 6 (by simp)).trans (gv3.2.2.1 6 (by simp))) (by omega) (fun i hi => by rw [aO _ _ (by decide), ol5.2 i (by omega), A4, sg3 i (by omega)]) stk4
            have hs6 : SGI u w6 c p n q o s p5 n5 q5 (j3 + 1) m5 (m2 + 1) (rnkc (A v 6 pp)) z' aa' oo' first := ⟨gu.tr (g3.tr (gv3.tr gv36)), ol6, h6, Or.inr ⟨hj3, by omega, l3, pp + 1, nn3, qq, z', aa', oo', sp6, a21l, Or.inl ⟨⟨p5, em6, rfl⟩, rfl, rfl, rfl⟩⟩, stk6, by rw [a21 _ (by omega)]; exact m50⟩
            exact ih p5 n5 q5 (j3 + 1) m5 (m2 + 1) (rnkc (A v 6 pp)) z' 0 (i + 1) aa' oo' first w6 hs6 (Or.inr ⟨rfl, by omega⟩) (by omega) (by omega) (by omega)
        have old3 : ∀ k, k ≤ n → A w3 16 k = A u 16 k ∧ A w3 17 k = A u 17 k ∧ A w3 18 k = A u 18 k ∧ A w3 19 k = A u 19 k ∧ A w3 20 k = A u 20 k ∧ A w3 21 k = A u 21 k := fun k hk => by
          obtain ⟨c1, c2, c3, c4, c5, c6⟩ := ol2.1 k hk
          exact ⟨by rw [A3 _ _ (by decide)]; exact c1, by rw [A3 _ _ (by decide)]; exact c2, by rw [A3 _ _ (by decide)]; exact c3, by rw [A3 _ _ (by decide)]; exact c4, by rw [A3 _ _ (by decide)]; exact c5, by rw [A3 _ _ (by decide)]; exact c6⟩
        have hj2 : 1 ≤ j2 := by
          cases j2 with
          | zero => exact sp2.elim
          | succ j => omega
        have rk1 : 1 ≤ rnkc (A v 6 pp) := by omega
        have hv3 : PSI w3 c pp nn2 qq o (s + (m2 + 1)) ∨ True := Or.inr trivial
        have e102 : ∀ (k : Int), A v 6 pp = k → ((k = 6 ∧ aa2 = none) ∨ (k = 16 ∧ aa2 = none ∧ oo2 = none)) → OK (fun w r => NDQ (fun w m lo hi a b q r => Uw 2 o w m lo hi a b q r ∧ A w 21 m = 0) u c p n q o s w r) (hb_Pa_signed_102 N S (hg_Pa_signed N S M) w3 (I ((p : Nat) : Int)) (I ((s : Nat) : Int)) (I ((first : Nat) : Int)) (I ((l2 : Nat) : Int)) (0 : Int32) (I ((i : Nat) : Int)) (I k)) := fun k ek hk => by
          unfold hb_Pa_signed_102
          have hw3 : PSI w3 c pp nn2 qq o 0 ∨ True := Or.inr trivial
          have sh := SP_hd (Uw_bd w3) sp3
          rw [show w3.1 665 = I ((pp : Nat) : Int) by rw [I_F (k := 665), P3.1], show (24 : Int32) = I 24 from rfl, lit0q]
          obtain ⟨w4, ea, g4, o4, ⟨zz, e2, e3⟩, f1, f2, f3, f4, f5, f6⟩ := add_ok2 (N := N) (s := s + (m2 + 1)) (x1 := 24) (x2 := ((pp : Nat) : Int)) (x3 := k) (x4 := 0) (x5 := 0) P3.2.1 (by omega) ⟨by decide, by decide⟩ ⟨by omega, by omega⟩ ⟨by omega, by omega⟩ ⟨by decide, by decide⟩ ⟨by decide, by decide⟩
          rw [ea, bnd_so]
          have eF4' : ∀ k, k ≠ 306 → F w4 k = F w3 k := fun k hk => by show (w4.1 k).toInt = _; rw [e2, e3]; show F (wi w3 306 _) k = _; rw [F_wi (by omega) (by omega), if_neg hk]
          have e306 : F w4 306 = ((nn2 + 1 : Nat) : Int) := by show (w4.1 306).toInt = _; rw [e2, e3]; show F (wi w3 306 _) 306 = _; rw [F_wi (by omega) (by omega), if_pos rfl]
          have n2b : nn2 ≤ 8000 := by have := hv2.2.2.1.2; omega
          rw [chain_e (by omega), bnd_so]
          have g6 : KPG w4 (wa w4 21 l2 ((nn2 + 1 : Nat) : Int)) := FR.wa FR.rf (by simp)
          have a21 : ∀ k, k ≠ l2 → A (wa w4 21 l2 ((nn2 + 1 : Nat) : Int)) 21 k = A w4 21 k := fun k hk => wa_ne hk
          have aO : ∀ r k, r ≠ 21 → A (wa w4 21 l2 ((nn2 + 1 : Nat) : Int)) r k = A w4 r k := fun r k hr => wa_rne hr
          have a21l : A (wa w4 21 l2 ((nn2 + 1 : Nat) : Int)) 21 l2 = ((nn2 + 1 : Nat) : Int) := wa_eq ⟨by omega, by omega⟩
          have F6 : ∀ k, F (wa w4 21 l2 ((nn2 + 1 : Nat) : Int)) k = F w4 k := fun _ => rfl
          generalize wa w4 21 l2 ((nn2 + 1 : Nat) : Int) = w6 at g6 a21 aO a21l F6
          have g36 : KPG w3 w6 := g4.tr g6
          have kv : KNc w3 w6 n nn2 l2 := ⟨⟨g36.2.2.1 6 (by simp), g36.2.2.1 7 (by simp)⟩, fun k k1 k2 => by
            obtain ⟨b1, b2, b3, b4, b5, b6⟩ := o4.1 k k2
            exact ⟨⟨by rw [aO _ _ (by decide)]; exact b1, by rw [aO _ _ (by decide)]; exact b2, by rw [aO _ _ (by decide)]; exact b3, by rw [aO _ _ (by decide)]; exact b4, by rw [aO _ _ (by decide)]; exact b5⟩, fun k3 => by rw [a21 k k3]; exact b6⟩⟩
          have sp6 := SP_k (Uw_st w3 w6) (Uw_bd w3) sp3 kv
          have e16 : A w6 16 (nn2 + 1) = 24 := by rw [aO _ _ (by decide)]; exact f1
          have e18 : A w6 18 (nn2 + 1) = k := by rw [aO _ _ (by decide)]; exact f3
          have e17 : TKc w6 (nn2 + 1) 0 (pp + 1) := ⟨pp, by rw [aO _ _ (by decide)]; exact f2, by omega, by omega⟩
          have old6 : ∀ k, k ≤ n → A w6 16 k = A u 16 k ∧ A w6 17 k = A u 17 k ∧ A w6 18 k = A u 18 k ∧ A w6 19 k = A u 19 k ∧ A w6 20 k = A u 20 k ∧ A w6 21 k = A u 21 k := fun k hk => by
            obtain ⟨b1, b2, b3, b4, b5, b6⟩ := o4.1 k (by omega)
            obtain ⟨c1, c2, c3, c4, c5, c6⟩ := old3 k hk
            exact ⟨by rw [aO _ _ (by decide), b1]; exact c1, by rw [aO _ _ (by decide), b2]; exact c2, by rw [aO _ _ (by decide), b3]; exact c3, by rw [aO _ _ (by decide), b4]; exact c4, by rw [aO _ _ (by decide), b5]; exact c5, by rw [a21 k (by omega), b6]; exact c6⟩
          have P6 : F w6 665 = ((pp : Nat) : Int) ∧ F w6 306 = ((nn2 + 1 : Nat) : Int) ∧ F w6 449 = F w 449 ∧ F w6 666 = F w 666 ∧ F w6 664 = ((s + (m2 + 1) : Nat) : Int) := ⟨by rw [F6, eF4' 665 (by decide)]; exact P3.1, by rw [F6]; exact e306, by rw [F6, eF4' 449 (by decide)]; exact P3.2.2.1, by rw [F6, eF4' 666 (by decide)]; exact P3.2.2.2, by rw [F6, eF4' 664 (by decide)]; exact eF4⟩
          have sg6 : ∀ i, i < s + (m2 + 1) → A w6 34 i = A w3 34 i := fun i hi => by rw [aO _ _ (by decide)]; exact o4.2 i hi
          have top : A w3 34 (s + m2) = ((pp : Nat) : Int) ∧ pp < pp + 1 := ⟨A34e, by omega⟩
          have z1 : z2 + 1 - 1 = z2 := by omega
          rcases hk with ⟨hk, ha2⟩ | ⟨hk, ha2, ho2⟩
          · have stp : STPc w6 (Uw 1 o w6) (nn2 + 1) (pp + 1) (pp + 1) nn2 (nn2 + 1) qq qq (z2 + 1) aa2 oo2 z2 (some z2) oo2 := by
              refine Or.inr ⟨⟨rfl, by omega, rfl, rfl⟩, e17, Or.inl ⟨e16, by rw [e18]; exact hk, by omega, ha2, by omega, by rw [z1], rfl⟩⟩
            exact e127 w6 (nn2 + 1) (j2 + 1) (nn2 + 1) z2 (some z2) oo2 g36 old6 sg6 P6 (by omega) (Or.inr ⟨hj2, by omega, l2, pp + 1, nn2, qq, z2 + 1, aa2, oo2, sp6, a21l, stp⟩) ⟨pp, k, mx2, z2, aa2, oo2, top, by rw [a63]; exact ek, by rw [ek], rk1, stk3, ord, Or.inl ⟨hk, rfl, ha2, rfl, rfl⟩⟩ (by rw [a21 _ (by omega)]; exact f6) (by omega)
          · have stp : STPc w6 (Uw 1 o w6) (nn2 + 1) (pp + 1) (pp + 1) nn2 (nn2 + 1) qq qq (z2 + 1) aa2 oo2 z2 none (some z2) := by
              refine Or.inr ⟨⟨rfl, by omega, rfl, rfl⟩, e17, Or.inr (Or.inl ⟨e16, by rw [e18]; exact hk, by omega, ha2, ho2, by omega, rfl, by rw [z1]⟩)⟩
            exact e127 w6 (nn2 + 1) (j2 + 1) (nn2 + 1) z2 none (some z2) g36 old6 sg6 P6 (by omega) (Or.inr ⟨hj2, by omega, l2, pp + 1, nn2, qq, z2 + 1, aa2, oo2, sp6, a21l, stp⟩) ⟨pp, k, mx2, z2, aa2, oo2, top, by rw [a63]; exact ek, by rw [ek], rk1, stk3, ord, Or.inr (Or.inl ⟨hk, rfl, ha2, ho2, rfl, rfl⟩)⟩ (by rw [a21 _ (by omega)]; exact f6) (by omega)
        have na : ∀ {y : Nat}, (aa2 ≠ none → y ≤ mx2) → mx2 < y → aa2 = none := fun {y} h1 h2 => by
          cases aa2 with
          | none => rfl
          | some a => have := h1 (by simp); omega
        have no : (oo2 ≠ none → 1 ≤ mx2) → mx2 < 1 → oo2 = none := fun h1 h2 => by
          cases oo2 with
          | none => rfl
          | some a => have := h1 (by simp); omega
        rw [show (6 : Int32) = I 6 from rfl, show (16 : Int32) = I 16 from rfl]
        refine k_eq (A_r v 6 pp) ⟨by decide, by decide⟩ (fun e => ?_) (fun n6 => k_eq (A_r v 6 pp) ⟨by decide, by decide⟩ (fun e => ?_) (fun n16 => ?_))
        · have r2 : rnkc (A v 6 pp) = 2 := by rw [e]; rfl
          exact e102 _ rfl (Or.inl ⟨e, na smx.1 (by omega)⟩)
        · have r1 : rnkc (A v 6 pp) = 1 := by rw [e]; rfl
          exact e102 _ rfl (Or.inr ⟨e, na (y := 2) smx.1 (by omega), no smx.2 (by omega)⟩)
        · exact e127 w3 nn2 j2 l2 (z2 + 1) aa2 oo2 KPG.rf old3 (fun _ _ => rfl) ⟨P3.1, P3.2.1, P3.2.2.1, P3.2.2.2, eF4⟩ hj2 sp3 ⟨pp, A v 6 pp, mx2, z2, aa2, oo2, ⟨A34e, by omega⟩, a63, rfl, rk1, stk3, ord, Or.inr (Or.inr ⟨n6, n16, rfl, rfl, rfl⟩)⟩ (by rw [A3 _ _ (by decide)]; exact l20) (by omega)
  unfold hm_Pa_signed hb_Pa_signed_0
  rw [show u.1 665 = I ((p : Nat) : Int) by rw [I_F (k := 665), h.2.1.1], show u.1 664 = I ((s : Nat) : Int) by rw [I_F (k := 664), h.2.2.2.2.2.1]]
  refine ok_T (ok_mono (hu u c p n q s h) (fun w5 r hw5 => ?_))
  obtain ⟨g5, hw5⟩ := hw5
  cases r with
  | inr k => exact ⟨g5, hw5⟩
  | inl x2 =>
    obtain ⟨m, p5, n5, q5, rfl, ol5, hv5, hp5, em, m0⟩ := hw5
    have hd := Uw_bd w5 _ _ _ _ _ _ _ em
    unfold HDc at hd
    exact gen N p5 n5 q5 1 m 0 0 0 1 0 none none m w5 ⟨g5, ol5, hv5, Or.inl ⟨rfl, rfl, by omega, Or.inl ⟨⟨p5, em, rfl⟩, rfl, rfl, rfl⟩⟩, ⟨rfl, rfl, rfl, rfl⟩, m0⟩ (Or.inl ⟨rfl, rfl, rfl, rfl⟩) (by omega) (by omega) (by omega)
end
end
section
set_option maxRecDepth 100000
section
variable {u v w : MS} {N c p n q o s p2 n2 q2 a b l lo hi r d most f t x q0 base first cl : Nat}
def IPQ (u : MS) (R : Prop) (w : MS) (r : Int32) : Prop := w = u ∧ (r = 0 ∨ (r = 1 ∧ R))
theorem ip1 {R : Prop} (h : R) : OK (fun w r => IPQ u R w r) (ck (isb (1 : Int32)) (some (u, (1 : Int32)))) := ok_ck.mpr ⟨by decide, ok_some.mpr ⟨rfl, Or.inr ⟨rfl, h⟩⟩⟩
theorem ip0 {R : Prop} : OK (fun w r => IPQ u R w r) (ck (isb (0 : Int32)) (some (u, (0 : Int32)))) := ok_ck.mpr ⟨by decide, ok_some.mpr ⟨rfl, Or.inl rfl⟩⟩
theorem ipK {S : SF_Tr_isPattern} {k : Int} (hN : 10000 ≤ N) (hx : x ≤ 8015) (e : A u 16 x = k) (hk : 8 ≤ k ∧ k ≤ 25) (h17 : k ≠ 17) {R : Prop} : OK (fun w r => IPQ u R w r) (hm_Tr_isPattern N S u (I ((x : Nat) : Int))) := by
  unfold hm_Tr_isPattern hb_Tr_isPattern_0
  refine e_in ⟨by omega, by omega⟩ (by decide) ?_
  rw [tnI (n := x) rfl (by omega), I_A (k := 16), e]
  have cs : k = 8 ∨ k = 9 ∨ k = 10 ∨ k = 11 ∨ k = 12 ∨ k = 13 ∨ k = 14 ∨ k = 15 ∨ k = 16 ∨ k = 18 ∨ k = 19 ∨ k = 20 ∨ k = 21 ∨ k = 22 ∨ k = 23 ∨ k = 24 ∨ k = 25 := by omega
  rcases cs with rfl | rfl | rfl | rfl | rfl | rfl | rfl | rfl | rfl | rfl | rfl | rfl | rfl | rfl | rfl | rfl | rfl <;> exact ip0
theorem ip_row {S : SF_Tr_isPattern} {E P : Nat → Nat → Nat → Nat → Nat → Nat → Nat → Prop} {R : Prop} (hbd : BdE E) (hb : b ≤ 8015) (he : ∀ m lo hi a2 b2 q r, b2 ≤ 8015 → E m lo hi a2 b2 q r → OK (fun w r2 => IPQ u (P m lo hi a2 b2 q r) w r2) (S u (I ((m : Nat) : Int))))
    (hend : ∀ M, OK (fun w r => IPQ u R w r) (hb_Tr_isPattern_129 N S (hg_Tr_isPattern N S M) u (I ((x : Nat) : Int)) (I 0))) : ∀ (k M m lo a q : Nat), RWc u 1 E k m lo hi a b q r → k < M → OK (fun w r2 => IPQ u (RWc u 1 P k m lo hi a b q r ∧ R) w r2) (hg_Tr_isPattern N S M u (I ((x : Nat) : Int)) (I ((m : Nat) : Int))) := by
  intro k
  induction k with
  | zero => intro M m lo a q h; exact h.elim
  | succ k ih =>
    intro M m lo a q h hM
    obtain ⟨m2, c, s, e, h⟩ := h
    have g := (hbd _ _ _ _ _ _ _ e).1
    have hcb : c ≤ b := by
      rcases h with ⟨-, -, -, h, -⟩ | ⟨-, n2, -, h3⟩
      · omega
      · have := (RW_hd hbd h3).1.1; omega
    cases M with
    | zero => omega
    | succ M =>
      show OK _ (hb_Tr_isPattern_129 N S (hg_Tr_isPattern N S M) u (I ((x : Nat) : Int)) (I ((m : Nat) : Int)))
      unfold hb_Tr_isPattern_129
      refine k_eq (x := ((m : Nat) : Int)) (y := 0) ⟨by omega, by omega⟩ ⟨by decide, by decide⟩ (fun z => by omega) (fun _ => ?_)
      refine ok_bnd.mpr (ok_mono (he _ _ _ _ _ _ _ (by omega) e) (fun w r2 hw => ?_))
      obtain ⟨rfl, hr⟩ := hw
      rcases hr with rfl | ⟨rfl, hp⟩
      · refine ok_br.mpr ⟨fun _ => ip0, fun z => absurd z (by decide)⟩
      · refine ok_br.mpr ⟨fun z => absurd z (by decide), fun _ => ?_⟩
        refine e_in ⟨by omega, by omega⟩ (by decide) ?_
        rw [tnI (n := m) rfl (by omega), I_A (k := 21)]
        rcases h with ⟨h1, h2, h3, h4, h5⟩ | ⟨h1, n2, h2, h3⟩
        · rw [h2]
          cases M with
          | zero => omega
          | succ M =>
            refine ok_mono (hend M) (fun w3 r3 hw3 => ?_)
            obtain ⟨rfl, hr3⟩ := hw3
            refine ⟨rfl, ?_⟩
            rcases hr3 with hr3 | ⟨hr3, hr4⟩
            · exact Or.inl hr3
            · exact Or.inr ⟨hr3, ⟨m2, c, s, hp, Or.inl ⟨h1, h2, h3, h4, h5⟩⟩, hr4⟩
        · rw [h2]
          refine ok_mono (ih M n2 (m2 + 1) c s h3 (by omega)) (fun w3 r3 hw3 => ?_)
          obtain ⟨rfl, hr3⟩ := hw3
          refine ⟨rfl, ?_⟩
          rcases hr3 with hr3 | ⟨hr3, hr4, hr5⟩
          · exact Or.inl hr3
          · exact Or.inr ⟨hr3, ⟨m2, c, s, hp, Or.inr ⟨h1, n2, h2, hr4⟩⟩, hr5⟩
theorem ip6 {S : SF_Tr_isPattern} (hx : x ≤ 8015) (e : A u 16 x = 6) (M : Nat) : OK (fun w r => IPQ u True w r) (hb_Tr_isPattern_129 N S (hg_Tr_isPattern N S M) u (I ((x : Nat) : Int)) (I 0)) := by
  unfold hb_Tr_isPattern_129 hb_Tr_isPattern_186 hb_Tr_isPattern_191
  rw [show decide (I 0 = (0 : Int32)) = true from by decide, br_tq]
  refine e_in ⟨by omega, by omega⟩ (by decide) ?_
  rw [tnI (n := x) rfl (by omega), I_A (k := 16), e]
  exact ip1 trivial
theorem isPat_ok (hN : 10000 ≤ N) : ∀ (f d o cl x lo hi a b q r : Nat), f ≤ d → XPc u f o cl x lo hi a b q r → b ≤ 8015 → OK (fun w r2 => IPQ u (PAc u f x lo hi a b q r) w r2) (hrc_Tr_isPattern N d u (I ((x : Nat) : Int))) := by
  intro f
  induction f with
  | zero => intro d o cl x lo hi a b q r _ h; exact h.elim
  | succ f ih =>
    intro d o cl x lo hi a b q r hd h hb
    cases d with
    | zero => omega
    | succ d =>
      show OK _ (hm_Tr_isPattern N (hrc_Tr_isPattern N d) u (I ((x : Nat) : Int)))
      obtain ⟨h1, h2, h3, h4⟩ := h
      have hn := h1.1
      have he : ∀ o cl m lo hi a2 b2 q r, b2 ≤ 8015 → XPc u f o cl m lo hi a2 b2 q r → OK (fun w r2 => IPQ u (PAc u f m lo hi a2 b2 q r) w r2) (hrc_Tr_isPattern N d u (I ((m : Nat) : Int))) := fun o cl m lo hi a2 b2 q r hb2 h => ih d o cl m lo hi a2 b2 q r (by omega) h hb2
      rcases h4 with ⟨h4, h5, h6⟩ | ⟨h4, m, c, h5, h6, h7⟩ | ⟨h4, h5⟩ | ⟨h4, h5⟩ | ⟨h4, -⟩ | ⟨h4, -⟩ | ⟨h4, -⟩ | ⟨h4, -⟩ | ⟨h4, -⟩ | ⟨h4, -⟩ | ⟨h4, -⟩ | ⟨h4, -⟩ | ⟨h4, h5, m, c, h6, h7, h8⟩ | ⟨h4, -⟩ | ⟨h4, -⟩ | ⟨h4, -⟩ | ⟨h4, -⟩
      · have pa : PAc u (f + 1) x lo hi a b q r := ⟨h1, h2, h6, Or.inl ⟨h4, h5⟩⟩
        have e := h4.1
        unfold hm_Tr_isPattern hb_Tr_isPattern_0
        refine e_in ⟨by omega, by omega⟩ (by decide) ?_
        rw [tnI (n := x) rfl (by omega), I_A (k := 16), e]
        have cs : A u 6 lo = 1 ∨ A u 6 lo = 2 ∨ A u 6 lo = 3 ∨ A u 6 lo = 4 := by have := h4.2.1; omega
        rcases cs with e | e | e | e <;> (rw [e]; exact ip1 pa)
      · have b1 := (XP_bd _ _ _ _ _ _ _ _ _ _ h6).1
        unfold hm_Tr_isPattern hb_Tr_isPattern_0
        refine e_in ⟨by omega, by omega⟩ (by decide) ?_
        rw [tnI (n := x) rfl (by omega), I_A (k := 16), h4]
        show OK _ (ck (inb (I ((x : Nat) : Int)) 8016) (bnd (hrc_Tr_isPattern N d u (u.2.2.1 18 x)) (fun u21 r21 => ck (isb r21) (some (u21, r21)))))
        refine e_in ⟨by omega, by omega⟩ (by decide) ?_
        rw [I_A (k := 18), h5]
        refine ok_bnd.mpr (ok_mono (he _ _ _ _ _ _ _ _ _ (by omega) h6) (fun w r2 hw => ?_))
        obtain ⟨rfl, hr⟩ := hw
        rcases hr with rfl | ⟨rfl, hp⟩
        · exact ip0
        · exact ip1 ⟨h1, h2, PAq hp, Or.inr (Or.inr (Or.inl ⟨h4, m, c, h5, hp, h7⟩))⟩
      · obtain ⟨k, m, c, h6, h7, h8, h9, h10⟩ := h5
        unfold hm_Tr_isPattern hb_Tr_isPattern_0
        refine e_in ⟨by omega, by omega⟩ (by decide) ?_
        rw [tnI (n := x) rfl (by omega), I_A (k := 16), h4]
        show OK _ (ck (inb (I ((x : Nat) : Int)) 8016) (hg_Tr_isPattern N (hrc_Tr_isPattern N d) N u (I ((x : Nat) : Int)) (u.2.2.1 18 x)))
        refine e_in ⟨by omega, by omega⟩ (by decide) ?_
        rw [I_A (k := 18), h6]
        have pa : ORc u 1 (PAc u f) k m (lo + 1) (hi - 1) a c q r → PAc u (f + 1) x lo hi a b q r := fun z => ⟨h1, h2, ORq (fun _ _ _ _ _ _ _ h => PAq h) z, Or.inr (Or.inr (Or.inr (Or.inl ⟨h4, k, m, c, h6, h7, h8, z, h10⟩)))⟩
        rcases h9 with h9 | ⟨h9, h11⟩
        · rw [h9.2.1]
          cases N with
          | zero => omega
          | succ N' =>
            refine ok_mono (ip6 (N := N' + 1) (by omega) h4 N') (fun w r2 hw => ?_)
            obtain ⟨rfl, hr⟩ := hw
            refine ⟨rfl, ?_⟩
            rcases hr with hr | ⟨hr, -⟩
            · exact Or.inl hr
            · exact Or.inr ⟨hr, pa (Or.inl h9)⟩
        · have rh := (RW_hd (XP_bd _ _ _) h11).1
          refine ok_mono (ip_row (N := N) (R := True) (XP_bd _ _ _) (by omega) (fun m lo hi a2 b2 q r hb2 h => he _ _ _ _ _ _ _ _ _ hb2 h) (fun M => ip6 (by omega) h4 M) k N m (lo + 1) a q h11 (by omega)) (fun w r2 hw => ?_)
          obtain ⟨rfl, hr⟩ := hw
          refine ⟨rfl, ?_⟩
          rcases hr with hr | ⟨hr, hr2, -⟩
          · exact Or.inl hr
          · exact Or.inr ⟨hr, pa (Or.inr ⟨h9, hr2⟩)⟩
      · obtain ⟨k, m, mid, c, s, h6, h7, h8, h9, h10⟩ := h5
        unfold hm_Tr_isPattern hb_Tr_isPattern_0
        refine e_in ⟨by omega, by omega⟩ (by decide) ?_
        rw [tnI (n := x) rfl (by omega), I_A (k := 16), h4]
        show OK _ (ck (inb (I ((x : Nat) : Int)) 8016) (hg_Tr_isPattern N (hrc_Tr_isPattern N d) N u (I ((x : Nat) : Int)) (u.2.2.1 18 x)))
        refine e_in ⟨by omega, by omega⟩ (by decide) ?_
        rw [I_A (k := 18), h6]
        have hend : ∀ M, OK (fun w r2 => IPQ u ((A u 20 x = 0 ∧ hi = mid + 1 ∧ s = r ∧ c < x) ∨ (1 ≤ k ∧ ∃ y c2 : Nat, A u 20 x = ((y : Nat) : Int) ∧ PAc u f y (mid + 1) (hi - 1) c c2 s r ∧ c2 < x)) w r2) (hb_Tr_isPattern_129 N (hrc_Tr_isPattern N d) (hg_Tr_isPattern N (hrc_Tr_isPattern N d) M) u (I ((x : Nat) : Int)) (I 0)) := fun M => by
          unfold hb_Tr_isPattern_129 hb_Tr_isPattern_186 hb_Tr_isPattern_191
          rw [show decide (I 0 = (0 : Int32)) = true from by decide, br_tq]
          refine e_in ⟨by omega, by omega⟩ (by decide) ?_
          rw [tnI (n := x) rfl (by omega), I_A (k := 16), h4]
          rw [show decide (I 7 = (6 : Int32)) = false from by decide, br_fq]
          refine e_in ⟨by omega, by omega⟩ (by decide) ?_
          rw [I_A (k := 20)]
          rcases h10 with ⟨h10, h11⟩ | ⟨h10, y, c2, h11, h12, h13⟩
          · rw [h10]
            exact ok_br.mpr ⟨fun _ => ip1 (Or.inl ⟨rfl, h11⟩), fun z => absurd z (by decide)⟩
          · have b1 := (XP_bd _ _ _ _ _ _ _ _ _ _ h12).1
            rw [h11]
            refine k_eq (x := ((y : Nat) : Int)) (y := 0) ⟨by omega, by omega⟩ ⟨by decide, by decide⟩ (fun z => by omega) (fun _ => ?_)
            refine e_in ⟨by omega, by omega⟩ (by decide) ?_
            refine ok_bnd.mpr (ok_mono (he _ _ _ _ _ _ _ _ _ (by omega) h12) (fun w r2 hw => ?_))
            obtain ⟨rfl, hr⟩ := hw
            rcases hr with rfl | ⟨rfl, hp⟩
            · exact ok_br.mpr ⟨fun _ => ip0, fun z => absurd z (by decide)⟩
            · exact ok_br.mpr ⟨fun z => absurd z (by decide), fun _ => ip1 (Or.inr ⟨h10, y, c2, rfl, hp, h13⟩)⟩
        have hc : c < x := by
          rcases h10 with ⟨-, -, -, h⟩ | ⟨-, y, c2, -, h6, h7⟩
          · exact h
          · have := (XP_bd _ _ _ _ _ _ _ _ _ _ h6).1; omega
        have pa : ORc u 1 (PAc u f) k m (lo + 1) mid a c q s → ((A u 20 x = 0 ∧ hi = mid + 1 ∧ s = r ∧ c < x) ∨ (1 ≤ k ∧ ∃ y c2 : Nat, A u 20 x = ((y : Nat) : Int) ∧ PAc u f y (mid + 1) (hi - 1) c c2 s r ∧ c2 < x)) → PAc u (f + 1) x lo hi a b q r := fun z1 z2 => by
          have tl : TLc u (PAc u f) x lo hi a q r := ⟨k, m, mid, c, s, h6, h7, h8, z1, z2⟩
          exact ⟨h1, h2, TLq tl, Or.inr (Or.inr (Or.inr (Or.inr ⟨h4, tl⟩)))⟩
        rcases h9 with h9 | ⟨h9, h11⟩
        · rw [h9.2.1]
          cases N with
          | zero => omega
          | succ N' =>
            refine ok_mono (hend N') (fun w r2 hw => ?_)
            obtain ⟨rfl, hr⟩ := hw
            refine ⟨rfl, ?_⟩
            rcases hr with hr | ⟨hr, hr2⟩
            · exact Or.inl hr
            · exact Or.inr ⟨hr, pa (Or.inl h9) hr2⟩
        · have rh := (RW_hd (XP_bd _ _ _) h11).1
          refine ok_mono (ip_row (N := N) (XP_bd _ _ _) (by omega) (fun m lo hi a2 b2 q r hb2 h => he _ _ _ _ _ _ _ _ _ hb2 h) hend k N m (lo + 1) a q h11 (by omega)) (fun w r2 hw => ?_)
          obtain ⟨rfl, hr⟩ := hw
          refine ⟨rfl, ?_⟩
          rcases hr with hr | ⟨hr, hr2, hr3⟩
          · exact Or.inl hr
          · exact Or.inr ⟨hr, pa (Or.inr ⟨h9, hr2⟩) hr3⟩
      · exact ipK hN (by omega) h4 (by omega) (by omega)
      · exact ipK hN (by omega) h4 (by omega) (by omega)
      · exact ipK hN (by omega) h4 (by omega) (by omega)
      · exact ipK hN (by omega) h4 (by omega) (by omega)
      · exact ipK hN (by omega) h4 (by omega) (by omega)
      · exact ipK hN (by omega) h4 (by omega) (by omega)
      · exact ipK hN (by omega) h4 (by omega) (by omega)
      · exact ipK hN (by omega) h4 (by omega) (by omega)
      · rcases h4 with h4 | h4
        · have b1 := (XP_bd _ _ _ _ _ _ _ _ _ _ h7).1
          unfold hm_Tr_isPattern hb_Tr_isPattern_0 hb_Tr_isPattern_110
          refine e_in ⟨by omega, by omega⟩ (by decide) ?_
          rw [tnI (n := x) rfl (by omega), I_A (k := 16), h4]
          show OK _ (ck (inb (I ((x : Nat) : Int)) 8016) (ck (inb (u.2.2.1 18 x) 8016) (br (decide ((u.2.2.1 16 (u.2.2.1 18 x).toNatClampNeg) = 1)) (ck (isb (1 : Int32)) (some (u, (1 : Int32)))) (ck (isb (0 : Int32)) (some (u, (0 : Int32)))))))
          refine e_in ⟨by omega, by omega⟩ (by decide) ?_
          rw [I_A (k := 18), h6]
          refine e_in ⟨by omega, by omega⟩ (by decide) ?_
          rw [tnI (n := m) rfl (by omega), I_A (k := 16), lit1q]
          refine k_eq (A_r u 16 m) ⟨by decide, by decide⟩ (fun e1 => ip1 ?_) (fun _ => ip0)
          cases f with
          | zero => exact h7.elim
          | succ f =>
            obtain ⟨g1, g2, g3, g4⟩ := h7
            rcases g4 with ⟨g4, g5, g6⟩ | ⟨g4, -⟩ | ⟨g4, -⟩ | ⟨g4, -⟩ | ⟨g4, -⟩ | ⟨g4, -⟩ | ⟨g4, -⟩ | ⟨g4, -⟩ | ⟨g4, -⟩ | ⟨g4, -⟩ | ⟨g4, -⟩ | ⟨g4, -⟩ | ⟨g4, -⟩ | ⟨g4, -⟩ | ⟨g4, -⟩ | ⟨g4, -⟩ | ⟨g4, -⟩
            · exact ⟨h1, h2, g6, Or.inr (Or.inl ⟨h4, m, h6, ⟨by omega, by omega, by omega⟩, g4, by rw [← g4.1]; exact e1, by omega⟩)⟩
            all_goals (exfalso; omega)
        · exact ipK hN (by omega) h4 (by omega) (by omega)
      · exact ipK hN (by omega) h4 (by omega) (by omega)
      · exact ipK hN (by omega) h4 (by omega) (by omega)
      · exact ipK hN (by omega) h4 (by omega) (by omega)
      · exact ipK hN (by omega) h4 (by omega) (by omega)
theorem matched_okc {S : SF_Pa_matched} (ho : o ≤ 25)
    (hx : ∀ y : Int32, ∀ u c p n q s, PSI u c p n q o s → OK (fun w r => NDQ (fun w m lo hi a b q r => Gw o w m lo hi a b q r ∧ A w 21 m = 0) u c p n q o s w r) (S.2.2.2.2.2.2.2.2.2.2.2.2.2.2.1 u y))
    (h : PSI u c p n q o s) (em : Uw 2 o u x lo p a n q0 q) (x0 : A u 21 x = 0) (ha2 : a ≤ 2 * lo) (hN : 10000 ≤ N) : OK (fun w r => NDQ (fun w m _ hi _ b _ r => Uw 3 o w m lo hi a b q0 r ∧ A w 21 m = 0) u c p n q o s w r) (hm_Pa_matched N S u (I ((x : Nat) : Int))) := by
  have hc := h.1.1
  have h2p := h.2.2.1.2
  have hd := Uw_bd u _ _ _ _ _ _ _ em
  unfold HDc at hd
  have n8 : n ≤ 8000 := by have := h.2.1.2; omega
  have e41 : ∀ (k : Int), (k = 30 ∨ k = 36) → A u 6 p = k → (k = 30 → PAc u (4 * (26 - o) + 2) x lo p a n q0 q) → OK (fun w r => NDQ (fun w m _ hi _ b _ r => Uw 3 o w m lo hi a b q0 r ∧ A w 21 m = 0) u c p n q o s w r) (hb_Pa_matched_41 N S () u (I ((x : Nat) : Int)) (I k)) := fun k hk ek pa => by
    unfold hb_Pa_matched_41
    obtain ⟨hpc, h2⟩ := PSI_at h (by omega)
    refine ok_lt.mpr ?_
    rw [inc_e h, show u.1 665 = I ((p : Nat) : Int) by rw [I_F (k := 665), h.2.1.1]]
    have g1 : KPG u (wi u 665 ((p + 1 : Nat) : Int)) := KPG_at
    have o1 : OLDc u (wi u 665 ((p + 1 : Nat) : Int)) n s := OLDc.row rfl
    generalize wi u 665 ((p + 1 : Nat) : Int) = v at h2 g1 o1
    have e69 : ∀ K : Int, (K = 20 ∧ k = 30 ∨ K = 21) → OK (fun w r => NDQ (fun w m _ hi _ b _ r => Uw 3 o w m lo hi a b q0 r ∧ A w 21 m = 0) u c p n q o s w r) (hb_Pa_matched_69 N S () v (I ((x : Nat) : Int)) (I ((p : Nat) : Int)) (I K)) := fun K hK => by
      unfold hb_Pa_matched_69
      refine ok_T (ok_mono (hx 0 v c (p + 1) n q s h2) (fun w5 r hw5 => ?_))
      obtain ⟨g5, hw5⟩ := hw5
      cases r with
      | inr k => exact ⟨g1.tr g5, hw5⟩
      | inl x2 =>
        obtain ⟨y, p5, n5, q5, rfl, ol5, hv5, hp5, ey, -⟩ := hw5
        have hd5 := Gw_bd w5 _ _ _ _ _ _ _ ey
        unfold HDc at hd5
        have n5b : n5 ≤ 8000 := by have := hv5.2.2.1.2; have := hv5.2.1.2; omega
        have p5c := hv5.2.1.2
        rw [lit0q]
        refine add_B hv5 (by omega) ⟨by omega, by omega⟩ ⟨by omega, by omega⟩ ⟨by omega, by omega⟩ ⟨by omega, by omega⟩ ⟨by decide, by decide⟩ (fun w6 g6 o6 h6 fa => ok_some.mpr ?_)
        obtain ⟨f1, f2, f3, f4, f5, f6⟩ := fa
        have gu6 : KPG u w6 := g1.tr (g5.tr g6)
        have ou6 : OLDc u w6 n s := OLDc.tr o1 (OLDc.tr ol5 o6 (by omega)) (Nat.le_refl _)
        have ey6 : XPc w6 (4 * (26 - o) + 2) (o + 1) 3 y (p + 1) p5 n n5 q q5 := XP_k (by omega) (Nat.le_refl _) _ _ _ _ _ _ _ ey (KN_old g6 o6 (Nat.le_refl _))
        refine ⟨gu6, n5 + 1, p5, n5 + 1, q5, rfl, ou6, h6, by omega, ?_, f6⟩
        refine ⟨⟨⟨by omega, by omega⟩, by omega, by omega, by omega, by omega⟩, ⟨p, f2, by omega, by omega⟩, ho, ?_⟩
        rcases hK with ⟨hK, hk3⟩ | hK
        · have pa1 := pa hk3
          have eq := PAq pa1
          have pa2 := PA_k (w := w6) (Nat.le_refl _) _ _ _ _ _ _ _ pa1 (KN_old gu6 ou6 (Nat.le_refl _))
          rw [← eq] at pa2 ey6
          exact Or.inr (Or.inr (Or.inr (Or.inr (Or.inr (Or.inr (Or.inr (Or.inr (Or.inr (Or.inr (Or.inr (Or.inr (Or.inr (Or.inr (Or.inl ⟨by rw [f1, hK], Nat.le_refl _, x, y, p, n, n5, f3, pa2, f4, ey6, by omega⟩))))))))))))))
        · exact Or.inr (Or.inr (Or.inr (Or.inr (Or.inr (Or.inr (Or.inr (Or.inr (Or.inr (Or.inr (Or.inr (Or.inr (Or.inr (Or.inr (Or.inr (Or.inl ⟨by rw [f1, hK], Nat.le_refl _, x, y, p, n, n5, q, f3, Uw_st u w6 _ _ _ _ _ _ _ em (KN_old gu6 ou6 (Nat.le_refl _)), f4, ey6, by omega⟩)))))))))))))))
    rw [show (30 : Int32) = I 30 from rfl]
    exact k_eq ⟨by omega, by omega⟩ ⟨by decide, by decide⟩ (fun e => e69 20 (Or.inl ⟨rfl, e⟩)) (fun _ => e69 21 (Or.inr rfl))
  have e19 : ∀ (k : Int), (k = 30 ∨ k = 36) → A u 6 p = k → OK (fun w r => NDQ (fun w m _ hi _ b _ r => Uw 3 o w m lo hi a b q0 r ∧ A w 21 m = 0) u c p n q o s w r) (hb_Pa_matched_19 N S () u (I ((x : Nat) : Int)) (I k)) := fun k hk ek => by
    unfold hb_Pa_matched_19
    rw [show (30 : Int32) = I 30 from rfl]
    refine k_eq ⟨by omega, by omega⟩ ⟨by decide, by decide⟩ (fun e => ?_) (fun ne => e41 k hk ek (fun z => absurd z ne))
    refine ok_bnd.mpr (ok_mono (isPat_ok hN (4 * (26 - o) + 2) 300 o 2 x lo p a n q0 q (by omega) em (by omega)) (fun w r2 hw => ?_))
    obtain ⟨rfl, hr⟩ := hw
    rcases hr with rfl | ⟨rfl, hp⟩
    · exact ok_br.mpr ⟨fun _ => refuse_T h (fun w gw => ⟨gw, rfl⟩), fun z => absurd z (by decide)⟩
    · exact ok_br.mpr ⟨fun z => absurd z (by decide), fun _ => e41 k hk ek (fun _ => hp)⟩
  unfold hm_Pa_matched hb_Pa_matched_0
  refine look_T h (fun w gw => ⟨gw, rfl⟩) (fun h45 => ?_)
  rw [show (30 : Int32) = I 30 from rfl, show (36 : Int32) = I 36 from rfl]
  exact k_eq (A_r u 6 p) ⟨by decide, by decide⟩ (fun e => e19 _ (Or.inl e) rfl) (fun _ => k_eq (A_r u 6 p) ⟨by decide, by decide⟩ (fun e => e19 _ (Or.inr e) rfl) (fun _ => ok_some.mpr ⟨KPG.rf, x, p, n, q, rfl, OLDc.rf, h, Nat.le_refl _, XP_k (by omega) (by omega) _ _ _ _ _ _ _ em (KN_old KPG.rf (OLDc.rf (n := n) (s := 0)) (Nat.le_refl _)), x0⟩))
end
end
section
set_option maxRecDepth 100000
def GRPp (N d : Nat) : Prop := ∀ o, o ≤ 25 →
  (10 * (25 - o) + 1 ≤ d → ∀ y : Int32, ∀ u c p n q s, PSI u c p n q o s → OK (fun w r => NDQ (fun w m lo hi a b q r => Gw o w m lo hi a b q r ∧ A w 21 m = 0) u c p n q o s w r) ((hrc_Pa_matched N d).2.2.2.2.2.2.2.2.2.2.2.2.2.2.1 u y)) ∧
  (10 * (25 - o) + 1 ≤ d → ∀ u c p n q s, PSI u c p n q o s → OK (fun w r => NDQ (fun w m lo hi a b q r => Pw o w m lo hi a b q r ∧ A w 21 m = 0) u c p n q o s w r) ((hrc_Pa_matched N d).2.2.2.2.2.2.2.2.2.2.2.2.2.2.2.2.2.1 u)) ∧
  (10 * (25 - o) + 1 + 1 ≤ d → ∀ most, 1 ≤ most ∧ most ≤ 4000 → ∀ u c p n q s, PSI u c p n q o s → OK (fun w r => NDQ (fun w m lo hi a b q r => ∃ k, (1 ≤ k ∧ k ≤ most) ∧ RWc w 1 (Gw o w) k m lo hi a b q r) u c p n q o s w r) ((hrc_Pa_matched N d).2.2.2.2.2.2.2.2.2.2.2.2.2.2.2.2.2.2.1 u 0 (I ((most : Nat) : Int)))) ∧
  (10 * (25 - o) + 1 + 1 ≤ d → ∀ most, 1 ≤ most ∧ most ≤ 4000 → ∀ u c p n q s, PSI u c p n q o s → OK (fun w r => NDQ (fun w m lo hi a b q r => ∃ k, (1 ≤ k ∧ k ≤ most) ∧ RWc w 1 (Pw o w) k m lo hi a b q r) u c p n q o s w r) ((hrc_Pa_matched N d).2.2.2.2.2.2.2.2.2.2.2.2.2.2.2.2.2.2.1 u 1 (I ((most : Nat) : Int)))) ∧
  (10 * (25 - o) + 1 + 2 ≤ d → ∀ (most : Nat) (K : Int), 1 ≤ most ∧ most ≤ 4000 → 1 ≤ K ∧ K ≤ 44 → ∀ u c p n q s, PSI u c p n q o s → OK (fun w r => NDQ (fun w m lo hi a b q r => lo + 1 ≤ hi ∧ ∃ k, k ≤ most ∧ ORc w 1 (Gw o w) k m lo (hi - 1) a b q r) u c p n q o s w r) ((hrc_Pa_matched N d).2.2.2.2.2.2.2.2.2.2.2.2.2.2.2.2.2.2.2 u 0 (I ((most : Nat) : Int)) (I K))) ∧
  (10 * (25 - o) + 1 + 2 ≤ d → ∀ (most : Nat) (K : Int), 1 ≤ most ∧ most ≤ 4000 → 1 ≤ K ∧ K ≤ 44 → ∀ u c p n q s, PSI u c p n q o s → OK (fun w r => NDQ (fun w m lo hi a b q r => lo + 1 ≤ hi ∧ ∃ k, k ≤ most ∧ ORc w 1 (Pw o w) k m lo (hi - 1) a b q r) u c p n q o s w r) ((hrc_Pa_matched N d).2.2.2.2.2.2.2.2.2.2.2.2.2.2.2.2.2.2.2 u 1 (I ((most : Nat) : Int)) (I K))) ∧
  (10 * (25 - o) + 1 + 3 ≤ d → ∀ u c p n q s, PSI u c p n q o s → A u 6 p ≠ 0 ∧ A u 6 p ≠ 45 → OK (fun w r => NDQ (TUQ (Gw o)) u c p n q o s w r) ((hrc_Pa_matched N d).2.2.2.2.2.2.2.2.2.2.2.2.2.2.2.2.1 u 0)) ∧
  (10 * (25 - o) + 1 + 3 ≤ d → ∀ u c p n q s, PSI u c p n q o s → A u 6 p ≠ 0 ∧ A u 6 p ≠ 45 → OK (fun w r => NDQ (TUQ (Pw o)) u c p n q o s w r) ((hrc_Pa_matched N d).2.2.2.2.2.2.2.2.2.2.2.2.2.2.2.2.1 u 1)) ∧
  (10 * (25 - o) + 1 + 2 ≤ d → ∀ u c p n q s, PSI u c p n q o s → A u 6 p ≠ 0 ∧ A u 6 p ≠ 45 → OK (fun w r => NDQ (LIQ (Gw o)) u c p n q o s w r) ((hrc_Pa_matched N d).2.2.2.2.2.2.2.2.2.2.2.2.2.2.2.1 u 0)) ∧
  (10 * (25 - o) + 1 + 2 ≤ d → ∀ u c p n q s, PSI u c p n q o s → A u 6 p ≠ 0 ∧ A u 6 p ≠ 45 → OK (fun w r => NDQ (LIQ (Pw o)) u c p n q o s w r) ((hrc_Pa_matched N d).2.2.2.2.2.2.2.2.2.2.2.2.2.2.2.1 u 1)) ∧
  (10 * (25 - o) + 1 ≤ d → ∀ u c p n q s, PSI u c p n q o s → OK (fun w r => NDQ (fun w m lo hi a b q r => ∃ k, RWc w 1 (Bw o w) k m lo hi a b q r) u c p n q o s w r) ((hrc_Pa_matched N d).2.2.2.2.2.2.2.2.2.1 u)) ∧
  (10 * (25 - o) + 1 + 2 ≤ d → ∀ u c p n q s t k m0 pl ph a, PSI u c p n q o s → t < p → pl ≤ ph ∧ ph ≤ p → ORc u 1 (Pw o u) k m0 pl ph a n q q → OK (fun w r => NDQ (fun w m lo hi a1 b q r => PRTc w (Pw o w) (Bw o w) (Gw o w) k m pl ph lo hi a b q r ∧ (a1 < m ∧ m = b) ∧ lo + 2 ≤ hi ∧ b + 1 + 2 * lo ≤ a1 + 2 * hi ∧ q ≤ r ∧ 5 * r + lo + 2 ≤ 5 * q + hi ∧ A w 21 m = 0 ∧ A w 17 m = ((t : Nat) : Int)) u c p n q o s w r) ((hrc_Pa_matched N d).2.2.2.2.2.1 u (I ((t : Nat) : Int)) (I ((m0 : Nat) : Int)))) ∧
  (10 * (25 - o) + 1 + 2 ≤ d → ∀ u c p n q s, PSI u c p n q o s → OK (fun w r => NDQ (fun w m lo hi a b q r => CHPc w (Bw o w) (Gw o w) m lo hi a b q r ∧ A w 21 m = 0) u c p n q o s w r) ((hrc_Pa_matched N d).2.2.2.2.1 u)) ∧
  (10 * (25 - o) + 1 + 3 ≤ d → ∀ u c p n q s, PSI u c p n q o s → OK (fun w r => NDQ (fun w m lo hi a b q r => CSPc w (Pw o w) (Bw o w) (Gw o w) m lo hi a b q r ∧ A w 21 m = 0) u c p n q o s w r) ((hrc_Pa_matched N d).2.2.2.2.2.2.1 u)) ∧
  (10 * (25 - o) + 1 + 4 ≤ d → ∀ u c p n q s, PSI u c p n q o s → OK (fun w r => NDQ (fun w m lo hi a b q r => ∃ k, RWc w 1 (CHPc w (Bw o w) (Gw o w)) k m lo hi a b q r) u c p n q o s w r) ((hrc_Pa_matched N d).2.2.2.2.2.2.2.1 u 0)) ∧
  (10 * (25 - o) + 1 + 4 ≤ d → ∀ u c p n q s, PSI u c p n q o s → OK (fun w r => NDQ (fun w m lo hi a b q r => ∃ k, RWc w 1 (CSPc w (Pw o w) (Bw o w) (Gw o w)) k m lo hi a b q r) u c p n q o s w r) ((hrc_Pa_matched N d).2.2.2.2.2.2.2.1 u 1)) ∧
  (10 * (25 - o) + 1 + 5 ≤ d → ∀ u c p n q s, PSI u c p n q o s → A u 6 p ≠ 0 ∧ A u 6 p ≠ 45 → OK (fun w r => NDQ (fun w m lo hi a b q r => Uw 0 o w m lo hi a b q r ∧ A w 21 m = 0) u c p n q o s w r) ((hrc_Pa_matched N d).2.2.2.2.2.2.2.2.1 u)) ∧
  (10 * (25 - o) + 1 + 5 ≤ d → ∀ u c p n q s, PSI u c p n q o s → A u 6 p ≠ 0 ∧ A u 6 p ≠ 45 → OK (fun w r => NDQ (fun w m lo hi a b q r => Uw 0 o w m lo hi a b q r ∧ A w 21 m = 0) u c p n q o s w r) ((hrc_Pa_matched N d).2.2.2.1 u)) ∧
  (10 * (25 - o) + 1 + 3 ≤ d → ∀ u c p n q s, PSI u c p n q o s → A u 6 p ≠ 0 ∧ A u 6 p ≠ 45 → OK (fun w r => NDQ (fun w m lo hi a b q r => Uw 0 o w m lo hi a b q r ∧ A w 21 m = 0) u c p n q o s w r) ((hrc_Pa_matched N d).2.2.1 u)) ∧
  (10 * (25 - o) + 1 + 3 ≤ d → ∀ u c p n q s, PSI u c p n q o s → A u 6 p = 2 → OK (fun w r => NDQ (fun w m lo hi a b q r => Uw 0 o w m lo hi a b q r ∧ A w 21 m = 0) u c p n q o s w r) ((hrc_Pa_matched N d).2.2.2.2.2.2.2.2.2.2.1 u)) ∧
  (10 * (25 - o) + 1 + 3 ≤ d → ∀ u c p n q s x lo a q0, PSI u c p n q o s → Uw 0 o u x lo p a n q0 q → A u 21 x = 0 → a ≤ 2 * lo → OK (fun w r => NDQ (fun w m _ hi _ b _ r => Uw 1 o w m lo hi a b q0 r ∧ A w 21 m = 0) u c p n q o s w r) ((hrc_Pa_matched N d).2.1 u (I ((x : Nat) : Int)))) ∧
  (10 * (25 - o) + 1 + 6 ≤ d → ∀ u c p n q s, PSI u c p n q o s → OK (fun w r => NDQ (fun w m lo hi a b q r => Uw 0 o w m lo hi a b q r ∧ A w 21 m = 0) u c p n q o s w r) ((hrc_Pa_matched N d).2.2.2.2.2.2.2.2.2.2.2.1 u)) ∧
  (10 * (25 - o) + 1 + 7 ≤ d → ∀ u c p n q s, PSI u c p n q o s → OK (fun w r => NDQ (fun w m lo hi a b q r => Uw 1 o w m lo hi a b q r ∧ A w 21 m = 0) u c p n q o s w r) ((hrc_Pa_matched N d).2.2.2.2.2.2.2.2.2.2.2.2.1 u)) ∧
  (10 * (25 - o) + 1 + 8 ≤ d → ∀ u c p n q s, PSI u c p n q o s → OK (fun w r => NDQ (fun w m lo hi a b q r => Uw 2 o w m lo hi a b q r ∧ A w 21 m = 0) u c p n q o s w r) ((hrc_Pa_matched N d).2.2.2.2.2.2.2.2.2.2.2.2.2.1 u)) ∧
  (10 * (25 - o) + 1 + 1 ≤ d → ∀ u c p n q s x lo a q0, PSI u c p n q o s → Uw 2 o u x lo p a n q0 q → A u 21 x = 0 → a ≤ 2 * lo → OK (fun w r => NDQ (fun w m _ hi _ b _ r => Uw 3 o w m lo hi a b q0 r ∧ A w 21 m = 0) u c p n q o s w r) ((hrc_Pa_matched N d).1 u (I ((x : Nat) : Int))))
section
variable {u v w : MS} {N c p n q o s p2 n2 q2 m a b l lo hi r d most f t x q0 : Nat}
theorem k_c {α : Type} {Q : MS → α → Prop} {x y : Int} {c : Int32} {p q : Option (MS × α)} (hc : c = I y) (h1 : RG x) (h2 : RG y) (a : x = y → OK Q p) (b : x ≠ y → OK Q q) : OK Q (br (decide (I x = c)) p q) := by rw [hc]; exact k_eq h1 h2 a b
theorem TUx (ho : o ≤ 25) (h : TUQ (Gw o) w m lo hi a b q r) : Uw 0 o w m lo hi a b q r := by
  obtain ⟨t1, t2, t3, t4, t5⟩ := h
  show XPc w (4 * (26 - o)) o 0 _ _ _ _ _ _ _
  rw [f_o ho]
  exact ⟨t1, t2, ho, Or.inr (Or.inr (Or.inl ⟨t4, t5⟩))⟩
theorem LIx (ho : o ≤ 25) (h : LIQ (Gw o) w m lo hi a b q r) : Uw 0 o w m lo hi a b q r := by
  obtain ⟨t1, t2, t3, t4, t5⟩ := h
  show XPc w (4 * (26 - o)) o 0 _ _ _ _ _ _ _
  rw [f_o ho]
  exact ⟨t1, t2, ho, Or.inr (Or.inr (Or.inr (Or.inl ⟨t4, t5⟩)))⟩
theorem primary_okc {S : SF_Pa_matched} (ho : o ≤ 25)
    (hx : ∀ u c p n q s, PSI u c p n q o s → OK (fun w r => NDQ (fun w m lo hi a b q r => Gw o w m lo hi a b q r ∧ A w 21 m = 0) u c p n q o s w r) (S.2.2.2.2.2.2.2.2.2.2.2.2.2.2.1 u 1))
    (hb : ∀ u c p n q s, PSI u c p n q o s → OK (fun w r => NDQ (fun w m lo hi a b q r => ∃ k, RWc w 1 (Bw o w) k m lo hi a b q r) u c p n q o s w r) (S.2.2.2.2.2.2.2.2.2.1 u))
    (hp0 : ∀ u c p n q s, PSI u c p n q o s → OK (fun w r => NDQ (fun w m lo hi a b q r => ∃ k, RWc w 1 (CHPc w (Bw o w) (Gw o w)) k m lo hi a b q r) u c p n q o s w r) (S.2.2.2.2.2.2.2.1 u 0))
    (hca : ∀ u c p n q s, PSI u c p n q o s → A u 6 p ≠ 0 ∧ A u 6 p ≠ 45 → OK (fun w r => NDQ (fun w m lo hi a b q r => Uw 0 o w m lo hi a b q r ∧ A w 21 m = 0) u c p n q o s w r) (S.2.2.2.2.2.2.2.2.1 u))
    (hre : ∀ u c p n q s, PSI u c p n q o s → A u 6 p ≠ 0 ∧ A u 6 p ≠ 45 → OK (fun w r => NDQ (fun w m lo hi a b q r => Uw 0 o w m lo hi a b q r ∧ A w 21 m = 0) u c p n q o s w r) (S.2.2.2.1 u))
    (hfu : ∀ u c p n q s, PSI u c p n q o s → A u 6 p ≠ 0 ∧ A u 6 p ≠ 45 → OK (fun w r => NDQ (fun w m lo hi a b q r => Uw 0 o w m lo hi a b q r ∧ A w 21 m = 0) u c p n q o s w r) (S.2.2.1 u))
    (hac : ∀ u c p n q s, PSI u c p n q o s → A u 6 p = 2 → OK (fun w r => NDQ (fun w m lo hi a b q r => Uw 0 o w m lo hi a b q r ∧ A w 21 m = 0) u c p n q o s w r) (S.2.2.2.2.2.2.2.2.2.2.1 u))
    (htu : ∀ u c p n q s, PSI u c p n q o s → A u 6 p ≠ 0 ∧ A u 6 p ≠ 45 → OK (fun w r => NDQ (TUQ (Gw o)) u c p n q o s w r) (S.2.2.2.2.2.2.2.2.2.2.2.2.2.2.2.2.1 u 0))
    (hli : ∀ u c p n q s, PSI u c p n q o s → A u 6 p ≠ 0 ∧ A u 6 p ≠ 45 → OK (fun w r => NDQ (LIQ (Gw o)) u c p n q o s w r) (S.2.2.2.2.2.2.2.2.2.2.2.2.2.2.2.1 u 0))
    (h : PSI u c p n q o s) : OK (fun w r => NDQ (fun w m lo hi a b q r => Uw 0 o w m lo hi a b q r ∧ A w 21 m = 0) u c p n q o s w r) (hm_Pa_primary N S u) := by
  have hc := h.1.1
  have h2p := h.2.2.1.2
  have no : ∀ {f : MS → Unit → Option (MS × (Int32 ⊕ Nat))}, OK (fun w r => NDQ (fun w m lo hi a b q r => Uw 0 o w m lo hi a b q r ∧ A w 21 m = 0) u c p n q o s w r) (bTm (hm_Pa_refuse N u 2) f) := fun {f} => refuse_T h (fun w gw => ⟨gw, rfl⟩)
  have id : ∀ {x : Option (MS × (Int32 ⊕ Nat))}, OK (fun w r => NDQ (fun w m lo hi a b q r => Uw 0 o w m lo hi a b q r ∧ A w 21 m = 0) u c p n q o s w r) x → OK (fun w r => NDQ (fun w m lo hi a b q r => Uw 0 o w m lo hi a b q r ∧ A w 21 m = 0) u c p n q o s w r) (bTm x (fun u4 r4 => some (u4, .inl r4))) := fun {x} hx => ok_T (ok_mono hx (fun w r hw => by
    cases r with
    | inr k => exact hw
    | inl x => exact ok_some.mpr hw))
  have lf : (1 ≤ A u 6 p ∧ A u 6 p ≤ 4) → OK (fun w r => NDQ (fun w m lo hi a b q r => Uw 0 o w m lo hi a b q r ∧ A w 21 m = 0) u c p n q o s w r) (bnd (hm_Pa_leaf N u) (fun u3 r3 => some (u3, .inl r3))) := fun h4 => leaf_B h h4 (fun w gw ow hw lf m0 a61 => ok_some.mpr (by
    have p3c := hw.2.1.2
    refine ⟨gw, n + 1, p + 1, n + 1, q, rfl, ow, hw, by omega, ?_, m0⟩
    show XPc w (4 * (26 - o)) o 0 _ _ _ _ _ _ _
    rw [f_o ho]
    exact ⟨⟨⟨by omega, by omega⟩, by omega, by omega, by omega, by omega⟩, ⟨p, lf.2.2.1, by omega, by omega⟩, ho, Or.inl ⟨lf, rfl, rfl⟩⟩))
  have mo : ∀ {Q1 : MS → Nat → Nat → Nat → Nat → Nat → Nat → Nat → Prop} {x : Option (MS × (Int32 ⊕ Nat))}, (∀ w m lo hi a b q r, Q1 w m lo hi a b q r → Uw 0 o w m lo hi a b q r ∧ A w 21 m = 0) → OK (fun w r => NDQ Q1 u c p n q o s w r) x → OK (fun w r => NDQ (fun w m lo hi a b q r => Uw 0 o w m lo hi a b q r ∧ A w 21 m = 0) u c p n q o s w r) x := fun {Q1 x} hq hx => ok_mono hx (fun w r hw => by
    obtain ⟨gw, hw⟩ := hw
    cases r with
    | inr k => exact ⟨gw, hw⟩
    | inl x =>
      obtain ⟨m, p3, n3, q3, e1, ol3, hv3, hp3, em⟩ := hw
      exact ⟨gw, m, p3, n3, q3, e1, ol3, hv3, hp3, hq _ _ _ _ _ _ _ _ em⟩)
  have dl : ∀ (K1 K2 : Int) (X : MS → Option (MS × (Int32 ⊕ Nat))) (R : MS → Nat → Nat → Nat → Nat → Nat → Nat → Nat → Prop) (f : MS → Int32 → Option (MS × (Int32 ⊕ Nat))), A u 6 p ≠ 0 ∧ A u 6 p ≠ 45 → 1 ≤ K1 ∧ K1 ≤ 44 → (∀ u c p n q s, PSI u c p n q o s → OK (fun w r => NDQ R u c p n q o s w r) (X u)) → (∀ w m lo hi a b q r, R w m lo hi a b q r → HDc m lo hi a b q r) → (∀ w w4 m p3 n3 q3, KPG w w4 → OLDc w w4 n3 s → R w m (p + 1) p3 n n3 q q3 → PSI w4 c (p3 + 1) n3 q3 o s → KPG u w4 → OLDc u w4 n s → p + 1 < p3 → n3 + 2 * p + 3 ≤ n + 2 * p3 → q ≤ q3 → 5 * q3 + p + 2 ≤ 5 * q + p3 → n < m ∧ m ≤ n3 → OK (fun w r => NDQ (fun w m lo hi a b q r => Uw 0 o w m lo hi a b q r ∧ A w 21 m = 0) u c p n q o s w r) (f w4 (I ((m : Nat) : Int)))) → OK (fun w r => NDQ (fun w m lo hi a b q r => Uw 0 o w m lo hi a b q r ∧ A w 21 m = 0) u c p n q o s w r) (lt (upI u 665 ((u.1 665) + 1)) (fun w10 => bTm (X w10) (fun u11 r11 => bTm (hm_Pa_need N u11 (I K1)) (fun u12 _ => f u12 r11)))) := by
    intro K1 K2 X R f hk hK hX hR hf
    obtain ⟨hpc, h2⟩ := PSI_at h hk
    refine ok_lt.mpr ?_
    rw [inc_e h]
    have g1 : KPG u (wi u 665 ((p + 1 : Nat) : Int)) := KPG_at
    have o1 : OLDc u (wi u 665 ((p + 1 : Nat) : Int)) n s := OLDc.row rfl
    generalize wi u 665 ((p + 1 : Nat) : Int) = v at h2 g1 o1
    refine ok_T (ok_mono (hX v c (p + 1) n q s h2) (fun w r hw => ?_))
    obtain ⟨gw, hw⟩ := hw
    cases r with
    | inr k => exact ⟨g1.tr gw, hw⟩
    | inl x =>
      obtain ⟨m, p3, n3, q3, rfl, ol3, hv3, hp3, em⟩ := hw
      have hd := hR _ _ _ _ _ _ _ _ em
      unfold HDc at hd
      refine need_T hv3 hK (fun w2 gw2 => ⟨g1.tr (gw.tr gw2), rfl⟩) (fun _ h3 => ?_)
      exact hf w _ m p3 n3 q3 KPG_at (OLDc.row rfl) em h3 (g1.tr (gw.tr KPG_at)) (OLDc.tr o1 (OLDc.tr ol3 (OLDc.row rfl) (by omega)) (Nat.le_refl _)) (by omega) (by omega) (by omega) (by omega) (by omega)
  unfold hm_Pa_primary hb_Pa_primary_0
  refine look_T h (fun w gw => ⟨gw, rfl⟩) (fun h45 => ?_)
  refine k_c (y := 1) rfl (A_r u 6 p) ⟨by decide, by decide⟩ (fun e => lf (by omega)) (fun _ => k_c (y := 2) rfl (A_r u 6 p) ⟨by decide, by decide⟩ (fun e => id (hac u c p n q s h e)) (fun _ => k_c (y := 3) rfl (A_r u 6 p) ⟨by decide, by decide⟩ (fun e => lf (by omega)) (fun _ => k_c (y := 4) rfl (A_r u 6 p) ⟨by decide, by decide⟩ (fun e => lf (by omega)) (fun _ => k_c (y := 5) rfl (A_r u 6 p) ⟨by decide, by decide⟩ (fun e => no) (fun _ => k_c (y := 6) rfl (A_r u 6 p) ⟨by decide, by decide⟩ (fun e => no) (fun _ => k_c (y := 7) rfl (A_r u 6 p) ⟨by decide, by decide⟩ (fun e => ?_) (fun _ => k_c (y := 8) rfl (A_r u 6 p) ⟨by decide, by decide⟩ (fun e => id (hca u c p n q s h (by omega))) (fun _ => k_c (y := 9) rfl (A_r u 6 p) ⟨by decide, by decide⟩ (fun e => no) (fun _ => k_c (y := 10) rfl (A_r u 6 p) ⟨by decide, by decide⟩ (fun e => no) (fun _ => k_c (y := 11) rfl (A_r u 6 p) ⟨by decide, by decide⟩ (fun e => no) (fun _ => k_c (y := 12) rfl (A_r u 6 p) ⟨by decide, by decide⟩ (fun e => id (hfu u c p n q s h (by omega))) (fun _ => k_c (y := 13) rfl (A_r u 6 p) ⟨by decide, by decide⟩ (fun e => ?_) (fun _ => k_c (y := 14) rfl (A_r u 6 p) ⟨by decide, by decide⟩ (fun e => no) (fun _ => k_c (y := 15) rfl (A_r u 6 p) ⟨by decide, by decide⟩ (fun e => no) (fun _ => k_c (y := 16) rfl (A_r u 6 p) ⟨by decide, by decide⟩ (fun e => no) (fun _ => k_c (y := 17) rfl (A_r u 6 p) ⟨by decide, by decide⟩ (fun e => id (hre u c p n q s h (by omega))) (fun _ => k_c (y := 18) rfl (A_r u 6 p) ⟨by decide, by decide⟩ (fun e => no) (fun _ => k_c (y := 19) rfl (A_r u 6 p) ⟨by decide, by decide⟩ (fun e => no) (fun _ => k_c (y := 20) rfl (A_r u 6 p) ⟨by decide, by decide⟩ (fun e => ?_) (fun _ => k_c (y := 21) rfl (A_r u 6 p) ⟨by decide, by decide⟩ (fun e => no) (fun _ => k_c (y := 22) rfl (A_r u 6 p) ⟨by decide, by decide⟩ (fun e => id (mo (fun w m lo hi a b q r h => ⟨TUx ho h, h.2.2.1⟩) (htu u c p n q s h (by omega)))) (fun _ => k_c (y := 23) rfl (A_r u 6 p) ⟨by decide, by decide⟩ (fun e => no) (fun _ => k_c (y := 24) rfl (A_r u 6 p) ⟨by decide, by decide⟩ (fun e => id (mo (fun w m lo hi a b q r h => ⟨LIx ho h, h.2.2.1⟩) (hli u c p n q s h (by omega)))) (fun _ => no))))))))))))))))))))))))
  · refine dl 11 0 _ (fun w m lo hi a b q r => ∃ k, RWc w 1 (Bw o w) k m lo hi a b q r) (fun u12 r11 => bnd (hm_Tr_add N u12 8 (u.1 665) r11 0 0) (fun u14 r14 => some (u14, .inl r14))) (by omega) (by omega) (fun u c p n q s h => hb u c p n q s h) (fun w m lo hi a b q r hh => by obtain ⟨k, hk⟩ := hh; exact (RW_hd (Bw_bd w) hk).1) (fun w w4 m p3 n3 q3 g4 o4 em h4 gu ou b1 b2 b3 b4 b5 => ?_)
    have p4c := h4.2.1.2
    have n4b : n3 ≤ 8000 := by have := h4.2.2.1.2; omega
    show OK _ (bnd (hm_Tr_add N w4 _ _ _ _ _) _)
    rw [show u.1 665 = I ((p : Nat) : Int) by rw [I_F (k := 665), h.2.1.1], lit0q, show (8 : Int32) = I 8 from rfl]
    refine add_B h4 (by omega) ⟨by decide, by decide⟩ ⟨by omega, by omega⟩ ⟨by omega, by omega⟩ ⟨by omega, by omega⟩ ⟨by decide, by decide⟩ (fun w6 g6 o6 h6 fa => ok_some.mpr ?_)
    obtain ⟨f1, f2, f3, f4, f5, f6⟩ := fa
    refine ⟨gu.tr g6, n3 + 1, p3 + 1, n3 + 1, q3, rfl, OLDc.tr ou o6 (by omega), h6, by omega, ?_, f6⟩
    show XPc w6 (4 * (26 - o)) o 0 _ _ _ _ _ _ _
    rw [f_o ho]
    refine ⟨⟨⟨by omega, by omega⟩, by omega, by omega, by omega, by omega⟩, ⟨p, f2, by omega, by omega⟩, ho, Or.inr (Or.inr (Or.inr (Or.inr (Or.inl ⟨f1, ?_⟩))))⟩
    rw [show p3 + 1 - 1 = p3 by omega]
    exact by obtain ⟨k, em⟩ := em; exact ⟨k, m, n3, f3, RW_k (BX ho w w6) (Bw_bd w) em (KN_old (g4.tr g6) (OLDc.tr o4 o6 (Nat.le_refl _)) (Nat.le_refl _)), by omega⟩
  · refine dl 11 0 _ (fun w m lo hi a b q r => ∃ k, RWc w 1 (CHPc w (Bw o w) (Gw o w)) k m lo hi a b q r) (fun u12 r11 => bnd (hm_Tr_add N u12 10 (u.1 665) 0 r11 0) (fun u14 r14 => some (u14, .inl r14))) (by omega) (by omega) (fun u c p n q s h => hp0 u c p n q s h) (fun w m lo hi a b q r hh => by obtain ⟨k, hk⟩ := hh; exact (RW_hd CHP_bd hk).1) (fun w w4 m p3 n3 q3 g4 o4 em h4 gu ou b1 b2 b3 b4 b5 => ?_)
    have p4c := h4.2.1.2
    have n4b : n3 ≤ 8000 := by have := h4.2.2.1.2; omega
    show OK _ (bnd (hm_Tr_add N w4 _ _ _ _ _) _)
    rw [show u.1 665 = I ((p : Nat) : Int) by rw [I_F (k := 665), h.2.1.1], lit0q, show (10 : Int32) = I 10 from rfl]
    refine add_B h4 (by omega) ⟨by decide, by decide⟩ ⟨by omega, by omega⟩ ⟨by omega, by omega⟩ ⟨by omega, by omega⟩ ⟨by decide, by decide⟩ (fun w6 g6 o6 h6 fa => ok_some.mpr ?_)
    obtain ⟨f1, f2, f3, f4, f5, f6⟩ := fa
    refine ⟨gu.tr g6, n3 + 1, p3 + 1, n3 + 1, q3, rfl, OLDc.tr ou o6 (by omega), h6, by omega, ?_, f6⟩
    show XPc w6 (4 * (26 - o)) o 0 _ _ _ _ _ _ _
    rw [f_o ho]
    refine ⟨⟨⟨by omega, by omega⟩, by omega, by omega, by omega, by omega⟩, ⟨p, f2, by omega, by omega⟩, ho, Or.inr (Or.inr (Or.inr (Or.inr (Or.inr (Or.inr (Or.inl ⟨f1, ?_⟩))))))⟩
    rw [show p3 + 1 - 1 = p3 by omega]
    exact by obtain ⟨k, em⟩ := em; exact ⟨k, m, n3, f4, RW_k (HX ho w w6) CHP_bd em (KN_old (g4.tr g6) (OLDc.tr o4 o6 (Nat.le_refl _)) (Nat.le_refl _)), by omega⟩
  · refine dl 21 0 _ (fun w m lo hi a b q r => Gw o w m lo hi a b q r ∧ A w 21 m = 0) (fun u12 r11 => bnd (hm_Tr_add N u12 5 (u.1 665) r11 0 0) (fun u14 r14 => some (u14, .inl r14))) (by omega) (by omega) (fun u c p n q s h => hx u c p n q s h) (fun w m lo hi a b q r hh => Gw_bd w _ _ _ _ _ _ _ hh.1) (fun w w4 m p3 n3 q3 g4 o4 em h4 gu ou b1 b2 b3 b4 b5 => ?_)
    have p4c := h4.2.1.2
    have n4b : n3 ≤ 8000 := by have := h4.2.2.1.2; omega
    show OK _ (bnd (hm_Tr_add N w4 _ _ _ _ _) _)
    rw [show u.1 665 = I ((p : Nat) : Int) by rw [I_F (k := 665), h.2.1.1], lit0q, show (5 : Int32) = I 5 from rfl]
    refine add_B h4 (by omega) ⟨by decide, by decide⟩ ⟨by omega, by omega⟩ ⟨by omega, by omega⟩ ⟨by omega, by omega⟩ ⟨by decide, by decide⟩ (fun w6 g6 o6 h6 fa => ok_some.mpr ?_)
    obtain ⟨f1, f2, f3, f4, f5, f6⟩ := fa
    refine ⟨gu.tr g6, n3 + 1, p3 + 1, n3 + 1, q3, rfl, OLDc.tr ou o6 (by omega), h6, by omega, ?_, f6⟩
    show XPc w6 (4 * (26 - o)) o 0 _ _ _ _ _ _ _
    rw [f_o ho]
    refine ⟨⟨⟨by omega, by omega⟩, by omega, by omega, by omega, by omega⟩, ⟨p, f2, by omega, by omega⟩, ho, Or.inr (Or.inl ⟨f1, ?_⟩)⟩
    rw [show p3 + 1 - 1 = p3 by omega]
    exact ⟨m, n3, f3, GX w w6 _ _ _ _ _ _ _ em.1 (KN_old (g4.tr g6) (OLDc.tr o4 o6 (Nat.le_refl _)) (Nat.le_refl _)), by omega⟩
theorem expression_okc {S : SF_Pa_matched} {y : Int32} (ho : o ≤ 25)
    (hx : o < 25 → ∀ u c p n q s, PSI u c p n q (o + 1) s → OK (fun w r => NDQ (fun w m lo hi a b q r => Gw (o + 1) w m lo hi a b q r ∧ A w 21 m = 0) u c p n q (o + 1) s w r) (S.2.2.2.2.2.2.2.2.2.2.2.2.2.2.1 u 1))
    (hs : o < 25 → ∀ u c p n q s, PSI u c p n q (o + 1) s → OK (fun w r => NDQ (fun w m lo hi a b q r => Uw 2 (o + 1) w m lo hi a b q r ∧ A w 21 m = 0) u c p n q (o + 1) s w r) (S.2.2.2.2.2.2.2.2.2.2.2.2.2.1 u))
    (hm : o < 25 → ∀ u c p n q s x lo a q0, PSI u c p n q (o + 1) s → Uw 2 (o + 1) u x lo p a n q0 q → A u 21 x = 0 → a ≤ 2 * lo → OK (fun w r => NDQ (fun w m _ hi _ b _ r => Uw 3 (o + 1) w m lo hi a b q0 r ∧ A w 21 m = 0) u c p n q (o + 1) s w r) (S.1 u (I ((x : Nat) : Int))))
    (h : PSI u c p n q o s) : OK (fun w r => NDQ (fun w m lo hi a b q r => Gw o w m lo hi a b q r ∧ A w 21 m = 0) u c p n q o s w r) (hm_Pa_expression N S u y) := by
  have hc := h.1.1
  have h2p := h.2.2.1.2
  have fe : 26 - (o + 1) = 25 - o := by omega
  have fin : ∀ (w : MS) (m p3 n3 q3 : Nat), KPG u w → OLDc u w n s → PSI w c p3 n3 q3 (o + 1) s → p ≤ p3 → Gw o w m p p3 n n3 q q3 → A w 21 m = 0 → OK (fun w r => NDQ (fun w m lo hi a b q r => Gw o w m lo hi a b q r ∧ A w 21 m = 0) u c p n q o s w r) (hb_Pa_expression_84 N S () w (I ((m : Nat) : Int))) := by
    intro w m p3 n3 q3 gw ow hw hp3 em m0
    obtain ⟨e, hw2⟩ := close_e hw
    unfold hb_Pa_expression_84
    refine ok_lt.mpr (ok_some.mpr ?_)
    rw [e]
    exact ⟨gw.tr KPG_op, m, p3, n3, q3, rfl, OLDc.tr ow (OLDc.row rfl) (Nat.le_refl _), hw2, hp3, Gw_st w _ _ _ _ _ _ _ _ em (KN_old KPG_op (OLDc.row (n := n3) (s := 0) rfl) (Nat.le_refl _)), m0⟩
  have e28 : ∀ t1, A u 6 p ≠ 45 → OK (fun w r => NDQ (fun w m lo hi a b q r => Gw o w m lo hi a b q r ∧ A w 21 m = 0) u c p n q o s w r) (hb_Pa_expression_28 N S () u (I (A u 6 p)) t1) := fun t1 h45 => by
    unfold hb_Pa_expression_28
    refine opens_T h (fun w gw => ⟨gw, rfl⟩) (fun _ ho25 h2 => ?_)
    have g1 : KPG u (wi u 666 ((o + 1 : Nat) : Int)) := KPG_op
    have o1 : OLDc u (wi u 666 ((o + 1 : Nat) : Int)) n s := OLDc.row rfl
    have a6 : A (wi u 666 ((o + 1 : Nat) : Int)) 6 p = A u 6 p := rfl
    generalize wi u 666 ((o + 1 : Nat) : Int) = v at h2 g1 o1 a6
    refine k_c (y := 9) rfl (A_r u 6 p) ⟨by decide, by decide⟩ (fun e => ok_lt.mpr ?_) (fun _ => ?_)
    · obtain ⟨hpc, h3⟩ := PSI_at h2 (by rw [a6]; omega)
      rw [inc_e h2, show v.1 665 = I ((p : Nat) : Int) by rw [I_F (k := 665), h2.2.1.1]]
      have g2 : KPG v (wi v 665 ((p + 1 : Nat) : Int)) := KPG_at
      have o2 : OLDc v (wi v 665 ((p + 1 : Nat) : Int)) n s := OLDc.row rfl
      generalize wi v 665 ((p + 1 : Nat) : Int) = v2 at h3 g2 o2
      refine ok_T (ok_mono (hx ho25 v2 c (p + 1) n q s h3) (fun w r hw => ?_))
      obtain ⟨gw, hw⟩ := hw
      cases r with
      | inr k => exact ⟨g1.tr (g2.tr gw), hw⟩
      | inl x =>
        obtain ⟨m, p3, n3, q3, rfl, ol3, hv3, hp3, em, -⟩ := hw
        have hd := Gw_bd w _ _ _ _ _ _ _ em
        unfold HDc at hd
        have n3b : n3 ≤ 8000 := by have := hv3.2.2.1.2; have := hv3.2.1.2; omega
        have p3c := hv3.2.1.2
        rw [lit0q, show (19 : Int32) = I 19 from rfl]
        refine add_B hv3 (by omega) ⟨by decide, by decide⟩ ⟨by omega, by omega⟩ ⟨by omega, by omega⟩ ⟨by decide, by decide⟩ ⟨by decide, by decide⟩ (fun w4 g4 o4 h4 fa => ?_)
        obtain ⟨f1, f2, f3, f4, f5, f6⟩ := fa
        refine fin w4 (n3 + 1) p3 (n3 + 1) q3 (g1.tr (g2.tr (gw.tr g4))) (OLDc.tr (OLDc.tr o1 o2 (Nat.le_refl _)) (OLDc.tr ol3 o4 (by omega)) (Nat.le_refl _)) h4 (by omega) ?_ f6
        show XPc w4 ((4 * (25 - o) + 2) + 1) (o + 1) 3 _ _ _ _ _ _ _
        exact ⟨⟨⟨by omega, by omega⟩, by omega, by omega, by omega, by omega⟩, ⟨p, f2, by omega, by omega⟩, by omega, Or.inr (Or.inr (Or.inr (Or.inr (Or.inr (Or.inr (Or.inr (Or.inr (Or.inr (Or.inr (Or.inr (Or.inr (Or.inr (Or.inl ⟨f1, Nat.le_refl _, m, n3, f3, XP_k (by omega) (Nat.le_refl _) _ _ _ _ _ _ _ em (KN_old g4 o4 (Nat.le_refl _)), by omega⟩)))))))))))))⟩
    · refine ok_T (ok_mono (hs ho25 v c p n q s h2) (fun w r hw => ?_))
      obtain ⟨gw, hw⟩ := hw
      cases r with
      | inr k => exact ⟨g1.tr gw, hw⟩
      | inl x =>
        obtain ⟨m, p3, n3, q3, rfl, ol3, hv3, hp3, em, m0⟩ := hw
        have hd := (Uw_bd w _ _ _ _ _ _ _ em).1
        refine ok_T (ok_mono (hm ho25 w c p3 n3 q3 s m p n q hv3 em m0 h2p) (fun w2 r hw2 => ?_))
        obtain ⟨gw2, hw2⟩ := hw2
        cases r with
        | inr k => exact ⟨g1.tr (gw.tr gw2), hw2⟩
        | inl x =>
          obtain ⟨m2, p4, n4, q4, rfl, ol4, hv4, hp4, em2, m20⟩ := hw2
          refine fin w2 m2 p4 n4 q4 (g1.tr (gw.tr gw2)) (OLDc.tr o1 (OLDc.tr ol3 ol4 (by omega)) (Nat.le_refl _)) hv4 (by omega) ?_ m20
          have em3 : XPc w2 (4 * (26 - (o + 1)) + 3) (o + 1) 3 m2 p p4 n n4 q q4 := em2
          rw [fe] at em3
          exact em3
  unfold hm_Pa_expression hb_Pa_expression_0 hb_Pa_expression_23 hb_Pa_expression_27
  refine look_T h (fun w gw => ⟨gw, rfl⟩) (fun h45 => ?_)
  obtain ⟨r6, e6⟩ := begU (N := N) (u := u) (tk_rng h.1 h.2.1.2)
  rw [e6, bnd_so]
  exact ok_br.mpr ⟨fun _ => ok_br.mpr ⟨fun _ => e28 _ h45, fun _ => ok_br.mpr ⟨fun _ => e28 _ h45, fun _ => e28 _ h45⟩⟩, fun _ => e28 _ h45⟩
theorem grpP_ok (hN : 10000 ≤ N) : ∀ d, GRPp N d := by
  intro d
  induction d with
  | zero =>
    intro o ho
    refine ⟨fun hh => absurd hh (by omega), fun hh => absurd hh (by omega), fun hh => absurd hh (by omega), fun hh => absurd hh (by omega), fun hh => absurd hh (by omega), fun hh => absurd hh (by omega), fun hh => absurd hh (by omega), fun hh => absurd hh (by omega), fun hh => absurd hh (by omega), fun hh => absurd hh (by omega), fun hh => absurd hh (by omega), fun hh => absurd hh (by omega), fun hh => absurd hh (by omega), fun hh => absurd hh (by omega), fun hh => absurd hh (by omega), fun hh => absurd hh (by omega), fun hh => absurd hh (by omega), fun hh => absurd hh (by omega), fun hh => absurd hh (by omega), fun hh => absurd hh (by omega), fun hh => absurd hh (by omega), fun hh => absurd hh (by omega), fun hh => absurd hh (by omega), fun hh => absurd hh (by omega), fun hh => absurd hh (by omega)⟩
  | succ d ih =>
    intro o ho
    obtain ⟨hE, hP, hR0, hR1, hU0, hU1, hT0, hT1, hL0, hL1, hB, hPT, hC, hO, hS0, hS1, hCA, hRE, hF, hAC, hAP, hPR, hUN, hSI, hM⟩ := ih o ho
    have nx : o < 25 → o + 1 ≤ 25 := fun z => z
    have P1 : o < 25 → 26 - (o + 1) = 25 - o := fun _ => by omega
    refine ⟨fun hd y u c p n q s h => ?_, fun hd u c p n q s h => ?_, fun hd most hm u c p n q s h => ?_, fun hd most hm u c p n q s h => ?_, fun hd most K hm hK u c p n q s h => ?_, fun hd most K hm hK u c p n q s h => ?_, fun hd u c p n q s h hk => ?_, fun hd u c p n q s h hk => ?_, fun hd u c p n q s h hk => ?_, fun hd u c p n q s h hk => ?_, fun hd u c p n q s h => ?_, fun hd u c p n q s t k m0 pl ph a h ht hpl em => ?_, fun hd u c p n q s h => ?_, fun hd u c p n q s h => ?_, fun hd u c p n q s h => ?_, fun hd u c p n q s h => ?_, fun hd u c p n q s h hk => ?_, fun hd u c p n q s h hk => ?_, fun hd u c p n q s h hk => ?_, fun hd u c p n q s h hk => ?_, fun hd u c p n q s x lo a q0 h hx x0 ha => ?_, fun hd u c p n q s h => ?_, fun hd u c p n q s h => ?_, fun hd u c p n q s h => ?_, fun hd u c p n q s x lo a q0 h hx x0 ha => ?_⟩
    · exact expression_okc ho (fun z => (ih (o + 1) z).1 (by omega) 1) (fun z => (ih (o + 1) z).2.2.2.2.2.2.2.2.2.2.2.2.2.2.2.2.2.2.2.2.2.2.2.1 (by omega)) (fun z => (ih (o + 1) z).2.2.2.2.2.2.2.2.2.2.2.2.2.2.2.2.2.2.2.2.2.2.2.2 (by omega)) h
    · refine pattern_okc ho (fun z u c p n q s h => ?_) (fun z u c p n q s h hk => ?_) (fun z u c p n q s h hk => ?_) h hN
      · have e := (ih (o + 1) z).2.1 (by omega) u c p n q s h
        unfold Pw at e
        rw [P1 z] at e
        exact e
      · have e := (ih (o + 1) z).2.2.2.2.2.2.2.1 (by omega) u c p n q s h hk
        have e2 : (Pw (o + 1)) = (fun w => PAc w (25 - o)) := by funext w; unfold Pw; rw [P1 z]
        rw [e2] at e
        exact e
      · have e := (ih (o + 1) z).2.2.2.2.2.2.2.2.2.1 (by omega) u c p n q s h hk
        have e2 : (Pw (o + 1)) = (fun w => PAc w (25 - o)) := by funext w; unfold Pw; rw [P1 z]
        rw [e2] at e
        exact e
    · exact row_okc (Ew := Gw o) Gw_st Gw_bd hm (fun _ => hE (by omega) 1) (fun z => absurd rfl z) h hN
    · exact row_okc (y := 1) (Ew := Pw o) Pw_st Pw_bd hm (fun z => absurd z (by decide)) (fun _ => hP (by omega)) h hN
    · exact rowUpTo_okc (Ew := Gw o) Gw_st Gw_bd hK (hR0 (by omega) most hm) h
    · exact rowUpTo_okc (Ew := Pw o) Pw_st Pw_bd hK (hR1 (by omega) most hm) h
    · exact tuple_okc (Ew := Gw o) Gw_st Gw_bd (hU0 (by omega) 8 23 (by omega) (by omega)) h hk hN
    · exact tuple_okc (Ew := Pw o) Pw_st Pw_bd (hU1 (by omega) 8 23 (by omega) (by omega)) h hk hN
    · exact list_okc (Ew := Gw o) Gw_st Gw_bd (fun _ => hE (by omega) 1) (fun z => absurd rfl z) (hR0 (by omega) 8 (by omega)) h hk hN
    · exact list_okc (y := 1) (Ew := Pw o) Pw_st Pw_bd (fun z => absurd z (by decide)) (fun _ => hP (by omega)) (hR1 (by omega) 8 (by omega)) h hk hN
    · refine body_okc (fun z u c p n q s h => ?_) h
      have e := (ih (o + 1) z).2.2.1 (by omega) 4000 (by omega) u c p n q s h
      have e2 : Gw (o + 1) = Bw o := by funext w; unfold Gw Bw; rw [show 25 - (o + 1) = 24 - o by omega]
      rw [e2] at e
      exact e
    · exact part_okc (hR0 (by omega) 4000 (by omega)) (hB (by omega)) h ht hpl em
    · exact choice_okc (hR0 (by omega) 4000 (by omega)) (hB (by omega)) h
    · exact oneCase_okc (N := N) (hP (by omega)) (hPT (by omega)) h
    · exact parts_okc (Ew := fun w => CHPc w (Bw o w) (Gw o w)) (fun u w => CHP_k (Bw_st u w) (Gw_st u w) (Bw_bd u) (Gw_bd u)) (fun u => CHP_bd) (fun _ => hC (by omega)) (fun z => absurd rfl z) h hN
    · exact parts_okc (y := 1) (Ew := fun w => CSPc w (Pw o w) (Bw o w) (Gw o w)) (fun u w => CSP_k (Pw_st u w) (Bw_st u w) (Gw_st u w) (Pw_bd u) (Bw_bd u) (Gw_bd u)) (fun u => CSP_bd) (fun z => absurd z (by decide)) (fun _ => hO (by omega)) h hN
    · exact caseOf_okc ho (hE (by omega) 1) (hS1 (by omega)) h hk
    · exact receive_okc ho (hE (by omega) 1) (hS1 (by omega)) (hB (by omega)) h hk
    · exact fun_okc ho (hU1 (by omega) 6 21 (by omega) (by omega)) (hPT (by omega)) h hk
    · exact atomOrCall_okc ho (hU0 (by omega) 6 21 (by omega) (by omega)) h hk hN
    · exact applied_okc ho (hU0 (by omega) 6 21 (by omega) (by omega)) h hx x0 ha hN
    · exact primary_okc ho (hE (by omega) 1) (hB (by omega)) (hS0 (by omega)) (hCA (by omega)) (hRE (by omega)) (hF (by omega)) (hAC (by omega)) (hT0 (by omega)) (hL0 (by omega)) h
    · exact unit_okc ho (fun z => (ih (o + 1) z).2.2.2.2.2.2.2.2.2.2.2.2.2.2.2.2.2.2.2.2.2.2.1 (by omega)) (hPR (by omega)) (hAP (by omega)) h
    · exact signed_okc ho (hUN (by omega)) h hN
    · exact matched_okc ho (hE (by omega)) h hx x0 ha hN
end
end
section
set_option maxRecDepth 100000
def KR {α : Type} (o : Option (MS × (α ⊕ Nat))) : Prop := ∀ w k, o = some (w, .inr k) → F w 667 ≠ 0
section
variable {α β γ : Type} {u w : MS} {N : Nat}
theorem KR_l {a : α} : KR (some (w, (.inl a : α ⊕ Nat))) := fun _ _ e => by injection e with e; injection e with _ e; cases e
theorem KR_none : KR (none : Option (MS × (α ⊕ Nat))) := fun _ _ e => by cases e
theorem KR_br {b : Bool} {p q : Option (MS × (α ⊕ Nat))} (h1 : KR p) (h2 : KR q) : KR (br b p q) := by cases b <;> assumption
theorem KR_ck {b : Bool} {p : Option (MS × (α ⊕ Nat))} (h1 : KR p) : KR (ck b p) := by
  cases b
  · exact KR_none
  · exact h1
theorem KR_lt {x : β} {f : β → Option (MS × (α ⊕ Nat))} (h2 : ∀ y, KR (f y)) : KR (lt x f) := h2 x
theorem KR_bnd {o : Option (MS × β)} {f : MS → β → Option (MS × (α ⊕ Nat))} (h2 : ∀ w r, KR (f w r)) : KR (bnd o f) := by
  cases o with
  | none => exact KR_none
  | some x => exact h2 x.1 x.2
theorem KR_T {o : Option (MS × (β ⊕ Nat))} {f : MS → β → Option (MS × (α ⊕ Nat))} (h1 : KR o) (h2 : ∀ w r, KR (f w r)) : KR (bTm o f) := by
  cases o with
  | none => exact KR_none
  | some x =>
    obtain ⟨w, r⟩ := x
    cases r with
    | inl a => exact h2 w a
    | inr k => exact fun w2 k2 e => by injection e with e; injection e with e1 _; exact e1 ▸ h1 w k rfl
theorem nz16 {a : Int} (c : Int) (hc : 1 ≤ c ∧ c ≤ 3) : (I c + 16 * I a : Int32).toInt ≠ 0 := by
  rw [show (16 : Int32) = I 16 from rfl, I_mul, I_add]
  unfold I
  rw [Int32.toInt_ofInt]
  unfold Int.bmod
  have h : ((2 ^ 32 : Nat) : Int) = 4294967296 := by decide
  rw [h]
  show (if (c + 16 * a) % 4294967296 < (4294967296 + 1) / 2 then (c + 16 * a) % 4294967296 else (c + 16 * a) % 4294967296 - 4294967296) ≠ 0
  split <;> omega
theorem KR_ref {c : Int32} (hc : c = 1 ∨ c = 2 ∨ c = 3) : KR (hm_Pa_refuse N u c) := by
  intro w k e
  unfold hm_Pa_refuse hb_Pa_refuse_0 at e
  cases hb : inb (u.1 665) 4002 with
  | false => rw [hb] at e; cases e
  | true =>
    rw [hb, ck_t, lt_e] at e
    injection e with e
    injection e with e1 _
    rw [← e1, I_of (u.2.2.1 8 _)]
    have z : ∀ c : Int, 1 ≤ c ∧ c ≤ 3 → F (upI u 667 (I c + 16 * I (u.2.2.1 8 (u.1 665).toNatClampNeg).toInt)) 667 ≠ 0 := fun c hc => by
      rw [I_of (I c + 16 * I (u.2.2.1 8 (u.1 665).toNatClampNeg).toInt), wi_e, F_wi (ti_rng _).1 (ti_rng _).2, if_pos rfl]
      exact nz16 c hc
    rcases hc with rfl | rfl | rfl
    · exact z 1 (by omega)
    · exact z 2 (by omega)
    · exact z 3 (by omega)
end
def KRS (S : SF_Pa_matched) : Prop := (∀ (u : MS) a0, KR (S.1 u a0)) ∧ (∀ (u : MS) a0, KR (S.2.1 u a0)) ∧ (∀ (u : MS), KR (S.2.2.1 u)) ∧ (∀ (u : MS), KR (S.2.2.2.1 u)) ∧ (∀ (u : MS), KR (S.2.2.2.2.1 u)) ∧ (∀ (u : MS) a0 a1, KR (S.2.2.2.2.2.1 u a0 a1)) ∧ (∀ (u : MS), KR (S.2.2.2.2.2.2.1 u)) ∧ (∀ (u : MS) a0, KR (S.2.2.2.2.2.2.2.1 u a0)) ∧ (∀ (u : MS), KR (S.2.2.2.2.2.2.2.2.1 u)) ∧ (∀ (u : MS), KR (S.2.2.2.2.2.2.2.2.2.1 u)) ∧ (∀ (u : MS), KR (S.2.2.2.2.2.2.2.2.2.2.1 u)) ∧ (∀ (u : MS), KR (S.2.2.2.2.2.2.2.2.2.2.2.1 u)) ∧ (∀ (u : MS), KR (S.2.2.2.2.2.2.2.2.2.2.2.2.1 u)) ∧ (∀ (u : MS), KR (S.2.2.2.2.2.2.2.2.2.2.2.2.2.1 u)) ∧ (∀ (u : MS) a0, KR (S.2.2.2.2.2.2.2.2.2.2.2.2.2.2.1 u a0)) ∧ (∀ (u : MS) a0, KR (S.2.2.2.2.2.2.2.2.2.2.2.2.2.2.2.1 u a0)) ∧ (∀ (u : MS) a0, KR (S.2.2.2.2.2.2.2.2.2.2.2.2.2.2.2.2.1 u a0)) ∧ (∀ (u : MS), KR (S.2.2.2.2.2.2.2.2.2.2.2.2.2.2.2.2.2.1 u)) ∧ (∀ (u : MS) a0 a1, KR (S.2.2.2.2.2.2.2.2.2.2.2.2.2.2.2.2.2.2.1 u a0 a1)) ∧ (∀ (u : MS) a0 a1 a2, KR (S.2.2.2.2.2.2.2.2.2.2.2.2.2.2.2.2.2.2.2 u a0 a1 a2))
section
variable {N : Nat}
theorem zrb_Pa_look_22 {G : Unit} {u : MS}  : KR (hb_Pa_look_22 N G u) := by
  unfold hb_Pa_look_22
  repeat' (first | with_reducible assumption | with_reducible exact KR_l | with_reducible refine KR_br ?_ ?_ | with_reducible refine KR_T ?_ (fun _ _ => ?_) | with_reducible refine KR_bnd (fun _ _ => ?_) | with_reducible refine KR_ck ?_ | with_reducible refine KR_lt (fun _ => ?_))
theorem zrb_Pa_look_0 {G : Unit} {u : MS}  : KR (hb_Pa_look_0 N G u) := by
  unfold hb_Pa_look_0
  repeat' (first | with_reducible assumption | with_reducible exact KR_l | with_reducible refine KR_br ?_ ?_ | with_reducible refine KR_T ?_ (fun _ _ => ?_) | with_reducible refine KR_bnd (fun _ _ => ?_) | with_reducible refine KR_ck ?_ | with_reducible exact zrb_Pa_look_22 | with_reducible exact KR_ref (by decide) | with_reducible refine KR_lt (fun _ => ?_))
theorem zr_Pa_look {u : MS}  : KR (hm_Pa_look N u) := by
  unfold hm_Pa_look
  exact zrb_Pa_look_0
theorem zrb_Pa_need_13 {G : Unit} {u : MS}  : KR (hb_Pa_need_13 N G u) := by
  unfold hb_Pa_need_13
  repeat' (first | with_reducible assumption | with_reducible exact KR_l | with_reducible refine KR_br ?_ ?_ | with_reducible refine KR_T ?_ (fun _ _ => ?_) | with_reducible refine KR_bnd (fun _ _ => ?_) | with_reducible refine KR_ck ?_ | with_reducible refine KR_lt (fun _ => ?_))
theorem zrb_Pa_need_0 {G : Unit} {u : MS} {v1 : Int32}  : KR (hb_Pa_need_0 N G u v1) := by
  unfold hb_Pa_need_0
  repeat' (first | with_reducible assumption | with_reducible exact KR_l | with_reducible refine KR_br ?_ ?_ | with_reducible refine KR_T ?_ (fun _ _ => ?_) | with_reducible refine KR_bnd (fun _ _ => ?_) | with_reducible refine KR_ck ?_ | with_reducible exact zrb_Pa_need_13 | with_reducible exact KR_ref (by decide) | with_reducible exact zr_Pa_look | with_reducible refine KR_lt (fun _ => ?_))
theorem zr_Pa_need {u : MS} {v1 : Int32}  : KR (hm_Pa_need N u v1) := by
  unfold hm_Pa_need
  exact zrb_Pa_need_0
theorem zrb_Pa_opens_23 {G : Unit} {u : MS}  : KR (hb_Pa_opens_23 N G u) := by
  unfold hb_Pa_opens_23
  repeat' (first | with_reducible assumption | with_reducible exact KR_l | with_reducible refine KR_br ?_ ?_ | with_reducible refine KR_T ?_ (fun _ _ => ?_) | with_reducible refine KR_bnd (fun _ _ => ?_) | with_reducible refine KR_ck ?_ | with_reducible refine KR_lt (fun _ => ?_))
theorem zrb_Pa_opens_9 {G : Unit} {u : MS}  : KR (hb_Pa_opens_9 N G u) := by
  unfold hb_Pa_opens_9
  repeat' (first | with_reducible assumption | with_reducible exact KR_l | with_reducible refine KR_br ?_ ?_ | with_reducible refine KR_T ?_ (fun _ _ => ?_) | with_reducible refine KR_bnd (fun _ _ => ?_) | with_reducible refine KR_ck ?_ | with_reducible exact zrb_Pa_opens_23 | with_reducible exact KR_ref (by decide) | with_reducible refine KR_lt (fun _ => ?_))
theorem zrb_Pa_opens_0 {G : Unit} {u : MS} {v1 : Int32}  : KR (hb_Pa_opens_0 N G u v1) := by
  unfold hb_Pa_opens_0
  repeat' (first | with_reducible assumption | with_reducible exact KR_l | with_reducible refine KR_br ?_ ?_ | with_reducible refine KR_T ?_ (fun _ _ => ?_) | with_reducible refine KR_bnd (fun _ _ => ?_) | with_reducible refine KR_ck ?_ | with_reducible exact zrb_Pa_opens_9 | with_reducible exact KR_ref (by decide) | with_reducible refine KR_lt (fun _ => ?_))
theorem zr_Pa_opens {u : MS} {v1 : Int32}  : KR (hm_Pa_opens N u v1) := by
  unfold hm_Pa_opens
  exact zrb_Pa_opens_0
theorem zrb_Pa_closeSigns_79 {G : (MS → Int32 → Int32 → Int32 → Option (MS × (Int32 ⊕ Nat)))} {u : MS} {v1 : Int32} {v2 : Int32} {v4 : Int32} {v5 : Int32} {v6 : Int32} (hG0 : ∀ (u : MS) a0 a1 a2, KR (G u a0 a1 a2)) : KR (hb_Pa_closeSigns_79 N G u v1 v2 v4 v5 v6) := by
  unfold hb_Pa_closeSigns_79
  repeat' (first | with_reducible assumption | with_reducible exact KR_l | with_reducible refine KR_br ?_ ?_ | with_reducible refine KR_T ?_ (fun _ _ => ?_) | with_reducible refine KR_bnd (fun _ _ => ?_) | with_reducible refine KR_ck ?_ | with_reducible exact hG0 _ _ _ _ | with_reducible refine KR_lt (fun _ => ?_))
theorem zrb_Pa_closeSigns_63 {G : (MS → Int32 → Int32 → Int32 → Option (MS × (Int32 ⊕ Nat)))} {u : MS} {v1 : Int32} {v2 : Int32} {v4 : Int32} {v5 : Int32} {v6 : Int32} {v7 : Int32} (hG0 : ∀ (u : MS) a0 a1 a2, KR (G u a0 a1 a2)) : KR (hb_Pa_closeSigns_63 N G u v1 v2 v4 v5 v6 v7) := by
  unfold hb_Pa_closeSigns_63
  repeat' (first | with_reducible assumption | with_reducible exact KR_l | with_reducible refine KR_br ?_ ?_ | with_reducible refine KR_T ?_ (fun _ _ => ?_) | with_reducible refine KR_bnd (fun _ _ => ?_) | with_reducible refine KR_ck ?_ | with_reducible exact zrb_Pa_closeSigns_79 hG0 | with_reducible exact KR_ref (by decide) | with_reducible exact hG0 _ _ _ _ | with_reducible refine KR_lt (fun _ => ?_))
theorem zrb_Pa_closeSigns_60 {G : (MS → Int32 → Int32 → Int32 → Option (MS × (Int32 ⊕ Nat)))} {u : MS} {v4 : Int32} (hG0 : ∀ (u : MS) a0 a1 a2, KR (G u a0 a1 a2)) : KR (hb_Pa_closeSigns_60 N G u v4) := by
  unfold hb_Pa_closeSigns_60
  repeat' (first | with_reducible assumption | with_reducible exact KR_l | with_reducible refine KR_br ?_ ?_ | with_reducible refine KR_T ?_ (fun _ _ => ?_) | with_reducible refine KR_bnd (fun _ _ => ?_) | with_reducible refine KR_ck ?_ | with_reducible exact hG0 _ _ _ _ | with_reducible refine KR_lt (fun _ => ?_))
theorem zrb_Pa_closeSigns_3 {G : (MS → Int32 → Int32 → Int32 → Option (MS × (Int32 ⊕ Nat)))} {u : MS} {v1 : Int32} {v2 : Int32} {v4 : Int32} (hG0 : ∀ (u : MS) a0 a1 a2, KR (G u a0 a1 a2)) : KR (hb_Pa_closeSigns_3 N G u v1 v2 v4) := by
  unfold hb_Pa_closeSigns_3
  repeat' (first | with_reducible assumption | with_reducible exact KR_l | with_reducible refine KR_br ?_ ?_ | with_reducible refine KR_T ?_ (fun _ _ => ?_) | with_reducible refine KR_bnd (fun _ _ => ?_) | with_reducible refine KR_ck ?_ | with_reducible exact zrb_Pa_closeSigns_60 hG0 | with_reducible exact zrb_Pa_closeSigns_63 hG0 | with_reducible exact hG0 _ _ _ _ | with_reducible refine KR_lt (fun _ => ?_))
theorem zrb_Pa_closeSigns_0 {G : (MS → Int32 → Int32 → Int32 → Option (MS × (Int32 ⊕ Nat)))} {u : MS} {v1 : Int32} {v2 : Int32} {v3 : Int32} (hG0 : ∀ (u : MS) a0 a1 a2, KR (G u a0 a1 a2)) : KR (hb_Pa_closeSigns_0 N G u v1 v2 v3) := by
  unfold hb_Pa_closeSigns_0
  repeat' (first | with_reducible assumption | with_reducible exact KR_l | with_reducible refine KR_br ?_ ?_ | with_reducible refine KR_T ?_ (fun _ _ => ?_) | with_reducible refine KR_bnd (fun _ _ => ?_) | with_reducible refine KR_ck ?_ | with_reducible exact hG0 _ _ _ _ | with_reducible refine KR_lt (fun _ => ?_))
theorem zrg_Pa_closeSigns (n : Nat) : (∀ (u : MS) a0 a1 a2, KR ((hg_Pa_closeSigns N n) u a0 a1 a2)) := by
  induction n with
  | zero => exact fun _ _ _ _ => KR_none
  | succ n ih => exact fun _ _ _ _ => zrb_Pa_closeSigns_3 (N := N) ih
theorem zr_Pa_closeSigns {u : MS} {v1 : Int32} {v2 : Int32} {v3 : Int32}  : KR (hm_Pa_closeSigns N u v1 v2 v3) := by
  unfold hm_Pa_closeSigns
  exact zrb_Pa_closeSigns_0 (zrg_Pa_closeSigns N)
theorem zrb_Pa_matched_69 {S : SF_Pa_matched} {G : Unit} {u : MS} {v1 : Int32} {v3 : Int32} {t0 : Int32} (hS : KRS S) : KR (hb_Pa_matched_69 N S G u v1 v3 t0) := by
  unfold hb_Pa_matched_69
  have hS2 := hS
  obtain ⟨s0, s1, s2, s3, s4, s5, s6, s7, s8, s9, s10, s11, s12, s13, s14, s15, s16, s17, s18, s19⟩ := hS2
  repeat' (first | with_reducible assumption | with_reducible exact KR_l | with_reducible refine KR_br ?_ ?_ | with_reducible refine KR_T ?_ (fun _ _ => ?_) | with_reducible refine KR_bnd (fun _ _ => ?_) | with_reducible refine KR_ck ?_ | with_reducible exact s0 _ _ | with_reducible exact s1 _ _ | with_reducible exact s2 _ | with_reducible exact s3 _ | with_reducible exact s4 _ | with_reducible exact s5 _ _ _ | with_reducible exact s6 _ | with_reducible exact s7 _ _ | with_reducible exact s8 _ | with_reducible exact s9 _ | with_reducible exact s10 _ | with_reducible exact s11 _ | with_reducible exact s12 _ | with_reducible exact s13 _ | with_reducible exact s14 _ _ | with_reducible exact s15 _ _ | with_reducible exact s16 _ _ | with_reducible exact s17 _ | with_reducible exact s18 _ _ _ | with_reducible exact s19 _ _ _ _ | with_reducible refine KR_lt (fun _ => ?_))
theorem zrb_Pa_matched_41 {S : SF_Pa_matched} {G : Unit} {u : MS} {v1 : Int32} {v2 : Int32} (hS : KRS S) : KR (hb_Pa_matched_41 N S G u v1 v2) := by
  unfold hb_Pa_matched_41
  have hS2 := hS
  obtain ⟨s0, s1, s2, s3, s4, s5, s6, s7, s8, s9, s10, s11, s12, s13, s14, s15, s16, s17, s18, s19⟩ := hS2
  repeat' (first | with_reducible assumption | with_reducible exact KR_l | with_reducible refine KR_br ?_ ?_ | with_reducible refine KR_T ?_ (fun _ _ => ?_) | with_reducible refine KR_bnd (fun _ _ => ?_) | with_reducible refine KR_ck ?_ | with_reducible exact zrb_Pa_matched_69 hS | with_reducible exact s0 _ _ | with_reducible exact s1 _ _ | with_reducible exact s2 _ | with_reducible exact s3 _ | with_reducible exact s4 _ | with_reducible exact s5 _ _ _ | with_reducible exact s6 _ | with_reducible exact s7 _ _ | with_reducible exact s8 _ | with_reducible exact s9 _ | with_reducible exact s10 _ | with_reducible exact s11 _ | with_reducible exact s12 _ | with_reducible exact s13 _ | with_reducible exact s14 _ _ | with_reducible exact s15 _ _ | with_reducible exact s16 _ _ | with_reducible exact s17 _ | with_reducible exact s18 _ _ _ | with_reducible exact s19 _ _ _ _ | with_reducible refine KR_lt (fun _ => ?_))
theorem zrb_Pa_matched_19 {S : SF_Pa_matched} {G : Unit} {u : MS} {v1 : Int32} {v2 : Int32} (hS : KRS S) : KR (hb_Pa_matched_19 N S G u v1 v2) := by
  unfold hb_Pa_matched_19
  have hS2 := hS
  obtain ⟨s0, s1, s2, s3, s4, s5, s6, s7, s8, s9, s10, s11, s12, s13, s14, s15, s16, s17, s18, s19⟩ := hS2
  repeat' (first | with_reducible assumption | with_reducible exact KR_l | with_reducible refine KR_br ?_ ?_ | with_reducible refine KR_T ?_ (fun _ _ => ?_) | with_reducible refine KR_bnd (fun _ _ => ?_) | with_reducible refine KR_ck ?_ | with_reducible exact zrb_Pa_matched_41 hS | with_reducible exact KR_ref (by decide) | with_reducible exact s0 _ _ | with_reducible exact s1 _ _ | with_reducible exact s2 _ | with_reducible exact s3 _ | with_reducible exact s4 _ | with_reducible exact s5 _ _ _ | with_reducible exact s6 _ | with_reducible exact s7 _ _ | with_reducible exact s8 _ | with_reducible exact s9 _ | with_reducible exact s10 _ | with_reducible exact s11 _ | with_reducible exact s12 _ | with_reducible exact s13 _ | with_reducible exact s14 _ _ | with_reducible exact s15 _ _ | with_reducible exact s16 _ _ | with_reducible exact s17 _ | with_reducible exact s18 _ _ _ | with_reducible exact s19 _ _ _ _ | with_reducible refine KR_lt (fun _ => ?_))
theorem zrb_Pa_matched_0 {S : SF_Pa_matched} {G : Unit} {u : MS} {v1 : Int32} (hS : KRS S) : KR (hb_Pa_matched_0 N S G u v1) := by
  unfold hb_Pa_matched_0
  have hS2 := hS
  obtain ⟨s0, s1, s2, s3, s4, s5, s6, s7, s8, s9, s10, s11, s12, s13, s14, s15, s16, s17, s18, s19⟩ := hS2
  repeat' (first | with_reducible assumption | with_reducible exact KR_l | with_reducible refine KR_br ?_ ?_ | with_reducible refine KR_T ?_ (fun _ _ => ?_) | with_reducible refine KR_bnd (fun _ _ => ?_) | with_reducible refine KR_ck ?_ | with_reducible exact zrb_Pa_matched_19 hS | with_reducible exact zr_Pa_look | with_reducible exact s0 _ _ | with_reducible exact s1 _ _ | with_reducible exact s2 _ | with_reducible exact s3 _ | with_reducible exact s4 _ | with_reducible exact s5 _ _ _ | with_reducible exact s6 _ | with_reducible exact s7 _ _ | with_reducible exact s8 _ | with_reducible exact s9 _ | with_reducible exact s10 _ | with_reducible exact s11 _ | with_reducible exact s12 _ | with_reducible exact s13 _ | with_reducible exact s14 _ _ | with_reducible exact s15 _ _ | with_reducible exact s16 _ _ | with_reducible exact s17 _ | with_reducible exact s18 _ _ _ | with_reducible exact s19 _ _ _ _ | with_reducible refine KR_lt (fun _ => ?_))
theorem zr_Pa_matched {S : SF_Pa_matched} {u : MS} {v1 : Int32} (hS : KRS S) : KR (hm_Pa_matched N S u v1) := by
  unfold hm_Pa_matched
  exact zrb_Pa_matched_0 hS
theorem zrb_Pa_applied_145 {S : SF_Pa_matched} {G : (MS → Int32 → Int32 → Int32 → Option (MS × (Int32 ⊕ Nat)))} {u : MS} {v2 : Int32} (hS : KRS S) (hG0 : ∀ (u : MS) a0 a1 a2, KR (G u a0 a1 a2)) : KR (hb_Pa_applied_145 N S G u v2) := by
  unfold hb_Pa_applied_145
  have hS2 := hS
  obtain ⟨s0, s1, s2, s3, s4, s5, s6, s7, s8, s9, s10, s11, s12, s13, s14, s15, s16, s17, s18, s19⟩ := hS2
  repeat' (first | with_reducible assumption | with_reducible exact KR_l | with_reducible refine KR_br ?_ ?_ | with_reducible refine KR_T ?_ (fun _ _ => ?_) | with_reducible refine KR_bnd (fun _ _ => ?_) | with_reducible refine KR_ck ?_ | with_reducible exact s0 _ _ | with_reducible exact s1 _ _ | with_reducible exact s2 _ | with_reducible exact s3 _ | with_reducible exact s4 _ | with_reducible exact s5 _ _ _ | with_reducible exact s6 _ | with_reducible exact s7 _ _ | with_reducible exact s8 _ | with_reducible exact s9 _ | with_reducible exact s10 _ | with_reducible exact s11 _ | with_reducible exact s12 _ | with_reducible exact s13 _ | with_reducible exact s14 _ _ | with_reducible exact s15 _ _ | with_reducible exact s16 _ _ | with_reducible exact s17 _ | with_reducible exact s18 _ _ _ | with_reducible exact s19 _ _ _ _ | with_reducible exact hG0 _ _ _ _ | with_reducible refine KR_lt (fun _ => ?_))
theorem zrb_Pa_applied_136 {S : SF_Pa_matched} {G : (MS → Int32 → Int32 → Int32 → Option (MS × (Int32 ⊕ Nat)))} {u : MS} {v2 : Int32} {v4 : Int32} {v7 : Int32} (hS : KRS S) (hG0 : ∀ (u : MS) a0 a1 a2, KR (G u a0 a1 a2)) : KR (hb_Pa_applied_136 N S G u v2 v4 v7) := by
  unfold hb_Pa_applied_136
  have hS2 := hS
  obtain ⟨s0, s1, s2, s3, s4, s5, s6, s7, s8, s9, s10, s11, s12, s13, s14, s15, s16, s17, s18, s19⟩ := hS2
  repeat' (first | with_reducible assumption | with_reducible exact KR_l | with_reducible refine KR_br ?_ ?_ | with_reducible refine KR_T ?_ (fun _ _ => ?_) | with_reducible refine KR_bnd (fun _ _ => ?_) | with_reducible refine KR_ck ?_ | with_reducible exact s0 _ _ | with_reducible exact s1 _ _ | with_reducible exact s2 _ | with_reducible exact s3 _ | with_reducible exact s4 _ | with_reducible exact s5 _ _ _ | with_reducible exact s6 _ | with_reducible exact s7 _ _ | with_reducible exact s8 _ | with_reducible exact s9 _ | with_reducible exact s10 _ | with_reducible exact s11 _ | with_reducible exact s12 _ | with_reducible exact s13 _ | with_reducible exact s14 _ _ | with_reducible exact s15 _ _ | with_reducible exact s16 _ _ | with_reducible exact s17 _ | with_reducible exact s18 _ _ _ | with_reducible exact s19 _ _ _ _ | with_reducible exact hG0 _ _ _ _ | with_reducible refine KR_lt (fun _ => ?_))
theorem zrb_Pa_applied_38 {S : SF_Pa_matched} {G : (MS → Int32 → Int32 → Int32 → Option (MS × (Int32 ⊕ Nat)))} {u : MS} {v2 : Int32} {v3 : Int32} {v4 : Int32} (hS : KRS S) (hG0 : ∀ (u : MS) a0 a1 a2, KR (G u a0 a1 a2)) : KR (hb_Pa_applied_38 N S G u v2 v3 v4) := by
  unfold hb_Pa_applied_38
  have hS2 := hS
  obtain ⟨s0, s1, s2, s3, s4, s5, s6, s7, s8, s9, s10, s11, s12, s13, s14, s15, s16, s17, s18, s19⟩ := hS2
  repeat' (first | with_reducible assumption | with_reducible exact KR_l | with_reducible refine KR_br ?_ ?_ | with_reducible refine KR_T ?_ (fun _ _ => ?_) | with_reducible refine KR_bnd (fun _ _ => ?_) | with_reducible refine KR_ck ?_ | with_reducible exact zrb_Pa_applied_136 hS hG0 | with_reducible exact zrb_Pa_applied_145 hS hG0 | with_reducible exact zr_Pa_look | with_reducible exact s0 _ _ | with_reducible exact s1 _ _ | with_reducible exact s2 _ | with_reducible exact s3 _ | with_reducible exact s4 _ | with_reducible exact s5 _ _ _ | with_reducible exact s6 _ | with_reducible exact s7 _ _ | with_reducible exact s8 _ | with_reducible exact s9 _ | with_reducible exact s10 _ | with_reducible exact s11 _ | with_reducible exact s12 _ | with_reducible exact s13 _ | with_reducible exact s14 _ _ | with_reducible exact s15 _ _ | with_reducible exact s16 _ _ | with_reducible exact s17 _ | with_reducible exact s18 _ _ _ | with_reducible exact s19 _ _ _ _ | with_reducible exact hG0 _ _ _ _ | with_reducible refine KR_lt (fun _ => ?_))
theorem zrb_Pa_applied_0 {S : SF_Pa_matched} {G : (MS → Int32 → Int32 → Int32 → Option (MS × (Int32 ⊕ Nat)))} {u : MS} {v1 : Int32} (hS : KRS S) (hG0 : ∀ (u : MS) a0 a1 a2, KR (G u a0 a1 a2)) : KR (hb_Pa_applied_0 N S G u v1) := by
  unfold hb_Pa_applied_0
  have hS2 := hS
  obtain ⟨s0, s1, s2, s3, s4, s5, s6, s7, s8, s9, s10, s11, s12, s13, s14, s15, s16, s17, s18, s19⟩ := hS2
  repeat' (first | with_reducible assumption | with_reducible exact KR_l | with_reducible refine KR_br ?_ ?_ | with_reducible refine KR_T ?_ (fun _ _ => ?_) | with_reducible refine KR_bnd (fun _ _ => ?_) | with_reducible refine KR_ck ?_ | with_reducible exact zr_Pa_look | with_reducible exact s0 _ _ | with_reducible exact s1 _ _ | with_reducible exact s2 _ | with_reducible exact s3 _ | with_reducible exact s4 _ | with_reducible exact s5 _ _ _ | with_reducible exact s6 _ | with_reducible exact s7 _ _ | with_reducible exact s8 _ | with_reducible exact s9 _ | with_reducible exact s10 _ | with_reducible exact s11 _ | with_reducible exact s12 _ | with_reducible exact s13 _ | with_reducible exact s14 _ _ | with_reducible exact s15 _ _ | with_reducible exact s16 _ _ | with_reducible exact s17 _ | with_reducible exact s18 _ _ _ | with_reducible exact s19 _ _ _ _ | with_reducible exact hG0 _ _ _ _ | with_reducible refine KR_lt (fun _ => ?_))
theorem zrg_Pa_applied {S : SF_Pa_matched} (hS : KRS S) (n : Nat) : (∀ (u : MS) a0 a1 a2, KR ((hg_Pa_applied N S n) u a0 a1 a2)) := by
  induction n with
  | zero => exact fun _ _ _ _ => KR_none
  | succ n ih => exact fun _ _ _ _ => zrb_Pa_applied_38 (N := N) hS ih
theorem zr_Pa_applied {S : SF_Pa_matched} {u : MS} {v1 : Int32} (hS : KRS S) : KR (hm_Pa_applied N S u v1) := by
  unfold hm_Pa_applied
  exact zrb_Pa_applied_0 hS (zrg_Pa_applied hS N)
theorem zrb_Pa_fun_0 {S : SF_Pa_matched} {G : Unit} {u : MS} (hS : KRS S) : KR (hb_Pa_fun_0 N S G u) := by
  unfold hb_Pa_fun_0
  have hS2 := hS
  obtain ⟨s0, s1, s2, s3, s4, s5, s6, s7, s8, s9, s10, s11, s12, s13, s14, s15, s16, s17, s18, s19⟩ := hS2
  repeat' (first | with_reducible assumption | with_reducible exact KR_l | with_reducible refine KR_br ?_ ?_ | with_reducible refine KR_T ?_ (fun _ _ => ?_) | with_reducible refine KR_bnd (fun _ _ => ?_) | with_reducible refine KR_ck ?_ | with_reducible exact zr_Pa_need | with_reducible exact zr_Pa_look | with_reducible exact s0 _ _ | with_reducible exact s1 _ _ | with_reducible exact s2 _ | with_reducible exact s3 _ | with_reducible exact s4 _ | with_reducible exact s5 _ _ _ | with_reducible exact s6 _ | with_reducible exact s7 _ _ | with_reducible exact s8 _ | with_reducible exact s9 _ | with_reducible exact s10 _ | with_reducible exact s11 _ | with_reducible exact s12 _ | with_reducible exact s13 _ | with_reducible exact s14 _ _ | with_reducible exact s15 _ _ | with_reducible exact s16 _ _ | with_reducible exact s17 _ | with_reducible exact s18 _ _ _ | with_reducible exact s19 _ _ _ _ | with_reducible refine KR_lt (fun _ => ?_))
theorem zr_Pa_fun {S : SF_Pa_matched} {u : MS} (hS : KRS S) : KR (hm_Pa_fun N S u) := by
  unfold hm_Pa_fun
  exact zrb_Pa_fun_0 hS
theorem zrb_Pa_receive_75 {S : SF_Pa_matched} {G : Unit} {u : MS} {v1 : Int32} {v2 : Int32} {v3 : Int32} {v4 : Int32} (hS : KRS S) : KR (hb_Pa_receive_75 N S G u v1 v2 v3 v4) := by
  unfold hb_Pa_receive_75
  have hS2 := hS
  obtain ⟨s0, s1, s2, s3, s4, s5, s6, s7, s8, s9, s10, s11, s12, s13, s14, s15, s16, s17, s18, s19⟩ := hS2
  repeat' (first | with_reducible assumption | with_reducible exact KR_l | with_reducible refine KR_br ?_ ?_ | with_reducible refine KR_T ?_ (fun _ _ => ?_) | with_reducible refine KR_bnd (fun _ _ => ?_) | with_reducible refine KR_ck ?_ | with_reducible exact zr_Pa_need | with_reducible exact s0 _ _ | with_reducible exact s1 _ _ | with_reducible exact s2 _ | with_reducible exact s3 _ | with_reducible exact s4 _ | with_reducible exact s5 _ _ _ | with_reducible exact s6 _ | with_reducible exact s7 _ _ | with_reducible exact s8 _ | with_reducible exact s9 _ | with_reducible exact s10 _ | with_reducible exact s11 _ | with_reducible exact s12 _ | with_reducible exact s13 _ | with_reducible exact s14 _ _ | with_reducible exact s15 _ _ | with_reducible exact s16 _ _ | with_reducible exact s17 _ | with_reducible exact s18 _ _ _ | with_reducible exact s19 _ _ _ _ | with_reducible refine KR_lt (fun _ => ?_))
theorem zrb_Pa_receive_32 {S : SF_Pa_matched} {G : Unit} {u : MS} {v1 : Int32} {t0 : Int32} (hS : KRS S) : KR (hb_Pa_receive_32 N S G u v1 t0) := by
  unfold hb_Pa_receive_32
  have hS2 := hS
  obtain ⟨s0, s1, s2, s3, s4, s5, s6, s7, s8, s9, s10, s11, s12, s13, s14, s15, s16, s17, s18, s19⟩ := hS2
  repeat' (first | with_reducible assumption | with_reducible exact KR_l | with_reducible refine KR_br ?_ ?_ | with_reducible refine KR_T ?_ (fun _ _ => ?_) | with_reducible refine KR_bnd (fun _ _ => ?_) | with_reducible refine KR_ck ?_ | with_reducible exact zrb_Pa_receive_75 hS | with_reducible exact zr_Pa_need | with_reducible exact zr_Pa_look | with_reducible exact s0 _ _ | with_reducible exact s1 _ _ | with_reducible exact s2 _ | with_reducible exact s3 _ | with_reducible exact s4 _ | with_reducible exact s5 _ _ _ | with_reducible exact s6 _ | with_reducible exact s7 _ _ | with_reducible exact s8 _ | with_reducible exact s9 _ | with_reducible exact s10 _ | with_reducible exact s11 _ | with_reducible exact s12 _ | with_reducible exact s13 _ | with_reducible exact s14 _ _ | with_reducible exact s15 _ _ | with_reducible exact s16 _ _ | with_reducible exact s17 _ | with_reducible exact s18 _ _ _ | with_reducible exact s19 _ _ _ _ | with_reducible refine KR_lt (fun _ => ?_))
theorem zrb_Pa_receive_0 {S : SF_Pa_matched} {G : Unit} {u : MS} (hS : KRS S) : KR (hb_Pa_receive_0 N S G u) := by
  unfold hb_Pa_receive_0
  have hS2 := hS
  obtain ⟨s0, s1, s2, s3, s4, s5, s6, s7, s8, s9, s10, s11, s12, s13, s14, s15, s16, s17, s18, s19⟩ := hS2
  repeat' (first | with_reducible assumption | with_reducible exact KR_l | with_reducible refine KR_br ?_ ?_ | with_reducible refine KR_T ?_ (fun _ _ => ?_) | with_reducible refine KR_bnd (fun _ _ => ?_) | with_reducible refine KR_ck ?_ | with_reducible exact zrb_Pa_receive_32 hS | with_reducible exact zr_Pa_look | with_reducible exact s0 _ _ | with_reducible exact s1 _ _ | with_reducible exact s2 _ | with_reducible exact s3 _ | with_reducible exact s4 _ | with_reducible exact s5 _ _ _ | with_reducible exact s6 _ | with_reducible exact s7 _ _ | with_reducible exact s8 _ | with_reducible exact s9 _ | with_reducible exact s10 _ | with_reducible exact s11 _ | with_reducible exact s12 _ | with_reducible exact s13 _ | with_reducible exact s14 _ _ | with_reducible exact s15 _ _ | with_reducible exact s16 _ _ | with_reducible exact s17 _ | with_reducible exact s18 _ _ _ | with_reducible exact s19 _ _ _ _ | with_reducible refine KR_lt (fun _ => ?_))
theorem zr_Pa_receive {S : SF_Pa_matched} {u : MS} (hS : KRS S) : KR (hm_Pa_receive N S u) := by
  unfold hm_Pa_receive
  exact zrb_Pa_receive_0 hS
theorem zrb_Pa_choice_0 {S : SF_Pa_matched} {G : Unit} {u : MS} (hS : KRS S) : KR (hb_Pa_choice_0 N S G u) := by
  unfold hb_Pa_choice_0
  have hS2 := hS
  obtain ⟨s0, s1, s2, s3, s4, s5, s6, s7, s8, s9, s10, s11, s12, s13, s14, s15, s16, s17, s18, s19⟩ := hS2
  repeat' (first | with_reducible assumption | with_reducible exact KR_l | with_reducible refine KR_br ?_ ?_ | with_reducible refine KR_T ?_ (fun _ _ => ?_) | with_reducible refine KR_bnd (fun _ _ => ?_) | with_reducible refine KR_ck ?_ | with_reducible exact zr_Pa_need | with_reducible exact s0 _ _ | with_reducible exact s1 _ _ | with_reducible exact s2 _ | with_reducible exact s3 _ | with_reducible exact s4 _ | with_reducible exact s5 _ _ _ | with_reducible exact s6 _ | with_reducible exact s7 _ _ | with_reducible exact s8 _ | with_reducible exact s9 _ | with_reducible exact s10 _ | with_reducible exact s11 _ | with_reducible exact s12 _ | with_reducible exact s13 _ | with_reducible exact s14 _ _ | with_reducible exact s15 _ _ | with_reducible exact s16 _ _ | with_reducible exact s17 _ | with_reducible exact s18 _ _ _ | with_reducible exact s19 _ _ _ _ | with_reducible refine KR_lt (fun _ => ?_))
theorem zr_Pa_choice {S : SF_Pa_matched} {u : MS} (hS : KRS S) : KR (hm_Pa_choice N S u) := by
  unfold hm_Pa_choice
  exact zrb_Pa_choice_0 hS
theorem zrb_Pa_part_30 {S : SF_Pa_matched} {G : Unit} {u : MS} {v1 : Int32} {v2 : Int32} {v3 : Int32} (hS : KRS S) : KR (hb_Pa_part_30 N S G u v1 v2 v3) := by
  unfold hb_Pa_part_30
  have hS2 := hS
  obtain ⟨s0, s1, s2, s3, s4, s5, s6, s7, s8, s9, s10, s11, s12, s13, s14, s15, s16, s17, s18, s19⟩ := hS2
  repeat' (first | with_reducible assumption | with_reducible exact KR_l | with_reducible refine KR_br ?_ ?_ | with_reducible refine KR_T ?_ (fun _ _ => ?_) | with_reducible refine KR_bnd (fun _ _ => ?_) | with_reducible refine KR_ck ?_ | with_reducible exact zr_Pa_need | with_reducible exact s0 _ _ | with_reducible exact s1 _ _ | with_reducible exact s2 _ | with_reducible exact s3 _ | with_reducible exact s4 _ | with_reducible exact s5 _ _ _ | with_reducible exact s6 _ | with_reducible exact s7 _ _ | with_reducible exact s8 _ | with_reducible exact s9 _ | with_reducible exact s10 _ | with_reducible exact s11 _ | with_reducible exact s12 _ | with_reducible exact s13 _ | with_reducible exact s14 _ _ | with_reducible exact s15 _ _ | with_reducible exact s16 _ _ | with_reducible exact s17 _ | with_reducible exact s18 _ _ _ | with_reducible exact s19 _ _ _ _ | with_reducible refine KR_lt (fun _ => ?_))
theorem zrb_Pa_part_0 {S : SF_Pa_matched} {G : Unit} {u : MS} {v1 : Int32} {v2 : Int32} (hS : KRS S) : KR (hb_Pa_part_0 N S G u v1 v2) := by
  unfold hb_Pa_part_0
  have hS2 := hS
  obtain ⟨s0, s1, s2, s3, s4, s5, s6, s7, s8, s9, s10, s11, s12, s13, s14, s15, s16, s17, s18, s19⟩ := hS2
  repeat' (first | with_reducible assumption | with_reducible exact KR_l | with_reducible refine KR_br ?_ ?_ | with_reducible refine KR_T ?_ (fun _ _ => ?_) | with_reducible refine KR_bnd (fun _ _ => ?_) | with_reducible refine KR_ck ?_ | with_reducible exact zrb_Pa_part_30 hS | with_reducible exact zr_Pa_look | with_reducible exact s0 _ _ | with_reducible exact s1 _ _ | with_reducible exact s2 _ | with_reducible exact s3 _ | with_reducible exact s4 _ | with_reducible exact s5 _ _ _ | with_reducible exact s6 _ | with_reducible exact s7 _ _ | with_reducible exact s8 _ | with_reducible exact s9 _ | with_reducible exact s10 _ | with_reducible exact s11 _ | with_reducible exact s12 _ | with_reducible exact s13 _ | with_reducible exact s14 _ _ | with_reducible exact s15 _ _ | with_reducible exact s16 _ _ | with_reducible exact s17 _ | with_reducible exact s18 _ _ _ | with_reducible exact s19 _ _ _ _ | with_reducible refine KR_lt (fun _ => ?_))
theorem zr_Pa_part {S : SF_Pa_matched} {u : MS} {v1 : Int32} {v2 : Int32} (hS : KRS S) : KR (hm_Pa_part N S u v1 v2) := by
  unfold hm_Pa_part
  exact zrb_Pa_part_0 hS
theorem zrb_Pa_oneCase_0 {S : SF_Pa_matched} {G : Unit} {u : MS} (hS : KRS S) : KR (hb_Pa_oneCase_0 N S G u) := by
  unfold hb_Pa_oneCase_0
  have hS2 := hS
  obtain ⟨s0, s1, s2, s3, s4, s5, s6, s7, s8, s9, s10, s11, s12, s13, s14, s15, s16, s17, s18, s19⟩ := hS2
  repeat' (first | with_reducible assumption | with_reducible exact KR_l | with_reducible refine KR_br ?_ ?_ | with_reducible refine KR_T ?_ (fun _ _ => ?_) | with_reducible refine KR_bnd (fun _ _ => ?_) | with_reducible refine KR_ck ?_ | with_reducible exact s0 _ _ | with_reducible exact s1 _ _ | with_reducible exact s2 _ | with_reducible exact s3 _ | with_reducible exact s4 _ | with_reducible exact s5 _ _ _ | with_reducible exact s6 _ | with_reducible exact s7 _ _ | with_reducible exact s8 _ | with_reducible exact s9 _ | with_reducible exact s10 _ | with_reducible exact s11 _ | with_reducible exact s12 _ | with_reducible exact s13 _ | with_reducible exact s14 _ _ | with_reducible exact s15 _ _ | with_reducible exact s16 _ _ | with_reducible exact s17 _ | with_reducible exact s18 _ _ _ | with_reducible exact s19 _ _ _ _ | with_reducible refine KR_lt (fun _ => ?_))
theorem zr_Pa_oneCase {S : SF_Pa_matched} {u : MS} (hS : KRS S) : KR (hm_Pa_oneCase N S u) := by
  unfold hm_Pa_oneCase
  exact zrb_Pa_oneCase_0 hS
theorem zrb_Pa_parts_75 {S : SF_Pa_matched} {G : (MS → Int32 → Int32 → Int32 → Int32 → Option (MS × (Int32 ⊕ Nat)))} {u : MS} {v2 : Int32} (hS : KRS S) (hG0 : ∀ (u : MS) a0 a1 a2 a3, KR (G u a0 a1 a2 a3)) : KR (hb_Pa_parts_75 N S G u v2) := by
  unfold hb_Pa_parts_75
  have hS2 := hS
  obtain ⟨s0, s1, s2, s3, s4, s5, s6, s7, s8, s9, s10, s11, s12, s13, s14, s15, s16, s17, s18, s19⟩ := hS2
  repeat' (first | with_reducible assumption | with_reducible exact KR_l | with_reducible refine KR_br ?_ ?_ | with_reducible refine KR_T ?_ (fun _ _ => ?_) | with_reducible refine KR_bnd (fun _ _ => ?_) | with_reducible refine KR_ck ?_ | with_reducible exact s0 _ _ | with_reducible exact s1 _ _ | with_reducible exact s2 _ | with_reducible exact s3 _ | with_reducible exact s4 _ | with_reducible exact s5 _ _ _ | with_reducible exact s6 _ | with_reducible exact s7 _ _ | with_reducible exact s8 _ | with_reducible exact s9 _ | with_reducible exact s10 _ | with_reducible exact s11 _ | with_reducible exact s12 _ | with_reducible exact s13 _ | with_reducible exact s14 _ _ | with_reducible exact s15 _ _ | with_reducible exact s16 _ _ | with_reducible exact s17 _ | with_reducible exact s18 _ _ _ | with_reducible exact s19 _ _ _ _ | with_reducible exact hG0 _ _ _ _ _ | with_reducible refine KR_lt (fun _ => ?_))
theorem zrb_Pa_parts_65 {S : SF_Pa_matched} {G : (MS → Int32 → Int32 → Int32 → Int32 → Option (MS × (Int32 ⊕ Nat)))} {u : MS} {v1 : Int32} {v2 : Int32} {v4 : Int32} {t1 : Int32} {t2 : Int32} (hS : KRS S) (hG0 : ∀ (u : MS) a0 a1 a2 a3, KR (G u a0 a1 a2 a3)) : KR (hb_Pa_parts_65 N S G u v1 v2 v4 t1 t2) := by
  unfold hb_Pa_parts_65
  have hS2 := hS
  obtain ⟨s0, s1, s2, s3, s4, s5, s6, s7, s8, s9, s10, s11, s12, s13, s14, s15, s16, s17, s18, s19⟩ := hS2
  repeat' (first | with_reducible assumption | with_reducible exact KR_l | with_reducible refine KR_br ?_ ?_ | with_reducible refine KR_T ?_ (fun _ _ => ?_) | with_reducible refine KR_bnd (fun _ _ => ?_) | with_reducible refine KR_ck ?_ | with_reducible exact s0 _ _ | with_reducible exact s1 _ _ | with_reducible exact s2 _ | with_reducible exact s3 _ | with_reducible exact s4 _ | with_reducible exact s5 _ _ _ | with_reducible exact s6 _ | with_reducible exact s7 _ _ | with_reducible exact s8 _ | with_reducible exact s9 _ | with_reducible exact s10 _ | with_reducible exact s11 _ | with_reducible exact s12 _ | with_reducible exact s13 _ | with_reducible exact s14 _ _ | with_reducible exact s15 _ _ | with_reducible exact s16 _ _ | with_reducible exact s17 _ | with_reducible exact s18 _ _ _ | with_reducible exact s19 _ _ _ _ | with_reducible exact hG0 _ _ _ _ _ | with_reducible refine KR_lt (fun _ => ?_))
theorem zrb_Pa_parts_21 {S : SF_Pa_matched} {G : (MS → Int32 → Int32 → Int32 → Int32 → Option (MS × (Int32 ⊕ Nat)))} {u : MS} {v1 : Int32} {v2 : Int32} {v3 : Int32} {v4 : Int32} (hS : KRS S) (hG0 : ∀ (u : MS) a0 a1 a2 a3, KR (G u a0 a1 a2 a3)) : KR (hb_Pa_parts_21 N S G u v1 v2 v3 v4) := by
  unfold hb_Pa_parts_21
  have hS2 := hS
  obtain ⟨s0, s1, s2, s3, s4, s5, s6, s7, s8, s9, s10, s11, s12, s13, s14, s15, s16, s17, s18, s19⟩ := hS2
  repeat' (first | with_reducible assumption | with_reducible exact KR_l | with_reducible refine KR_br ?_ ?_ | with_reducible refine KR_T ?_ (fun _ _ => ?_) | with_reducible refine KR_bnd (fun _ _ => ?_) | with_reducible refine KR_ck ?_ | with_reducible exact zrb_Pa_parts_65 hS hG0 | with_reducible exact zrb_Pa_parts_75 hS hG0 | with_reducible exact zr_Pa_look | with_reducible exact s0 _ _ | with_reducible exact s1 _ _ | with_reducible exact s2 _ | with_reducible exact s3 _ | with_reducible exact s4 _ | with_reducible exact s5 _ _ _ | with_reducible exact s6 _ | with_reducible exact s7 _ _ | with_reducible exact s8 _ | with_reducible exact s9 _ | with_reducible exact s10 _ | with_reducible exact s11 _ | with_reducible exact s12 _ | with_reducible exact s13 _ | with_reducible exact s14 _ _ | with_reducible exact s15 _ _ | with_reducible exact s16 _ _ | with_reducible exact s17 _ | with_reducible exact s18 _ _ _ | with_reducible exact s19 _ _ _ _ | with_reducible exact hG0 _ _ _ _ _ | with_reducible refine KR_lt (fun _ => ?_))
theorem zrb_Pa_parts_15 {S : SF_Pa_matched} {G : (MS → Int32 → Int32 → Int32 → Int32 → Option (MS × (Int32 ⊕ Nat)))} {u : MS} {v1 : Int32} {t0 : Int32} (hS : KRS S) (hG0 : ∀ (u : MS) a0 a1 a2 a3, KR (G u a0 a1 a2 a3)) : KR (hb_Pa_parts_15 N S G u v1 t0) := by
  unfold hb_Pa_parts_15
  have hS2 := hS
  obtain ⟨s0, s1, s2, s3, s4, s5, s6, s7, s8, s9, s10, s11, s12, s13, s14, s15, s16, s17, s18, s19⟩ := hS2
  repeat' (first | with_reducible assumption | with_reducible exact KR_l | with_reducible refine KR_br ?_ ?_ | with_reducible refine KR_T ?_ (fun _ _ => ?_) | with_reducible refine KR_bnd (fun _ _ => ?_) | with_reducible refine KR_ck ?_ | with_reducible exact s0 _ _ | with_reducible exact s1 _ _ | with_reducible exact s2 _ | with_reducible exact s3 _ | with_reducible exact s4 _ | with_reducible exact s5 _ _ _ | with_reducible exact s6 _ | with_reducible exact s7 _ _ | with_reducible exact s8 _ | with_reducible exact s9 _ | with_reducible exact s10 _ | with_reducible exact s11 _ | with_reducible exact s12 _ | with_reducible exact s13 _ | with_reducible exact s14 _ _ | with_reducible exact s15 _ _ | with_reducible exact s16 _ _ | with_reducible exact s17 _ | with_reducible exact s18 _ _ _ | with_reducible exact s19 _ _ _ _ | with_reducible exact hG0 _ _ _ _ _ | with_reducible refine KR_lt (fun _ => ?_))
theorem zrb_Pa_parts_0 {S : SF_Pa_matched} {G : (MS → Int32 → Int32 → Int32 → Int32 → Option (MS × (Int32 ⊕ Nat)))} {u : MS} {v1 : Int32} (hS : KRS S) (hG0 : ∀ (u : MS) a0 a1 a2 a3, KR (G u a0 a1 a2 a3)) : KR (hb_Pa_parts_0 N S G u v1) := by
  unfold hb_Pa_parts_0
  have hS2 := hS
  obtain ⟨s0, s1, s2, s3, s4, s5, s6, s7, s8, s9, s10, s11, s12, s13, s14, s15, s16, s17, s18, s19⟩ := hS2
  repeat' (first | with_reducible assumption | with_reducible exact KR_l | with_reducible refine KR_br ?_ ?_ | with_reducible refine KR_T ?_ (fun _ _ => ?_) | with_reducible refine KR_bnd (fun _ _ => ?_) | with_reducible refine KR_ck ?_ | with_reducible exact zrb_Pa_parts_15 hS hG0 | with_reducible exact s0 _ _ | with_reducible exact s1 _ _ | with_reducible exact s2 _ | with_reducible exact s3 _ | with_reducible exact s4 _ | with_reducible exact s5 _ _ _ | with_reducible exact s6 _ | with_reducible exact s7 _ _ | with_reducible exact s8 _ | with_reducible exact s9 _ | with_reducible exact s10 _ | with_reducible exact s11 _ | with_reducible exact s12 _ | with_reducible exact s13 _ | with_reducible exact s14 _ _ | with_reducible exact s15 _ _ | with_reducible exact s16 _ _ | with_reducible exact s17 _ | with_reducible exact s18 _ _ _ | with_reducible exact s19 _ _ _ _ | with_reducible exact hG0 _ _ _ _ _ | with_reducible refine KR_lt (fun _ => ?_))
theorem zrg_Pa_parts {S : SF_Pa_matched} (hS : KRS S) (n : Nat) : (∀ (u : MS) a0 a1 a2 a3, KR ((hg_Pa_parts N S n) u a0 a1 a2 a3)) := by
  induction n with
  | zero => exact fun _ _ _ _ _ => KR_none
  | succ n ih => exact fun _ _ _ _ _ => zrb_Pa_parts_21 (N := N) hS ih
theorem zr_Pa_parts {S : SF_Pa_matched} {u : MS} {v1 : Int32} (hS : KRS S) : KR (hm_Pa_parts N S u v1) := by
  unfold hm_Pa_parts
  exact zrb_Pa_parts_0 hS (zrg_Pa_parts hS N)
theorem zrb_Pa_caseOf_0 {S : SF_Pa_matched} {G : Unit} {u : MS} (hS : KRS S) : KR (hb_Pa_caseOf_0 N S G u) := by
  unfold hb_Pa_caseOf_0
  have hS2 := hS
  obtain ⟨s0, s1, s2, s3, s4, s5, s6, s7, s8, s9, s10, s11, s12, s13, s14, s15, s16, s17, s18, s19⟩ := hS2
  repeat' (first | with_reducible assumption | with_reducible exact KR_l | with_reducible refine KR_br ?_ ?_ | with_reducible refine KR_T ?_ (fun _ _ => ?_) | with_reducible refine KR_bnd (fun _ _ => ?_) | with_reducible refine KR_ck ?_ | with_reducible exact zr_Pa_need | with_reducible exact s0 _ _ | with_reducible exact s1 _ _ | with_reducible exact s2 _ | with_reducible exact s3 _ | with_reducible exact s4 _ | with_reducible exact s5 _ _ _ | with_reducible exact s6 _ | with_reducible exact s7 _ _ | with_reducible exact s8 _ | with_reducible exact s9 _ | with_reducible exact s10 _ | with_reducible exact s11 _ | with_reducible exact s12 _ | with_reducible exact s13 _ | with_reducible exact s14 _ _ | with_reducible exact s15 _ _ | with_reducible exact s16 _ _ | with_reducible exact s17 _ | with_reducible exact s18 _ _ _ | with_reducible exact s19 _ _ _ _ | with_reducible refine KR_lt (fun _ => ?_))
theorem zr_Pa_caseOf {S : SF_Pa_matched} {u : MS} (hS : KRS S) : KR (hm_Pa_caseOf N S u) := by
  unfold hm_Pa_caseOf
  exact zrb_Pa_caseOf_0 hS
theorem zrb_Pa_body_25 {S : SF_Pa_matched} {G : Unit} {u : MS} {t1 : Int32} (hS : KRS S) : KR (hb_Pa_body_25 N S G u t1) := by
  unfold hb_Pa_body_25
  have hS2 := hS
  obtain ⟨s0, s1, s2, s3, s4, s5, s6, s7, s8, s9, s10, s11, s12, s13, s14, s15, s16, s17, s18, s19⟩ := hS2
  repeat' (first | with_reducible assumption | with_reducible exact KR_l | with_reducible refine KR_br ?_ ?_ | with_reducible refine KR_T ?_ (fun _ _ => ?_) | with_reducible refine KR_bnd (fun _ _ => ?_) | with_reducible refine KR_ck ?_ | with_reducible exact zr_Pa_opens | with_reducible exact s0 _ _ | with_reducible exact s1 _ _ | with_reducible exact s2 _ | with_reducible exact s3 _ | with_reducible exact s4 _ | with_reducible exact s5 _ _ _ | with_reducible exact s6 _ | with_reducible exact s7 _ _ | with_reducible exact s8 _ | with_reducible exact s9 _ | with_reducible exact s10 _ | with_reducible exact s11 _ | with_reducible exact s12 _ | with_reducible exact s13 _ | with_reducible exact s14 _ _ | with_reducible exact s15 _ _ | with_reducible exact s16 _ _ | with_reducible exact s17 _ | with_reducible exact s18 _ _ _ | with_reducible exact s19 _ _ _ _ | with_reducible refine KR_lt (fun _ => ?_))
theorem zrb_Pa_body_20 {S : SF_Pa_matched} {G : Unit} {u : MS} (hS : KRS S) : KR (hb_Pa_body_20 N S G u) := by
  unfold hb_Pa_body_20
  have hS2 := hS
  obtain ⟨s0, s1, s2, s3, s4, s5, s6, s7, s8, s9, s10, s11, s12, s13, s14, s15, s16, s17, s18, s19⟩ := hS2
  repeat' (first | with_reducible assumption | with_reducible exact KR_l | with_reducible refine KR_br ?_ ?_ | with_reducible refine KR_T ?_ (fun _ _ => ?_) | with_reducible refine KR_bnd (fun _ _ => ?_) | with_reducible refine KR_ck ?_ | with_reducible exact zrb_Pa_body_25 hS | with_reducible exact s0 _ _ | with_reducible exact s1 _ _ | with_reducible exact s2 _ | with_reducible exact s3 _ | with_reducible exact s4 _ | with_reducible exact s5 _ _ _ | with_reducible exact s6 _ | with_reducible exact s7 _ _ | with_reducible exact s8 _ | with_reducible exact s9 _ | with_reducible exact s10 _ | with_reducible exact s11 _ | with_reducible exact s12 _ | with_reducible exact s13 _ | with_reducible exact s14 _ _ | with_reducible exact s15 _ _ | with_reducible exact s16 _ _ | with_reducible exact s17 _ | with_reducible exact s18 _ _ _ | with_reducible exact s19 _ _ _ _ | with_reducible refine KR_lt (fun _ => ?_))
theorem zrb_Pa_body_0 {S : SF_Pa_matched} {G : Unit} {u : MS} (hS : KRS S) : KR (hb_Pa_body_0 N S G u) := by
  unfold hb_Pa_body_0
  have hS2 := hS
  obtain ⟨s0, s1, s2, s3, s4, s5, s6, s7, s8, s9, s10, s11, s12, s13, s14, s15, s16, s17, s18, s19⟩ := hS2
  repeat' (first | with_reducible assumption | with_reducible exact KR_l | with_reducible refine KR_br ?_ ?_ | with_reducible refine KR_T ?_ (fun _ _ => ?_) | with_reducible refine KR_bnd (fun _ _ => ?_) | with_reducible refine KR_ck ?_ | with_reducible exact zrb_Pa_body_25 hS | with_reducible exact zrb_Pa_body_20 hS | with_reducible exact zr_Pa_look | with_reducible exact s0 _ _ | with_reducible exact s1 _ _ | with_reducible exact s2 _ | with_reducible exact s3 _ | with_reducible exact s4 _ | with_reducible exact s5 _ _ _ | with_reducible exact s6 _ | with_reducible exact s7 _ _ | with_reducible exact s8 _ | with_reducible exact s9 _ | with_reducible exact s10 _ | with_reducible exact s11 _ | with_reducible exact s12 _ | with_reducible exact s13 _ | with_reducible exact s14 _ _ | with_reducible exact s15 _ _ | with_reducible exact s16 _ _ | with_reducible exact s17 _ | with_reducible exact s18 _ _ _ | with_reducible exact s19 _ _ _ _ | with_reducible refine KR_lt (fun _ => ?_))
theorem zr_Pa_body {S : SF_Pa_matched} {u : MS} (hS : KRS S) : KR (hm_Pa_body N S u) := by
  unfold hm_Pa_body
  exact zrb_Pa_body_0 hS
theorem zrb_Pa_atomOrCall_0 {S : SF_Pa_matched} {G : Unit} {u : MS} (hS : KRS S) : KR (hb_Pa_atomOrCall_0 N S G u) := by
  unfold hb_Pa_atomOrCall_0
  have hS2 := hS
  obtain ⟨s0, s1, s2, s3, s4, s5, s6, s7, s8, s9, s10, s11, s12, s13, s14, s15, s16, s17, s18, s19⟩ := hS2
  repeat' (first | with_reducible assumption | with_reducible exact KR_l | with_reducible refine KR_br ?_ ?_ | with_reducible refine KR_T ?_ (fun _ _ => ?_) | with_reducible refine KR_bnd (fun _ _ => ?_) | with_reducible refine KR_ck ?_ | with_reducible exact zr_Pa_look | with_reducible exact s0 _ _ | with_reducible exact s1 _ _ | with_reducible exact s2 _ | with_reducible exact s3 _ | with_reducible exact s4 _ | with_reducible exact s5 _ _ _ | with_reducible exact s6 _ | with_reducible exact s7 _ _ | with_reducible exact s8 _ | with_reducible exact s9 _ | with_reducible exact s10 _ | with_reducible exact s11 _ | with_reducible exact s12 _ | with_reducible exact s13 _ | with_reducible exact s14 _ _ | with_reducible exact s15 _ _ | with_reducible exact s16 _ _ | with_reducible exact s17 _ | with_reducible exact s18 _ _ _ | with_reducible exact s19 _ _ _ _ | with_reducible refine KR_lt (fun _ => ?_))
theorem zr_Pa_atomOrCall {S : SF_Pa_matched} {u : MS} (hS : KRS S) : KR (hm_Pa_atomOrCall N S u) := by
  unfold hm_Pa_atomOrCall
  exact zrb_Pa_atomOrCall_0 hS
theorem zrb_Pa_primary_0 {S : SF_Pa_matched} {G : Unit} {u : MS} (hS : KRS S) : KR (hb_Pa_primary_0 N S G u) := by
  unfold hb_Pa_primary_0
  have hS2 := hS
  obtain ⟨s0, s1, s2, s3, s4, s5, s6, s7, s8, s9, s10, s11, s12, s13, s14, s15, s16, s17, s18, s19⟩ := hS2
  repeat' (first | with_reducible assumption | with_reducible exact KR_l | with_reducible refine KR_br ?_ ?_ | with_reducible refine KR_T ?_ (fun _ _ => ?_) | with_reducible refine KR_bnd (fun _ _ => ?_) | with_reducible refine KR_ck ?_ | with_reducible exact KR_ref (by decide) | with_reducible exact zr_Pa_look | with_reducible exact zr_Pa_need | with_reducible exact s0 _ _ | with_reducible exact s1 _ _ | with_reducible exact s2 _ | with_reducible exact s3 _ | with_reducible exact s4 _ | with_reducible exact s5 _ _ _ | with_reducible exact s6 _ | with_reducible exact s7 _ _ | with_reducible exact s8 _ | with_reducible exact s9 _ | with_reducible exact s10 _ | with_reducible exact s11 _ | with_reducible exact s12 _ | with_reducible exact s13 _ | with_reducible exact s14 _ _ | with_reducible exact s15 _ _ | with_reducible exact s16 _ _ | with_reducible exact s17 _ | with_reducible exact s18 _ _ _ | with_reducible exact s19 _ _ _ _ | with_reducible refine KR_lt (fun _ => ?_))
theorem zr_Pa_primary {S : SF_Pa_matched} {u : MS} (hS : KRS S) : KR (hm_Pa_primary N S u) := by
  unfold hm_Pa_primary
  exact zrb_Pa_primary_0 hS
theorem zrb_Pa_unit_69 {S : SF_Pa_matched} {G : Unit} {u : MS} {v2 : Int32} {t1 : Int32} (hS : KRS S) : KR (hb_Pa_unit_69 N S G u v2 t1) := by
  unfold hb_Pa_unit_69
  have hS2 := hS
  obtain ⟨s0, s1, s2, s3, s4, s5, s6, s7, s8, s9, s10, s11, s12, s13, s14, s15, s16, s17, s18, s19⟩ := hS2
  repeat' (first | with_reducible assumption | with_reducible exact KR_l | with_reducible refine KR_br ?_ ?_ | with_reducible refine KR_T ?_ (fun _ _ => ?_) | with_reducible refine KR_bnd (fun _ _ => ?_) | with_reducible refine KR_ck ?_ | with_reducible exact s0 _ _ | with_reducible exact s1 _ _ | with_reducible exact s2 _ | with_reducible exact s3 _ | with_reducible exact s4 _ | with_reducible exact s5 _ _ _ | with_reducible exact s6 _ | with_reducible exact s7 _ _ | with_reducible exact s8 _ | with_reducible exact s9 _ | with_reducible exact s10 _ | with_reducible exact s11 _ | with_reducible exact s12 _ | with_reducible exact s13 _ | with_reducible exact s14 _ _ | with_reducible exact s15 _ _ | with_reducible exact s16 _ _ | with_reducible exact s17 _ | with_reducible exact s18 _ _ _ | with_reducible exact s19 _ _ _ _ | with_reducible refine KR_lt (fun _ => ?_))
theorem zrb_Pa_unit_26 {S : SF_Pa_matched} {G : Unit} {u : MS} {v1 : Int32} (hS : KRS S) : KR (hb_Pa_unit_26 N S G u v1) := by
  unfold hb_Pa_unit_26
  have hS2 := hS
  obtain ⟨s0, s1, s2, s3, s4, s5, s6, s7, s8, s9, s10, s11, s12, s13, s14, s15, s16, s17, s18, s19⟩ := hS2
  repeat' (first | with_reducible assumption | with_reducible exact KR_l | with_reducible refine KR_br ?_ ?_ | with_reducible refine KR_T ?_ (fun _ _ => ?_) | with_reducible refine KR_bnd (fun _ _ => ?_) | with_reducible refine KR_ck ?_ | with_reducible exact zrb_Pa_unit_69 hS | with_reducible exact zr_Pa_opens | with_reducible exact zr_Pa_look | with_reducible exact s0 _ _ | with_reducible exact s1 _ _ | with_reducible exact s2 _ | with_reducible exact s3 _ | with_reducible exact s4 _ | with_reducible exact s5 _ _ _ | with_reducible exact s6 _ | with_reducible exact s7 _ _ | with_reducible exact s8 _ | with_reducible exact s9 _ | with_reducible exact s10 _ | with_reducible exact s11 _ | with_reducible exact s12 _ | with_reducible exact s13 _ | with_reducible exact s14 _ _ | with_reducible exact s15 _ _ | with_reducible exact s16 _ _ | with_reducible exact s17 _ | with_reducible exact s18 _ _ _ | with_reducible exact s19 _ _ _ _ | with_reducible refine KR_lt (fun _ => ?_))
theorem zrb_Pa_unit_0 {S : SF_Pa_matched} {G : Unit} {u : MS} (hS : KRS S) : KR (hb_Pa_unit_0 N S G u) := by
  unfold hb_Pa_unit_0
  have hS2 := hS
  obtain ⟨s0, s1, s2, s3, s4, s5, s6, s7, s8, s9, s10, s11, s12, s13, s14, s15, s16, s17, s18, s19⟩ := hS2
  repeat' (first | with_reducible assumption | with_reducible exact KR_l | with_reducible refine KR_br ?_ ?_ | with_reducible refine KR_T ?_ (fun _ _ => ?_) | with_reducible refine KR_bnd (fun _ _ => ?_) | with_reducible refine KR_ck ?_ | with_reducible exact zrb_Pa_unit_26 hS | with_reducible exact zr_Pa_look | with_reducible exact s0 _ _ | with_reducible exact s1 _ _ | with_reducible exact s2 _ | with_reducible exact s3 _ | with_reducible exact s4 _ | with_reducible exact s5 _ _ _ | with_reducible exact s6 _ | with_reducible exact s7 _ _ | with_reducible exact s8 _ | with_reducible exact s9 _ | with_reducible exact s10 _ | with_reducible exact s11 _ | with_reducible exact s12 _ | with_reducible exact s13 _ | with_reducible exact s14 _ _ | with_reducible exact s15 _ _ | with_reducible exact s16 _ _ | with_reducible exact s17 _ | with_reducible exact s18 _ _ _ | with_reducible exact s19 _ _ _ _ | with_reducible refine KR_lt (fun _ => ?_))
theorem zr_Pa_unit {S : SF_Pa_matched} {u : MS} (hS : KRS S) : KR (hm_Pa_unit N S u) := by
  unfold hm_Pa_unit
  exact zrb_Pa_unit_0 hS
theorem zrb_Pa_signed_155 {S : SF_Pa_matched} {G : (MS → Int32 → Int32 → Int32 → Int32 → Int32 → Int32 → Option (MS × (Int32 ⊕ Nat)))} {u : MS} {v1 : Int32} {v2 : Int32} {v3 : Int32} {v4 : Int32} {v5 : Int32} (hS : KRS S) (hG0 : ∀ (u : MS) a0 a1 a2 a3 a4 a5, KR (G u a0 a1 a2 a3 a4 a5)) : KR (hb_Pa_signed_155 N S G u v1 v2 v3 v4 v5) := by
  unfold hb_Pa_signed_155
  have hS2 := hS
  obtain ⟨s0, s1, s2, s3, s4, s5, s6, s7, s8, s9, s10, s11, s12, s13, s14, s15, s16, s17, s18, s19⟩ := hS2
  repeat' (first | with_reducible assumption | with_reducible exact KR_l | with_reducible refine KR_br ?_ ?_ | with_reducible refine KR_T ?_ (fun _ _ => ?_) | with_reducible refine KR_bnd (fun _ _ => ?_) | with_reducible refine KR_ck ?_ | with_reducible exact zr_Pa_closeSigns | with_reducible exact s0 _ _ | with_reducible exact s1 _ _ | with_reducible exact s2 _ | with_reducible exact s3 _ | with_reducible exact s4 _ | with_reducible exact s5 _ _ _ | with_reducible exact s6 _ | with_reducible exact s7 _ _ | with_reducible exact s8 _ | with_reducible exact s9 _ | with_reducible exact s10 _ | with_reducible exact s11 _ | with_reducible exact s12 _ | with_reducible exact s13 _ | with_reducible exact s14 _ _ | with_reducible exact s15 _ _ | with_reducible exact s16 _ _ | with_reducible exact s17 _ | with_reducible exact s18 _ _ _ | with_reducible exact s19 _ _ _ _ | with_reducible exact hG0 _ _ _ _ _ _ _ | with_reducible refine KR_lt (fun _ => ?_))
theorem zrb_Pa_signed_127 {S : SF_Pa_matched} {G : (MS → Int32 → Int32 → Int32 → Int32 → Int32 → Int32 → Option (MS × (Int32 ⊕ Nat)))} {u : MS} {v1 : Int32} {v2 : Int32} {v3 : Int32} {v4 : Int32} {v5 : Int32} {v6 : Int32} (hS : KRS S) (hG0 : ∀ (u : MS) a0 a1 a2 a3 a4 a5, KR (G u a0 a1 a2 a3 a4 a5)) : KR (hb_Pa_signed_127 N S G u v1 v2 v3 v4 v5 v6) := by
  unfold hb_Pa_signed_127
  have hS2 := hS
  obtain ⟨s0, s1, s2, s3, s4, s5, s6, s7, s8, s9, s10, s11, s12, s13, s14, s15, s16, s17, s18, s19⟩ := hS2
  repeat' (first | with_reducible assumption | with_reducible exact KR_l | with_reducible refine KR_br ?_ ?_ | with_reducible refine KR_T ?_ (fun _ _ => ?_) | with_reducible refine KR_bnd (fun _ _ => ?_) | with_reducible refine KR_ck ?_ | with_reducible exact s0 _ _ | with_reducible exact s1 _ _ | with_reducible exact s2 _ | with_reducible exact s3 _ | with_reducible exact s4 _ | with_reducible exact s5 _ _ _ | with_reducible exact s6 _ | with_reducible exact s7 _ _ | with_reducible exact s8 _ | with_reducible exact s9 _ | with_reducible exact s10 _ | with_reducible exact s11 _ | with_reducible exact s12 _ | with_reducible exact s13 _ | with_reducible exact s14 _ _ | with_reducible exact s15 _ _ | with_reducible exact s16 _ _ | with_reducible exact s17 _ | with_reducible exact s18 _ _ _ | with_reducible exact s19 _ _ _ _ | with_reducible exact hG0 _ _ _ _ _ _ _ | with_reducible refine KR_lt (fun _ => ?_))
theorem zrb_Pa_signed_102 {S : SF_Pa_matched} {G : (MS → Int32 → Int32 → Int32 → Int32 → Int32 → Int32 → Option (MS × (Int32 ⊕ Nat)))} {u : MS} {v1 : Int32} {v2 : Int32} {v3 : Int32} {v4 : Int32} {v5 : Int32} {v6 : Int32} {v7 : Int32} (hS : KRS S) (hG0 : ∀ (u : MS) a0 a1 a2 a3 a4 a5, KR (G u a0 a1 a2 a3 a4 a5)) : KR (hb_Pa_signed_102 N S G u v1 v2 v3 v4 v5 v6 v7) := by
  unfold hb_Pa_signed_102
  have hS2 := hS
  obtain ⟨s0, s1, s2, s3, s4, s5, s6, s7, s8, s9, s10, s11, s12, s13, s14, s15, s16, s17, s18, s19⟩ := hS2
  repeat' (first | with_reducible assumption | with_reducible exact KR_l | with_reducible refine KR_br ?_ ?_ | with_reducible refine KR_T ?_ (fun _ _ => ?_) | with_reducible refine KR_bnd (fun _ _ => ?_) | with_reducible refine KR_ck ?_ | with_reducible exact zrb_Pa_signed_127 hS hG0 | with_reducible exact s0 _ _ | with_reducible exact s1 _ _ | with_reducible exact s2 _ | with_reducible exact s3 _ | with_reducible exact s4 _ | with_reducible exact s5 _ _ _ | with_reducible exact s6 _ | with_reducible exact s7 _ _ | with_reducible exact s8 _ | with_reducible exact s9 _ | with_reducible exact s10 _ | with_reducible exact s11 _ | with_reducible exact s12 _ | with_reducible exact s13 _ | with_reducible exact s14 _ _ | with_reducible exact s15 _ _ | with_reducible exact s16 _ _ | with_reducible exact s17 _ | with_reducible exact s18 _ _ _ | with_reducible exact s19 _ _ _ _ | with_reducible exact hG0 _ _ _ _ _ _ _ | with_reducible refine KR_lt (fun _ => ?_))
theorem zrb_Pa_signed_24 {S : SF_Pa_matched} {G : (MS → Int32 → Int32 → Int32 → Int32 → Int32 → Int32 → Option (MS × (Int32 ⊕ Nat)))} {u : MS} {v1 : Int32} {v2 : Int32} {v3 : Int32} {v4 : Int32} {v5 : Int32} {v6 : Int32} (hS : KRS S) (hG0 : ∀ (u : MS) a0 a1 a2 a3 a4 a5, KR (G u a0 a1 a2 a3 a4 a5)) : KR (hb_Pa_signed_24 N S G u v1 v2 v3 v4 v5 v6) := by
  unfold hb_Pa_signed_24
  have hS2 := hS
  obtain ⟨s0, s1, s2, s3, s4, s5, s6, s7, s8, s9, s10, s11, s12, s13, s14, s15, s16, s17, s18, s19⟩ := hS2
  repeat' (first | with_reducible assumption | with_reducible exact KR_l | with_reducible refine KR_br ?_ ?_ | with_reducible refine KR_T ?_ (fun _ _ => ?_) | with_reducible refine KR_bnd (fun _ _ => ?_) | with_reducible refine KR_ck ?_ | with_reducible exact zr_Pa_closeSigns | with_reducible exact zrb_Pa_signed_102 hS hG0 | with_reducible exact zrb_Pa_signed_155 hS hG0 | with_reducible exact zrb_Pa_signed_127 hS hG0 | with_reducible exact zr_Pa_look | with_reducible exact s0 _ _ | with_reducible exact s1 _ _ | with_reducible exact s2 _ | with_reducible exact s3 _ | with_reducible exact s4 _ | with_reducible exact s5 _ _ _ | with_reducible exact s6 _ | with_reducible exact s7 _ _ | with_reducible exact s8 _ | with_reducible exact s9 _ | with_reducible exact s10 _ | with_reducible exact s11 _ | with_reducible exact s12 _ | with_reducible exact s13 _ | with_reducible exact s14 _ _ | with_reducible exact s15 _ _ | with_reducible exact s16 _ _ | with_reducible exact s17 _ | with_reducible exact s18 _ _ _ | with_reducible exact s19 _ _ _ _ | with_reducible exact hG0 _ _ _ _ _ _ _ | with_reducible refine KR_lt (fun _ => ?_))
theorem zrb_Pa_signed_0 {S : SF_Pa_matched} {G : (MS → Int32 → Int32 → Int32 → Int32 → Int32 → Int32 → Option (MS × (Int32 ⊕ Nat)))} {u : MS} (hS : KRS S) (hG0 : ∀ (u : MS) a0 a1 a2 a3 a4 a5, KR (G u a0 a1 a2 a3 a4 a5)) : KR (hb_Pa_signed_0 N S G u) := by
  unfold hb_Pa_signed_0
  have hS2 := hS
  obtain ⟨s0, s1, s2, s3, s4, s5, s6, s7, s8, s9, s10, s11, s12, s13, s14, s15, s16, s17, s18, s19⟩ := hS2
  repeat' (first | with_reducible assumption | with_reducible exact KR_l | with_reducible refine KR_br ?_ ?_ | with_reducible refine KR_T ?_ (fun _ _ => ?_) | with_reducible refine KR_bnd (fun _ _ => ?_) | with_reducible refine KR_ck ?_ | with_reducible exact s0 _ _ | with_reducible exact s1 _ _ | with_reducible exact s2 _ | with_reducible exact s3 _ | with_reducible exact s4 _ | with_reducible exact s5 _ _ _ | with_reducible exact s6 _ | with_reducible exact s7 _ _ | with_reducible exact s8 _ | with_reducible exact s9 _ | with_reducible exact s10 _ | with_reducible exact s11 _ | with_reducible exact s12 _ | with_reducible exact s13 _ | with_reducible exact s14 _ _ | with_reducible exact s15 _ _ | with_reducible exact s16 _ _ | with_reducible exact s17 _ | with_reducible exact s18 _ _ _ | with_reducible exact s19 _ _ _ _ | with_reducible exact hG0 _ _ _ _ _ _ _ | with_reducible refine KR_lt (fun _ => ?_))
theorem zrg_Pa_signed {S : SF_Pa_matched} (hS : KRS S) (n : Nat) : (∀ (u : MS) a0 a1 a2 a3 a4 a5, KR ((hg_Pa_signed N S n) u a0 a1 a2 a3 a4 a5)) := by
  induction n with
  | zero => exact fun _ _ _ _ _ _ _ => KR_none
  | succ n ih => exact fun _ _ _ _ _ _ _ => zrb_Pa_signed_24 (N := N) hS ih
theorem zr_Pa_signed {S : SF_Pa_matched} {u : MS} (hS : KRS S) : KR (hm_Pa_signed N S u) := by
  unfold hm_Pa_signed
  exact zrb_Pa_signed_0 hS (zrg_Pa_signed hS N)
theorem zrb_Pa_expression_84 {S : SF_Pa_matched} {G : Unit} {u : MS} {v4 : Int32} (hS : KRS S) : KR (hb_Pa_expression_84 N S G u v4) := by
  unfold hb_Pa_expression_84
  have hS2 := hS
  obtain ⟨s0, s1, s2, s3, s4, s5, s6, s7, s8, s9, s10, s11, s12, s13, s14, s15, s16, s17, s18, s19⟩ := hS2
  repeat' (first | with_reducible assumption | with_reducible exact KR_l | with_reducible refine KR_br ?_ ?_ | with_reducible refine KR_T ?_ (fun _ _ => ?_) | with_reducible refine KR_bnd (fun _ _ => ?_) | with_reducible refine KR_ck ?_ | with_reducible exact s0 _ _ | with_reducible exact s1 _ _ | with_reducible exact s2 _ | with_reducible exact s3 _ | with_reducible exact s4 _ | with_reducible exact s5 _ _ _ | with_reducible exact s6 _ | with_reducible exact s7 _ _ | with_reducible exact s8 _ | with_reducible exact s9 _ | with_reducible exact s10 _ | with_reducible exact s11 _ | with_reducible exact s12 _ | with_reducible exact s13 _ | with_reducible exact s14 _ _ | with_reducible exact s15 _ _ | with_reducible exact s16 _ _ | with_reducible exact s17 _ | with_reducible exact s18 _ _ _ | with_reducible exact s19 _ _ _ _ | with_reducible refine KR_lt (fun _ => ?_))
theorem zrb_Pa_expression_28 {S : SF_Pa_matched} {G : Unit} {u : MS} {v2 : Int32} {t1 : Int32} (hS : KRS S) : KR (hb_Pa_expression_28 N S G u v2 t1) := by
  unfold hb_Pa_expression_28
  have hS2 := hS
  obtain ⟨s0, s1, s2, s3, s4, s5, s6, s7, s8, s9, s10, s11, s12, s13, s14, s15, s16, s17, s18, s19⟩ := hS2
  repeat' (first | with_reducible assumption | with_reducible exact KR_l | with_reducible refine KR_br ?_ ?_ | with_reducible refine KR_T ?_ (fun _ _ => ?_) | with_reducible refine KR_bnd (fun _ _ => ?_) | with_reducible refine KR_ck ?_ | with_reducible exact zrb_Pa_expression_84 hS | with_reducible exact zr_Pa_opens | with_reducible exact s0 _ _ | with_reducible exact s1 _ _ | with_reducible exact s2 _ | with_reducible exact s3 _ | with_reducible exact s4 _ | with_reducible exact s5 _ _ _ | with_reducible exact s6 _ | with_reducible exact s7 _ _ | with_reducible exact s8 _ | with_reducible exact s9 _ | with_reducible exact s10 _ | with_reducible exact s11 _ | with_reducible exact s12 _ | with_reducible exact s13 _ | with_reducible exact s14 _ _ | with_reducible exact s15 _ _ | with_reducible exact s16 _ _ | with_reducible exact s17 _ | with_reducible exact s18 _ _ _ | with_reducible exact s19 _ _ _ _ | with_reducible refine KR_lt (fun _ => ?_))
theorem zrb_Pa_expression_27 {S : SF_Pa_matched} {G : Unit} {u : MS} {v2 : Int32} (hS : KRS S) : KR (hb_Pa_expression_27 N S G u v2) := by
  unfold hb_Pa_expression_27
  have hS2 := hS
  obtain ⟨s0, s1, s2, s3, s4, s5, s6, s7, s8, s9, s10, s11, s12, s13, s14, s15, s16, s17, s18, s19⟩ := hS2
  repeat' (first | with_reducible assumption | with_reducible exact KR_l | with_reducible refine KR_br ?_ ?_ | with_reducible refine KR_T ?_ (fun _ _ => ?_) | with_reducible refine KR_bnd (fun _ _ => ?_) | with_reducible refine KR_ck ?_ | with_reducible exact zrb_Pa_expression_28 hS | with_reducible exact s0 _ _ | with_reducible exact s1 _ _ | with_reducible exact s2 _ | with_reducible exact s3 _ | with_reducible exact s4 _ | with_reducible exact s5 _ _ _ | with_reducible exact s6 _ | with_reducible exact s7 _ _ | with_reducible exact s8 _ | with_reducible exact s9 _ | with_reducible exact s10 _ | with_reducible exact s11 _ | with_reducible exact s12 _ | with_reducible exact s13 _ | with_reducible exact s14 _ _ | with_reducible exact s15 _ _ | with_reducible exact s16 _ _ | with_reducible exact s17 _ | with_reducible exact s18 _ _ _ | with_reducible exact s19 _ _ _ _ | with_reducible refine KR_lt (fun _ => ?_))
theorem zrb_Pa_expression_23 {S : SF_Pa_matched} {G : Unit} {u : MS} {v2 : Int32} (hS : KRS S) : KR (hb_Pa_expression_23 N S G u v2) := by
  unfold hb_Pa_expression_23
  have hS2 := hS
  obtain ⟨s0, s1, s2, s3, s4, s5, s6, s7, s8, s9, s10, s11, s12, s13, s14, s15, s16, s17, s18, s19⟩ := hS2
  repeat' (first | with_reducible assumption | with_reducible exact KR_l | with_reducible refine KR_br ?_ ?_ | with_reducible refine KR_T ?_ (fun _ _ => ?_) | with_reducible refine KR_bnd (fun _ _ => ?_) | with_reducible refine KR_ck ?_ | with_reducible exact zrb_Pa_expression_28 hS | with_reducible exact s0 _ _ | with_reducible exact s1 _ _ | with_reducible exact s2 _ | with_reducible exact s3 _ | with_reducible exact s4 _ | with_reducible exact s5 _ _ _ | with_reducible exact s6 _ | with_reducible exact s7 _ _ | with_reducible exact s8 _ | with_reducible exact s9 _ | with_reducible exact s10 _ | with_reducible exact s11 _ | with_reducible exact s12 _ | with_reducible exact s13 _ | with_reducible exact s14 _ _ | with_reducible exact s15 _ _ | with_reducible exact s16 _ _ | with_reducible exact s17 _ | with_reducible exact s18 _ _ _ | with_reducible exact s19 _ _ _ _ | with_reducible refine KR_lt (fun _ => ?_))
theorem zrb_Pa_expression_0 {S : SF_Pa_matched} {G : Unit} {u : MS} {v1 : Int32} (hS : KRS S) : KR (hb_Pa_expression_0 N S G u v1) := by
  unfold hb_Pa_expression_0
  have hS2 := hS
  obtain ⟨s0, s1, s2, s3, s4, s5, s6, s7, s8, s9, s10, s11, s12, s13, s14, s15, s16, s17, s18, s19⟩ := hS2
  repeat' (first | with_reducible assumption | with_reducible exact KR_l | with_reducible refine KR_br ?_ ?_ | with_reducible refine KR_T ?_ (fun _ _ => ?_) | with_reducible refine KR_bnd (fun _ _ => ?_) | with_reducible refine KR_ck ?_ | with_reducible exact zrb_Pa_expression_23 hS | with_reducible exact zrb_Pa_expression_27 hS | with_reducible exact zr_Pa_look | with_reducible exact s0 _ _ | with_reducible exact s1 _ _ | with_reducible exact s2 _ | with_reducible exact s3 _ | with_reducible exact s4 _ | with_reducible exact s5 _ _ _ | with_reducible exact s6 _ | with_reducible exact s7 _ _ | with_reducible exact s8 _ | with_reducible exact s9 _ | with_reducible exact s10 _ | with_reducible exact s11 _ | with_reducible exact s12 _ | with_reducible exact s13 _ | with_reducible exact s14 _ _ | with_reducible exact s15 _ _ | with_reducible exact s16 _ _ | with_reducible exact s17 _ | with_reducible exact s18 _ _ _ | with_reducible exact s19 _ _ _ _ | with_reducible refine KR_lt (fun _ => ?_))
theorem zr_Pa_expression {S : SF_Pa_matched} {u : MS} {v1 : Int32} (hS : KRS S) : KR (hm_Pa_expression N S u v1) := by
  unfold hm_Pa_expression
  exact zrb_Pa_expression_0 hS
theorem zrb_Pa_list_80 {S : SF_Pa_matched} {G : Unit} {u : MS} {v2 : Int32} {v3 : Int32} {v4 : Int32} (hS : KRS S) : KR (hb_Pa_list_80 N S G u v2 v3 v4) := by
  unfold hb_Pa_list_80
  have hS2 := hS
  obtain ⟨s0, s1, s2, s3, s4, s5, s6, s7, s8, s9, s10, s11, s12, s13, s14, s15, s16, s17, s18, s19⟩ := hS2
  repeat' (first | with_reducible assumption | with_reducible exact KR_l | with_reducible refine KR_br ?_ ?_ | with_reducible refine KR_T ?_ (fun _ _ => ?_) | with_reducible refine KR_bnd (fun _ _ => ?_) | with_reducible refine KR_ck ?_ | with_reducible exact zr_Pa_need | with_reducible exact s0 _ _ | with_reducible exact s1 _ _ | with_reducible exact s2 _ | with_reducible exact s3 _ | with_reducible exact s4 _ | with_reducible exact s5 _ _ _ | with_reducible exact s6 _ | with_reducible exact s7 _ _ | with_reducible exact s8 _ | with_reducible exact s9 _ | with_reducible exact s10 _ | with_reducible exact s11 _ | with_reducible exact s12 _ | with_reducible exact s13 _ | with_reducible exact s14 _ _ | with_reducible exact s15 _ _ | with_reducible exact s16 _ _ | with_reducible exact s17 _ | with_reducible exact s18 _ _ _ | with_reducible exact s19 _ _ _ _ | with_reducible refine KR_lt (fun _ => ?_))
theorem zrb_Pa_list_78 {S : SF_Pa_matched} {G : Unit} {u : MS} {v2 : Int32} {v3 : Int32} {t0 : Int32} (hS : KRS S) : KR (hb_Pa_list_78 N S G u v2 v3 t0) := by
  unfold hb_Pa_list_78
  have hS2 := hS
  obtain ⟨s0, s1, s2, s3, s4, s5, s6, s7, s8, s9, s10, s11, s12, s13, s14, s15, s16, s17, s18, s19⟩ := hS2
  repeat' (first | with_reducible assumption | with_reducible exact KR_l | with_reducible refine KR_br ?_ ?_ | with_reducible refine KR_T ?_ (fun _ _ => ?_) | with_reducible refine KR_bnd (fun _ _ => ?_) | with_reducible refine KR_ck ?_ | with_reducible exact zrb_Pa_list_80 hS | with_reducible exact s0 _ _ | with_reducible exact s1 _ _ | with_reducible exact s2 _ | with_reducible exact s3 _ | with_reducible exact s4 _ | with_reducible exact s5 _ _ _ | with_reducible exact s6 _ | with_reducible exact s7 _ _ | with_reducible exact s8 _ | with_reducible exact s9 _ | with_reducible exact s10 _ | with_reducible exact s11 _ | with_reducible exact s12 _ | with_reducible exact s13 _ | with_reducible exact s14 _ _ | with_reducible exact s15 _ _ | with_reducible exact s16 _ _ | with_reducible exact s17 _ | with_reducible exact s18 _ _ _ | with_reducible exact s19 _ _ _ _ | with_reducible refine KR_lt (fun _ => ?_))
theorem zrb_Pa_list_35 {S : SF_Pa_matched} {G : Unit} {u : MS} {v1 : Int32} {v2 : Int32} {t0 : Int32} (hS : KRS S) : KR (hb_Pa_list_35 N S G u v1 v2 t0) := by
  unfold hb_Pa_list_35
  have hS2 := hS
  obtain ⟨s0, s1, s2, s3, s4, s5, s6, s7, s8, s9, s10, s11, s12, s13, s14, s15, s16, s17, s18, s19⟩ := hS2
  repeat' (first | with_reducible assumption | with_reducible exact KR_l | with_reducible refine KR_br ?_ ?_ | with_reducible refine KR_T ?_ (fun _ _ => ?_) | with_reducible refine KR_bnd (fun _ _ => ?_) | with_reducible refine KR_ck ?_ | with_reducible exact zrb_Pa_list_78 hS | with_reducible exact zrb_Pa_list_80 hS | with_reducible exact zr_Pa_look | with_reducible exact s0 _ _ | with_reducible exact s1 _ _ | with_reducible exact s2 _ | with_reducible exact s3 _ | with_reducible exact s4 _ | with_reducible exact s5 _ _ _ | with_reducible exact s6 _ | with_reducible exact s7 _ _ | with_reducible exact s8 _ | with_reducible exact s9 _ | with_reducible exact s10 _ | with_reducible exact s11 _ | with_reducible exact s12 _ | with_reducible exact s13 _ | with_reducible exact s14 _ _ | with_reducible exact s15 _ _ | with_reducible exact s16 _ _ | with_reducible exact s17 _ | with_reducible exact s18 _ _ _ | with_reducible exact s19 _ _ _ _ | with_reducible refine KR_lt (fun _ => ?_))
theorem zrb_Pa_list_0 {S : SF_Pa_matched} {G : Unit} {u : MS} {v1 : Int32} (hS : KRS S) : KR (hb_Pa_list_0 N S G u v1) := by
  unfold hb_Pa_list_0
  have hS2 := hS
  obtain ⟨s0, s1, s2, s3, s4, s5, s6, s7, s8, s9, s10, s11, s12, s13, s14, s15, s16, s17, s18, s19⟩ := hS2
  repeat' (first | with_reducible assumption | with_reducible exact KR_l | with_reducible refine KR_br ?_ ?_ | with_reducible refine KR_T ?_ (fun _ _ => ?_) | with_reducible refine KR_bnd (fun _ _ => ?_) | with_reducible refine KR_ck ?_ | with_reducible exact zrb_Pa_list_35 hS | with_reducible exact zr_Pa_look | with_reducible exact s0 _ _ | with_reducible exact s1 _ _ | with_reducible exact s2 _ | with_reducible exact s3 _ | with_reducible exact s4 _ | with_reducible exact s5 _ _ _ | with_reducible exact s6 _ | with_reducible exact s7 _ _ | with_reducible exact s8 _ | with_reducible exact s9 _ | with_reducible exact s10 _ | with_reducible exact s11 _ | with_reducible exact s12 _ | with_reducible exact s13 _ | with_reducible exact s14 _ _ | with_reducible exact s15 _ _ | with_reducible exact s16 _ _ | with_reducible exact s17 _ | with_reducible exact s18 _ _ _ | with_reducible exact s19 _ _ _ _ | with_reducible refine KR_lt (fun _ => ?_))
theorem zr_Pa_list {S : SF_Pa_matched} {u : MS} {v1 : Int32} (hS : KRS S) : KR (hm_Pa_list N S u v1) := by
  unfold hm_Pa_list
  exact zrb_Pa_list_0 hS
theorem zrb_Pa_tuple_0 {S : SF_Pa_matched} {G : Unit} {u : MS} {v1 : Int32} (hS : KRS S) : KR (hb_Pa_tuple_0 N S G u v1) := by
  unfold hb_Pa_tuple_0
  have hS2 := hS
  obtain ⟨s0, s1, s2, s3, s4, s5, s6, s7, s8, s9, s10, s11, s12, s13, s14, s15, s16, s17, s18, s19⟩ := hS2
  repeat' (first | with_reducible assumption | with_reducible exact KR_l | with_reducible refine KR_br ?_ ?_ | with_reducible refine KR_T ?_ (fun _ _ => ?_) | with_reducible refine KR_bnd (fun _ _ => ?_) | with_reducible refine KR_ck ?_ | with_reducible exact s0 _ _ | with_reducible exact s1 _ _ | with_reducible exact s2 _ | with_reducible exact s3 _ | with_reducible exact s4 _ | with_reducible exact s5 _ _ _ | with_reducible exact s6 _ | with_reducible exact s7 _ _ | with_reducible exact s8 _ | with_reducible exact s9 _ | with_reducible exact s10 _ | with_reducible exact s11 _ | with_reducible exact s12 _ | with_reducible exact s13 _ | with_reducible exact s14 _ _ | with_reducible exact s15 _ _ | with_reducible exact s16 _ _ | with_reducible exact s17 _ | with_reducible exact s18 _ _ _ | with_reducible exact s19 _ _ _ _ | with_reducible refine KR_lt (fun _ => ?_))
theorem zr_Pa_tuple {S : SF_Pa_matched} {u : MS} {v1 : Int32} (hS : KRS S) : KR (hm_Pa_tuple N S u v1) := by
  unfold hm_Pa_tuple
  exact zrb_Pa_tuple_0 hS
theorem zrb_Pa_pattern_162 {S : SF_Pa_matched} {G : Unit} {u : MS} {v3 : Int32} (hS : KRS S) : KR (hb_Pa_pattern_162 N S G u v3) := by
  unfold hb_Pa_pattern_162
  have hS2 := hS
  obtain ⟨s0, s1, s2, s3, s4, s5, s6, s7, s8, s9, s10, s11, s12, s13, s14, s15, s16, s17, s18, s19⟩ := hS2
  repeat' (first | with_reducible assumption | with_reducible exact KR_l | with_reducible refine KR_br ?_ ?_ | with_reducible refine KR_T ?_ (fun _ _ => ?_) | with_reducible refine KR_bnd (fun _ _ => ?_) | with_reducible refine KR_ck ?_ | with_reducible exact s0 _ _ | with_reducible exact s1 _ _ | with_reducible exact s2 _ | with_reducible exact s3 _ | with_reducible exact s4 _ | with_reducible exact s5 _ _ _ | with_reducible exact s6 _ | with_reducible exact s7 _ _ | with_reducible exact s8 _ | with_reducible exact s9 _ | with_reducible exact s10 _ | with_reducible exact s11 _ | with_reducible exact s12 _ | with_reducible exact s13 _ | with_reducible exact s14 _ _ | with_reducible exact s15 _ _ | with_reducible exact s16 _ _ | with_reducible exact s17 _ | with_reducible exact s18 _ _ _ | with_reducible exact s19 _ _ _ _ | with_reducible refine KR_lt (fun _ => ?_))
theorem zrb_Pa_pattern_137 {S : SF_Pa_matched} {G : Unit} {u : MS} {v1 : Int32} (hS : KRS S) : KR (hb_Pa_pattern_137 N S G u v1) := by
  unfold hb_Pa_pattern_137
  have hS2 := hS
  obtain ⟨s0, s1, s2, s3, s4, s5, s6, s7, s8, s9, s10, s11, s12, s13, s14, s15, s16, s17, s18, s19⟩ := hS2
  repeat' (first | with_reducible assumption | with_reducible exact KR_l | with_reducible refine KR_br ?_ ?_ | with_reducible refine KR_T ?_ (fun _ _ => ?_) | with_reducible refine KR_bnd (fun _ _ => ?_) | with_reducible refine KR_ck ?_ | with_reducible exact zrb_Pa_pattern_162 hS | with_reducible exact s0 _ _ | with_reducible exact s1 _ _ | with_reducible exact s2 _ | with_reducible exact s3 _ | with_reducible exact s4 _ | with_reducible exact s5 _ _ _ | with_reducible exact s6 _ | with_reducible exact s7 _ _ | with_reducible exact s8 _ | with_reducible exact s9 _ | with_reducible exact s10 _ | with_reducible exact s11 _ | with_reducible exact s12 _ | with_reducible exact s13 _ | with_reducible exact s14 _ _ | with_reducible exact s15 _ _ | with_reducible exact s16 _ _ | with_reducible exact s17 _ | with_reducible exact s18 _ _ _ | with_reducible exact s19 _ _ _ _ | with_reducible refine KR_lt (fun _ => ?_))
theorem zrb_Pa_pattern_0 {S : SF_Pa_matched} {G : Unit} {u : MS} (hS : KRS S) : KR (hb_Pa_pattern_0 N S G u) := by
  unfold hb_Pa_pattern_0
  have hS2 := hS
  obtain ⟨s0, s1, s2, s3, s4, s5, s6, s7, s8, s9, s10, s11, s12, s13, s14, s15, s16, s17, s18, s19⟩ := hS2
  repeat' (first | with_reducible assumption | with_reducible exact KR_l | with_reducible refine KR_br ?_ ?_ | with_reducible refine KR_T ?_ (fun _ _ => ?_) | with_reducible refine KR_bnd (fun _ _ => ?_) | with_reducible refine KR_ck ?_ | with_reducible exact zrb_Pa_pattern_162 hS | with_reducible exact zrb_Pa_pattern_137 hS | with_reducible exact KR_ref (by decide) | with_reducible exact zr_Pa_opens | with_reducible exact zr_Pa_look | with_reducible exact zr_Pa_need | with_reducible exact s0 _ _ | with_reducible exact s1 _ _ | with_reducible exact s2 _ | with_reducible exact s3 _ | with_reducible exact s4 _ | with_reducible exact s5 _ _ _ | with_reducible exact s6 _ | with_reducible exact s7 _ _ | with_reducible exact s8 _ | with_reducible exact s9 _ | with_reducible exact s10 _ | with_reducible exact s11 _ | with_reducible exact s12 _ | with_reducible exact s13 _ | with_reducible exact s14 _ _ | with_reducible exact s15 _ _ | with_reducible exact s16 _ _ | with_reducible exact s17 _ | with_reducible exact s18 _ _ _ | with_reducible exact s19 _ _ _ _ | with_reducible refine KR_lt (fun _ => ?_))
theorem zr_Pa_pattern {S : SF_Pa_matched} {u : MS} (hS : KRS S) : KR (hm_Pa_pattern N S u) := by
  unfold hm_Pa_pattern
  exact zrb_Pa_pattern_0 hS
theorem zrb_Pa_row_78 {S : SF_Pa_matched} {G : (MS → Int32 → Int32 → Int32 → Int32 → Int32 → Option (MS × (Int32 ⊕ Nat)))} {u : MS} {v3 : Int32} (hS : KRS S) (hG0 : ∀ (u : MS) a0 a1 a2 a3 a4, KR (G u a0 a1 a2 a3 a4)) : KR (hb_Pa_row_78 N S G u v3) := by
  unfold hb_Pa_row_78
  have hS2 := hS
  obtain ⟨s0, s1, s2, s3, s4, s5, s6, s7, s8, s9, s10, s11, s12, s13, s14, s15, s16, s17, s18, s19⟩ := hS2
  repeat' (first | with_reducible assumption | with_reducible exact KR_l | with_reducible refine KR_br ?_ ?_ | with_reducible refine KR_T ?_ (fun _ _ => ?_) | with_reducible refine KR_bnd (fun _ _ => ?_) | with_reducible refine KR_ck ?_ | with_reducible exact s0 _ _ | with_reducible exact s1 _ _ | with_reducible exact s2 _ | with_reducible exact s3 _ | with_reducible exact s4 _ | with_reducible exact s5 _ _ _ | with_reducible exact s6 _ | with_reducible exact s7 _ _ | with_reducible exact s8 _ | with_reducible exact s9 _ | with_reducible exact s10 _ | with_reducible exact s11 _ | with_reducible exact s12 _ | with_reducible exact s13 _ | with_reducible exact s14 _ _ | with_reducible exact s15 _ _ | with_reducible exact s16 _ _ | with_reducible exact s17 _ | with_reducible exact s18 _ _ _ | with_reducible exact s19 _ _ _ _ | with_reducible exact hG0 _ _ _ _ _ _ | with_reducible refine KR_lt (fun _ => ?_))
theorem zrb_Pa_row_67 {S : SF_Pa_matched} {G : (MS → Int32 → Int32 → Int32 → Int32 → Int32 → Option (MS × (Int32 ⊕ Nat)))} {u : MS} {v1 : Int32} {v2 : Int32} {v3 : Int32} {v5 : Int32} {t1 : Int32} {t2 : Int32} (hS : KRS S) (hG0 : ∀ (u : MS) a0 a1 a2 a3 a4, KR (G u a0 a1 a2 a3 a4)) : KR (hb_Pa_row_67 N S G u v1 v2 v3 v5 t1 t2) := by
  unfold hb_Pa_row_67
  have hS2 := hS
  obtain ⟨s0, s1, s2, s3, s4, s5, s6, s7, s8, s9, s10, s11, s12, s13, s14, s15, s16, s17, s18, s19⟩ := hS2
  repeat' (first | with_reducible assumption | with_reducible exact KR_l | with_reducible refine KR_br ?_ ?_ | with_reducible refine KR_T ?_ (fun _ _ => ?_) | with_reducible refine KR_bnd (fun _ _ => ?_) | with_reducible refine KR_ck ?_ | with_reducible exact s0 _ _ | with_reducible exact s1 _ _ | with_reducible exact s2 _ | with_reducible exact s3 _ | with_reducible exact s4 _ | with_reducible exact s5 _ _ _ | with_reducible exact s6 _ | with_reducible exact s7 _ _ | with_reducible exact s8 _ | with_reducible exact s9 _ | with_reducible exact s10 _ | with_reducible exact s11 _ | with_reducible exact s12 _ | with_reducible exact s13 _ | with_reducible exact s14 _ _ | with_reducible exact s15 _ _ | with_reducible exact s16 _ _ | with_reducible exact s17 _ | with_reducible exact s18 _ _ _ | with_reducible exact s19 _ _ _ _ | with_reducible exact hG0 _ _ _ _ _ _ | with_reducible refine KR_lt (fun _ => ?_))
theorem zrb_Pa_row_23 {S : SF_Pa_matched} {G : (MS → Int32 → Int32 → Int32 → Int32 → Int32 → Option (MS × (Int32 ⊕ Nat)))} {u : MS} {v1 : Int32} {v2 : Int32} {v3 : Int32} {v4 : Int32} {v5 : Int32} (hS : KRS S) (hG0 : ∀ (u : MS) a0 a1 a2 a3 a4, KR (G u a0 a1 a2 a3 a4)) : KR (hb_Pa_row_23 N S G u v1 v2 v3 v4 v5) := by
  unfold hb_Pa_row_23
  have hS2 := hS
  obtain ⟨s0, s1, s2, s3, s4, s5, s6, s7, s8, s9, s10, s11, s12, s13, s14, s15, s16, s17, s18, s19⟩ := hS2
  repeat' (first | with_reducible assumption | with_reducible exact KR_l | with_reducible refine KR_br ?_ ?_ | with_reducible refine KR_T ?_ (fun _ _ => ?_) | with_reducible refine KR_bnd (fun _ _ => ?_) | with_reducible refine KR_ck ?_ | with_reducible exact zrb_Pa_row_67 hS hG0 | with_reducible exact zrb_Pa_row_78 hS hG0 | with_reducible exact zr_Pa_look | with_reducible exact s0 _ _ | with_reducible exact s1 _ _ | with_reducible exact s2 _ | with_reducible exact s3 _ | with_reducible exact s4 _ | with_reducible exact s5 _ _ _ | with_reducible exact s6 _ | with_reducible exact s7 _ _ | with_reducible exact s8 _ | with_reducible exact s9 _ | with_reducible exact s10 _ | with_reducible exact s11 _ | with_reducible exact s12 _ | with_reducible exact s13 _ | with_reducible exact s14 _ _ | with_reducible exact s15 _ _ | with_reducible exact s16 _ _ | with_reducible exact s17 _ | with_reducible exact s18 _ _ _ | with_reducible exact s19 _ _ _ _ | with_reducible exact hG0 _ _ _ _ _ _ | with_reducible refine KR_lt (fun _ => ?_))
theorem zrb_Pa_row_16 {S : SF_Pa_matched} {G : (MS → Int32 → Int32 → Int32 → Int32 → Int32 → Option (MS × (Int32 ⊕ Nat)))} {u : MS} {v1 : Int32} {v2 : Int32} {t0 : Int32} (hS : KRS S) (hG0 : ∀ (u : MS) a0 a1 a2 a3 a4, KR (G u a0 a1 a2 a3 a4)) : KR (hb_Pa_row_16 N S G u v1 v2 t0) := by
  unfold hb_Pa_row_16
  have hS2 := hS
  obtain ⟨s0, s1, s2, s3, s4, s5, s6, s7, s8, s9, s10, s11, s12, s13, s14, s15, s16, s17, s18, s19⟩ := hS2
  repeat' (first | with_reducible assumption | with_reducible exact KR_l | with_reducible refine KR_br ?_ ?_ | with_reducible refine KR_T ?_ (fun _ _ => ?_) | with_reducible refine KR_bnd (fun _ _ => ?_) | with_reducible refine KR_ck ?_ | with_reducible exact s0 _ _ | with_reducible exact s1 _ _ | with_reducible exact s2 _ | with_reducible exact s3 _ | with_reducible exact s4 _ | with_reducible exact s5 _ _ _ | with_reducible exact s6 _ | with_reducible exact s7 _ _ | with_reducible exact s8 _ | with_reducible exact s9 _ | with_reducible exact s10 _ | with_reducible exact s11 _ | with_reducible exact s12 _ | with_reducible exact s13 _ | with_reducible exact s14 _ _ | with_reducible exact s15 _ _ | with_reducible exact s16 _ _ | with_reducible exact s17 _ | with_reducible exact s18 _ _ _ | with_reducible exact s19 _ _ _ _ | with_reducible exact hG0 _ _ _ _ _ _ | with_reducible refine KR_lt (fun _ => ?_))
theorem zrb_Pa_row_0 {S : SF_Pa_matched} {G : (MS → Int32 → Int32 → Int32 → Int32 → Int32 → Option (MS × (Int32 ⊕ Nat)))} {u : MS} {v1 : Int32} {v2 : Int32} (hS : KRS S) (hG0 : ∀ (u : MS) a0 a1 a2 a3 a4, KR (G u a0 a1 a2 a3 a4)) : KR (hb_Pa_row_0 N S G u v1 v2) := by
  unfold hb_Pa_row_0
  have hS2 := hS
  obtain ⟨s0, s1, s2, s3, s4, s5, s6, s7, s8, s9, s10, s11, s12, s13, s14, s15, s16, s17, s18, s19⟩ := hS2
  repeat' (first | with_reducible assumption | with_reducible exact KR_l | with_reducible refine KR_br ?_ ?_ | with_reducible refine KR_T ?_ (fun _ _ => ?_) | with_reducible refine KR_bnd (fun _ _ => ?_) | with_reducible refine KR_ck ?_ | with_reducible exact zrb_Pa_row_16 hS hG0 | with_reducible exact s0 _ _ | with_reducible exact s1 _ _ | with_reducible exact s2 _ | with_reducible exact s3 _ | with_reducible exact s4 _ | with_reducible exact s5 _ _ _ | with_reducible exact s6 _ | with_reducible exact s7 _ _ | with_reducible exact s8 _ | with_reducible exact s9 _ | with_reducible exact s10 _ | with_reducible exact s11 _ | with_reducible exact s12 _ | with_reducible exact s13 _ | with_reducible exact s14 _ _ | with_reducible exact s15 _ _ | with_reducible exact s16 _ _ | with_reducible exact s17 _ | with_reducible exact s18 _ _ _ | with_reducible exact s19 _ _ _ _ | with_reducible exact hG0 _ _ _ _ _ _ | with_reducible refine KR_lt (fun _ => ?_))
theorem zrg_Pa_row {S : SF_Pa_matched} (hS : KRS S) (n : Nat) : (∀ (u : MS) a0 a1 a2 a3 a4, KR ((hg_Pa_row N S n) u a0 a1 a2 a3 a4)) := by
  induction n with
  | zero => exact fun _ _ _ _ _ _ => KR_none
  | succ n ih => exact fun _ _ _ _ _ _ => zrb_Pa_row_23 (N := N) hS ih
theorem zr_Pa_row {S : SF_Pa_matched} {u : MS} {v1 : Int32} {v2 : Int32} (hS : KRS S) : KR (hm_Pa_row N S u v1 v2) := by
  unfold hm_Pa_row
  exact zrb_Pa_row_0 hS (zrg_Pa_row hS N)
theorem zrb_Pa_rowUpTo_18 {S : SF_Pa_matched} {G : Unit} {u : MS} {v3 : Int32} {t0 : Int32} (hS : KRS S) : KR (hb_Pa_rowUpTo_18 N S G u v3 t0) := by
  unfold hb_Pa_rowUpTo_18
  have hS2 := hS
  obtain ⟨s0, s1, s2, s3, s4, s5, s6, s7, s8, s9, s10, s11, s12, s13, s14, s15, s16, s17, s18, s19⟩ := hS2
  repeat' (first | with_reducible assumption | with_reducible exact KR_l | with_reducible refine KR_br ?_ ?_ | with_reducible refine KR_T ?_ (fun _ _ => ?_) | with_reducible refine KR_bnd (fun _ _ => ?_) | with_reducible refine KR_ck ?_ | with_reducible exact zr_Pa_need | with_reducible exact s0 _ _ | with_reducible exact s1 _ _ | with_reducible exact s2 _ | with_reducible exact s3 _ | with_reducible exact s4 _ | with_reducible exact s5 _ _ _ | with_reducible exact s6 _ | with_reducible exact s7 _ _ | with_reducible exact s8 _ | with_reducible exact s9 _ | with_reducible exact s10 _ | with_reducible exact s11 _ | with_reducible exact s12 _ | with_reducible exact s13 _ | with_reducible exact s14 _ _ | with_reducible exact s15 _ _ | with_reducible exact s16 _ _ | with_reducible exact s17 _ | with_reducible exact s18 _ _ _ | with_reducible exact s19 _ _ _ _ | with_reducible refine KR_lt (fun _ => ?_))
theorem zrb_Pa_rowUpTo_0 {S : SF_Pa_matched} {G : Unit} {u : MS} {v1 : Int32} {v2 : Int32} {v3 : Int32} (hS : KRS S) : KR (hb_Pa_rowUpTo_0 N S G u v1 v2 v3) := by
  unfold hb_Pa_rowUpTo_0
  have hS2 := hS
  obtain ⟨s0, s1, s2, s3, s4, s5, s6, s7, s8, s9, s10, s11, s12, s13, s14, s15, s16, s17, s18, s19⟩ := hS2
  repeat' (first | with_reducible assumption | with_reducible exact KR_l | with_reducible refine KR_br ?_ ?_ | with_reducible refine KR_T ?_ (fun _ _ => ?_) | with_reducible refine KR_bnd (fun _ _ => ?_) | with_reducible refine KR_ck ?_ | with_reducible exact zrb_Pa_rowUpTo_18 hS | with_reducible exact zr_Pa_look | with_reducible exact s0 _ _ | with_reducible exact s1 _ _ | with_reducible exact s2 _ | with_reducible exact s3 _ | with_reducible exact s4 _ | with_reducible exact s5 _ _ _ | with_reducible exact s6 _ | with_reducible exact s7 _ _ | with_reducible exact s8 _ | with_reducible exact s9 _ | with_reducible exact s10 _ | with_reducible exact s11 _ | with_reducible exact s12 _ | with_reducible exact s13 _ | with_reducible exact s14 _ _ | with_reducible exact s15 _ _ | with_reducible exact s16 _ _ | with_reducible exact s17 _ | with_reducible exact s18 _ _ _ | with_reducible exact s19 _ _ _ _ | with_reducible refine KR_lt (fun _ => ?_))
theorem zr_Pa_rowUpTo {S : SF_Pa_matched} {u : MS} {v1 : Int32} {v2 : Int32} {v3 : Int32} (hS : KRS S) : KR (hm_Pa_rowUpTo N S u v1 v2 v3) := by
  unfold hm_Pa_rowUpTo
  exact zrb_Pa_rowUpTo_0 hS
theorem zrs : ∀ d, KRS (hrc_Pa_matched N d)
  | 0 => ⟨fun _ _ => KR_none, fun _ _ => KR_none, fun _ => KR_none, fun _ => KR_none, fun _ => KR_none, fun _ _ _ => KR_none, fun _ => KR_none, fun _ _ => KR_none, fun _ => KR_none, fun _ => KR_none, fun _ => KR_none, fun _ => KR_none, fun _ => KR_none, fun _ => KR_none, fun _ _ => KR_none, fun _ _ => KR_none, fun _ _ => KR_none, fun _ => KR_none, fun _ _ _ => KR_none, fun _ _ _ _ => KR_none⟩
  | d + 1 => ⟨fun _ _ => zr_Pa_matched (N := N) (zrs d), fun _ _ => zr_Pa_applied (N := N) (zrs d), fun _ => zr_Pa_fun (N := N) (zrs d), fun _ => zr_Pa_receive (N := N) (zrs d), fun _ => zr_Pa_choice (N := N) (zrs d), fun _ _ _ => zr_Pa_part (N := N) (zrs d), fun _ => zr_Pa_oneCase (N := N) (zrs d), fun _ _ => zr_Pa_parts (N := N) (zrs d), fun _ => zr_Pa_caseOf (N := N) (zrs d), fun _ => zr_Pa_body (N := N) (zrs d), fun _ => zr_Pa_atomOrCall (N := N) (zrs d), fun _ => zr_Pa_primary (N := N) (zrs d), fun _ => zr_Pa_unit (N := N) (zrs d), fun _ => zr_Pa_signed (N := N) (zrs d), fun _ _ => zr_Pa_expression (N := N) (zrs d), fun _ _ => zr_Pa_list (N := N) (zrs d), fun _ _ => zr_Pa_tuple (N := N) (zrs d), fun _ => zr_Pa_pattern (N := N) (zrs d), fun _ _ _ => zr_Pa_row (N := N) (zrs d), fun _ _ _ _ => zr_Pa_rowUpTo (N := N) (zrs d)⟩
theorem zrr_Pa_part {u : MS} {v1 : Int32} {v2 : Int32} : KR (hr_Pa_part N u v1 v2) := (zrs 300).2.2.2.2.2.1 _ _ _
theorem zrr_Pa_rowUpTo {u : MS} {v1 : Int32} {v2 : Int32} {v3 : Int32} : KR (hr_Pa_rowUpTo N u v1 v2 v3) := (zrs 300).2.2.2.2.2.2.2.2.2.2.2.2.2.2.2.2.2.2.2 _ _ _ _
theorem zrb_Pa_clause_0 {G : Unit} {u : MS}  : KR (hb_Pa_clause_0 N G u) := by
  unfold hb_Pa_clause_0
  repeat' (first | with_reducible assumption | with_reducible exact KR_l | with_reducible refine KR_br ?_ ?_ | with_reducible refine KR_T ?_ (fun _ _ => ?_) | with_reducible refine KR_bnd (fun _ _ => ?_) | with_reducible refine KR_ck ?_ | with_reducible exact zrr_Pa_rowUpTo | with_reducible exact zr_Pa_need | with_reducible exact zrr_Pa_part | with_reducible refine KR_lt (fun _ => ?_))
theorem zr_Pa_clause {u : MS}  : KR (hm_Pa_clause N u) := by
  unfold hm_Pa_clause
  exact zrb_Pa_clause_0
theorem zrb_Pa_oneFunction_58 {G : (MS → Int32 → Int32 → Int32 → Int32 → Option (MS × (Unit ⊕ Nat)))} {u : MS} {v1 : Int32} {v2 : Int32} (hG0 : ∀ (u : MS) a0 a1 a2 a3, KR (G u a0 a1 a2 a3)) : KR (hb_Pa_oneFunction_58 N G u v1 v2) := by
  unfold hb_Pa_oneFunction_58
  repeat' (first | with_reducible assumption | with_reducible exact KR_l | with_reducible refine KR_br ?_ ?_ | with_reducible refine KR_T ?_ (fun _ _ => ?_) | with_reducible refine KR_bnd (fun _ _ => ?_) | with_reducible refine KR_ck ?_ | with_reducible exact zr_Pa_need | with_reducible exact hG0 _ _ _ _ _ | with_reducible refine KR_lt (fun _ => ?_))
theorem zrb_Pa_oneFunction_15 {G : (MS → Int32 → Int32 → Int32 → Int32 → Option (MS × (Unit ⊕ Nat)))} {u : MS} {v1 : Int32} {v2 : Int32} {v3 : Int32} {v4 : Int32} (hG0 : ∀ (u : MS) a0 a1 a2 a3, KR (G u a0 a1 a2 a3)) : KR (hb_Pa_oneFunction_15 N G u v1 v2 v3 v4) := by
  unfold hb_Pa_oneFunction_15
  repeat' (first | with_reducible assumption | with_reducible exact KR_l | with_reducible refine KR_br ?_ ?_ | with_reducible refine KR_T ?_ (fun _ _ => ?_) | with_reducible refine KR_bnd (fun _ _ => ?_) | with_reducible refine KR_ck ?_ | with_reducible exact zrb_Pa_oneFunction_58 hG0 | with_reducible exact zr_Pa_clause | with_reducible exact zr_Pa_look | with_reducible exact hG0 _ _ _ _ _ | with_reducible refine KR_lt (fun _ => ?_))
theorem zrb_Pa_oneFunction_0 {G : (MS → Int32 → Int32 → Int32 → Int32 → Option (MS × (Unit ⊕ Nat)))} {u : MS} (hG0 : ∀ (u : MS) a0 a1 a2 a3, KR (G u a0 a1 a2 a3)) : KR (hb_Pa_oneFunction_0 N G u) := by
  unfold hb_Pa_oneFunction_0
  repeat' (first | with_reducible assumption | with_reducible exact KR_l | with_reducible refine KR_br ?_ ?_ | with_reducible refine KR_T ?_ (fun _ _ => ?_) | with_reducible refine KR_bnd (fun _ _ => ?_) | with_reducible refine KR_ck ?_ | with_reducible exact zr_Pa_clause | with_reducible exact hG0 _ _ _ _ _ | with_reducible refine KR_lt (fun _ => ?_))
theorem zrg_Pa_oneFunction (n : Nat) : (∀ (u : MS) a0 a1 a2 a3, KR ((hg_Pa_oneFunction N n) u a0 a1 a2 a3)) := by
  induction n with
  | zero => exact fun _ _ _ _ _ => KR_none
  | succ n ih => exact fun _ _ _ _ _ => zrb_Pa_oneFunction_15 (N := N) ih
theorem zr_Pa_oneFunction {u : MS}  : KR (hm_Pa_oneFunction N u) := by
  unfold hm_Pa_oneFunction
  exact zrb_Pa_oneFunction_0 (zrg_Pa_oneFunction N)
end
end
section
set_option maxRecDepth 100000
def CLSc (u : MS) (n lo hi a b q r : Nat) : Prop := HDc n lo hi a b q r ∧ lo + 5 ≤ hi ∧ A u 17 n = ((lo : Nat) : Int) ∧ A u 6 lo = 2 ∧ ∃ k ph, k ≤ 6 ∧ PRTc u (Pw 0 u) (Bw 0 u) (Gw 0 u) k n (lo + 2) ph (ph + 1) hi a b q r
def FNSc (u : MS) : Nat → Nat → Nat → Nat → Prop
  | 0 => fun p n q => p = 0 ∧ n = 0 ∧ q = 0
  | g + 1 => fun p n q => ∃ p0 n0 q0 kc k first : Nat, FNSc u g p0 n0 q0 ∧ p0 + 6 ≤ p ∧ RWc u 1 (CLSc u) kc first p0 (p - 1) n0 n q0 q ∧ (A u 27 g = ((first : Nat) : Int) ∧ A u 25 g = ((k : Nat) : Int) ∧ k ≤ 6 ∧ A u 24 g = A u 7 p0)
def KPH (u w : MS) : Prop := FR [306, 442, 449, 664, 665, 666, 667] [] [16, 17, 18, 19, 20, 21, 24, 25, 26, 27, 28, 34] [] u w
section
variable {u v w : MS} {N c p n q o s p2 n2 q2 m a b l lo hi r d most f t x q0 g : Nat}
theorem KPG.toH (h : KPG u w) : KPH u w := FR.mo h (by simp) (by simp) (by simp) (by simp)
theorem KPH.tr (a : KPH u v) (b : KPH v w) : KPH u w := FR.tr a b
theorem CLS_bd : BdE (CLSc u) := fun _ _ _ _ _ _ _ h => h.1
theorem CLS_k (u w : MS) : StE u w (CLSc u) (CLSc w) := fun n lo hi a b q r h kn => by
  obtain ⟨h1, h2, h3, h4, k, ph, h5, h6⟩ := h
  obtain ⟨g1, g2, g3, g4, g5⟩ := kn.g h1.1
  exact ⟨h1, h2, by rw [g2]; exact h3, by show (w.2.2.1 6 lo).toInt = _; rw [kn.1.1]; exact h4, k, ph, h5, PRT_k (Pw_st u w) (Bw_st u w) (Gw_st u w) (Pw_bd u) (Bw_bd u) (Gw_bd u) h6 kn⟩
theorem RW_cnt {E : Nat → Nat → Nat → Nat → Nat → Nat → Nat → Prop} (hb : BdE E) : ∀ {k n lo hi a b q r : Nat}, RWc u d E k n lo hi a b q r → k + a ≤ b
  | 0, _, _, _, _, _, _, _, h => h.elim
  | k + 1, n, lo, hi, a, b, q, r, h => by
    obtain ⟨m, c, s, e, h⟩ := h
    have g := (hb _ _ _ _ _ _ _ e).1
    rcases h with ⟨h1, -, -, h2, -⟩ | ⟨h1, n2, -, h3⟩
    · omega
    · have := RW_cnt hb h3; omega
theorem FNS_k (e6 : w.2.2.1 6 = u.2.2.1 6) (e7 : w.2.2.1 7 = u.2.2.1 7) : ∀ {g p n q : Nat}, (∀ k, k ≤ n → A w 16 k = A u 16 k ∧ A w 17 k = A u 17 k ∧ A w 18 k = A u 18 k ∧ A w 19 k = A u 19 k ∧ A w 20 k = A u 20 k ∧ A w 21 k = A u 21 k) → (∀ f, f < g → A w 24 f = A u 24 f ∧ A w 25 f = A u 25 f ∧ A w 27 f = A u 27 f) → FNSc u g p n q → FNSc w g p n q
  | 0, _, _, _, _, _, h => h
  | g + 1, p, n, q, hn, hg, h => by
    obtain ⟨p0, n0, q0, kc, k, first, h1, h2, h3, h4, h5, h6, h7⟩ := h
    have rh := (RW_hd CLS_bd h3).1.1
    obtain ⟨g1, g2, g3⟩ := hg g (by omega)
    have a7 : A w 7 p0 = A u 7 p0 := by show (w.2.2.1 7 p0).toInt = _; rw [e7]; rfl
    refine ⟨p0, n0, q0, kc, k, first, FNS_k e6 e7 (fun k hk => hn k (by omega)) (fun f hf => hg f (by omega)) h1, h2, RW_k (CLS_k u w) CLS_bd h3 ⟨⟨e6, e7⟩, fun k k1 k2 => ?_⟩, by rw [g3]; exact h4, by rw [g2]; exact h5, h6, by rw [g1, a7]; exact h7⟩
    obtain ⟨b1, b2, b3, b4, b5, b6⟩ := hn k k2
    exact ⟨⟨b1, b2, b3, b4, b5⟩, fun _ => b6⟩
theorem clause_okc (h : PSI u c p n q 0 s) (hN : 10000 ≤ N) : OK (fun w r => NDQ (fun w m lo hi a b q r => CLSc w m lo hi a b q r ∧ A w 21 m = 0) u c p n q 0 s w r) (hm_Pa_clause N u) := by
  have hc := h.1.1
  have h2p := h.2.2.1.2
  obtain ⟨-, -, -, -, -, hU1, -, -, -, -, -, hPT, -⟩ := grpP_ok hN 300 0 (by omega)
  unfold hm_Pa_clause hb_Pa_clause_0
  rw [show (2 : Int32) = I 2 from rfl]
  refine need_T h (by omega) (fun w gw => ⟨gw, rfl⟩) (fun ea h2 => ?_)
  have g1 : KPG u (wi u 665 ((p + 1 : Nat) : Int)) := KPG_at
  have o1 : OLDc u (wi u 665 ((p + 1 : Nat) : Int)) n s := OLDc.row rfl
  generalize wi u 665 ((p + 1 : Nat) : Int) = v at h2 g1 o1
  rw [show (20 : Int32) = I 20 from rfl]
  refine need_T h2 (by omega) (fun w gw => ⟨g1.tr gw, rfl⟩) (fun _ h3 => ?_)
  have g3 : KPG v (wi v 665 ((p + 1 + 1 : Nat) : Int)) := KPG_at
  have o3 : OLDc v (wi v 665 ((p + 1 + 1 : Nat) : Int)) n s := OLDc.row rfl
  generalize wi v 665 ((p + 1 + 1 : Nat) : Int) = w1 at h3 g3 o3
  refine ok_T (ok_mono (hU1 (by omega) 6 21 (by omega) (by omega) w1 c (p + 1 + 1) n q s h3) (fun w5 r hw5 => ?_))
  obtain ⟨g5, hw5⟩ := hw5
  cases r with
  | inr k => exact ⟨g1.tr (g3.tr g5), hw5⟩
  | inl x2 =>
    obtain ⟨mp, p5, n5, q5, rfl, ol5, hv5, hp5, hlo, k, hk6, em⟩ := hw5
    have oh := OR_hd (Pw_bd w5) em
    have eq : q = q5 := ORq (fun _ _ _ _ _ _ _ h => PAq h) em
    subst eq
    refine ok_T (ok_mono (hPT (by omega) w5 c p5 n5 q s p k mp (p + 1 + 1) (p5 - 1) n hv5 (by omega) (by omega) em) (fun w6 r hw6 => ?_))
    obtain ⟨g6, hw6⟩ := hw6
    cases r with
    | inr k => exact ⟨g1.tr (g3.tr (g5.tr g6)), hw6⟩
    | inl x2 =>
      obtain ⟨m2, p7, n7, q7, rfl, ol7, hv7, hp7, e1, e2, e3, e4, e5, e6, e7, e8⟩ := hw6
      have gu : KPG u w6 := g1.tr (g3.tr (g5.tr g6))
      refine ok_some.mpr ⟨gu, m2, p7, n7, q7, rfl, OLDc.tr o1 (OLDc.tr o3 (OLDc.tr ol5 ol7 (by omega)) (Nat.le_refl _)) (Nat.le_refl _), hv7, by omega, ⟨⟨⟨by omega, by omega⟩, by omega, by omega, by omega, by omega⟩, by omega, e8, by rw [gu.a6]; exact ea, k, p5 - 1, hk6, ?_⟩, e7⟩
      rw [show p5 - 1 + 1 = p5 by omega]
      exact e1
def PFI (u v : MS) (c g p n q : Nat) : Prop := KPH u v ∧ PSI v c p n q 0 0 ∧ F v 442 = ((g : Nat) : Int) ∧ 6 * g ≤ p ∧ FNSc v g p n q
theorem oneFunction_okc (h : PFI u v c g p n q) (hN : 10000 ≤ N) : OK (fun w r => KPH u w ∧ match r with
    | .inr k => k = 3
    | .inl _ => ∃ p2 n2 q2, PFI u w c (g + 1) p2 n2 q2 ∧ p < p2) (hm_Pa_oneFunction N v) := by
  obtain ⟨ku, hv, e442, hg6, fns⟩ := h
  have hc := hv.1.1
  have h2p := hv.2.2.1.2
  have pc0 := hv.2.1.2
  have e58 : ∀ (M k first l pp nn qq : Nat) (w : MS), KPG v w → OLDc v w n 0 → PSI w c pp nn qq 0 0 → p + 5 ≤ pp → RPc w 1 (CLSc w) k first l p pp n nn q qq → A w 21 l = 0 → OK (fun w r => KPH u w ∧ match r with
    | .inr k => k = 3
    | .inl _ => ∃ p2 n2 q2, PFI u w c (g + 1) p2 n2 q2 ∧ p < p2) (hb_Pa_oneFunction_58 N (hg_Pa_oneFunction N M) w (I ((p : Nat) : Int)) (I ((first : Nat) : Int))) := by
    intro M k first l pp nn qq w gw ow hw hpp rp l0
    unfold hb_Pa_oneFunction_58
    rw [show (28 : Int32) = I 28 from rfl]
    refine need_T hw (by omega) (fun w2 gw2 => ⟨ku.tr (gw.tr gw2).toH, rfl⟩) (fun _ h2 => ?_)
    have rh := RP_hd CLS_bd rp
    have rw0 := RW_of CLS_bd rp l0
    have g1 : KPG w (wi w 665 ((pp + 1 : Nat) : Int)) := KPG_at
    have o1 : OLDc w (wi w 665 ((pp + 1 : Nat) : Int)) nn 0 := OLDc.row rfl
    generalize wi w 665 ((pp + 1 : Nat) : Int) = w1 at h2 g1 o1
    have pc := h2.2.1.2
    have n8 : nn ≤ 8000 := by have := hw.2.2.1.2; have := hw.2.1.2; omega
    have rw1 := RW_k (CLS_k w w1) CLS_bd rw0 (KN_old g1 o1 (Nat.le_refl _))
    obtain ⟨ka, ma, ca, pha, ea1, ea2, ea3, ea4⟩ : ∃ ka ma ca pha : Nat, ka ≤ 6 ∧ A w1 18 first = ((ma : Nat) : Int) ∧ ca ≤ nn ∧ ORc w1 1 (Pw 0 w1) ka ma (p + 2) pha n ca q q := by
      cases k with
      | zero => exact rw1.elim
      | succ k =>
        obtain ⟨m, cc, ss, e, hh⟩ := rw1
        have hcc : cc ≤ nn := by
          rcases hh with ⟨-, -, -, h, -⟩ | ⟨-, n2, -, h3⟩
          · omega
          · have := (RW_hd CLS_bd h3).1.1; omega
        obtain ⟨e1, -, -, -, kk, ph, e2, e3⟩ := e
        obtain ⟨b1, b2, b3, mm, c1, gg, m2, c2, s2, kb, mb, c3, ⟨b4, b5⟩, ⟨b6, b7⟩, ⟨b8, b9⟩, b10⟩ := e3
        have o3 := (RW_hd (Bw_bd w1) b9).1.1
        have o2 : c1 ≤ c2 := by
          rcases b7 with b7 | ⟨-, kg, b7⟩
          · omega
          · have := (RW_hd (Gw_bd w1) b7).1.1; omega
        exact ⟨kk, mm, c1, ph, e2, b4, by omega, b5⟩
    have mb : ma ≤ 8015 := by
      rcases ea4 with ⟨-, h, -⟩ | ⟨-, h⟩
      · omega
      · have := (RW_hd (Pw_bd w1) h).1.1; omega
    refine e_in ⟨by omega, by omega⟩ (by decide) (e_in ⟨by omega, by omega⟩ (by decide) ?_)
    rw [tnI (n := p) rfl (by omega), tnI (n := first) rfl (by omega), I_A (k := 18), ea2, len_ok (Pw_bd w1) hN (by omega) ea4, bnd_so]
    refine e_in ⟨by omega, by omega⟩ (by decide) ?_
    have hk1 : 1 ≤ k := (RW_hd CLS_bd rw1).2
    rw [len_ok CLS_bd hN (by omega) (Or.inr ⟨hk1, rw1⟩), bnd_so]
    have kb : k ≤ 8015 := by have := RW_cnt CLS_bd rw1; omega
    have e442' : F w1 442 = ((g : Nat) : Int) := by rw [show F w1 442 = F w 442 from congrArg _ (g1.1 442 (by simp)), show F w 442 = F v 442 from congrArg _ (gw.1 442 (by simp))]; exact e442
    unfold hm_Co_addFunction hb_Co_addFunction_0
    have e1 : w1.1 442 = I ((g : Nat) : Int) := by rw [I_F (k := 442), e442']
    have i1 : inb (I ((g : Nat) : Int)) 666 = true := (I_inb (by omega) (by omega)).mpr ⟨by omega, by omega⟩
    have st : ∀ (z : MS) (r : Nat) (y : Int) (f : MS → Option (MS × Unit)), z.1 442 = I ((g : Nat) : Int) → ck (inb (z.1 442) 666) (lt (upA z r (upd (z.2.2.1 r) (z.1 442).toNatClampNeg (I y))) f) = f (wa z r g y) := fun z r y f e => by
      rw [e, i1, ck_t, lt_e, tnI (n := g) rfl (by omega), wa_e]
    rw [show decide (w1.1 442 < 666) = true from by rw [e1, show (666 : Int32) = I 666 from rfl, decL (by omega) (by omega) (by decide) (by decide)]; exact decide_eq_true (by omega), br_tq, I_A (k := 7), I_A (k := 8)]
    have e2 : (wa w1 24 g (A w1 7 p)).1 442 = I ((g : Nat) : Int) := e1
    have e3 : (wa (wa w1 24 g (A w1 7 p)) 25 g ((ka : Nat) : Int)).1 442 = I ((g : Nat) : Int) := e1
    have e4 : (wa (wa (wa w1 24 g (A w1 7 p)) 25 g ((ka : Nat) : Int)) 26 g (A w1 8 p)).1 442 = I ((g : Nat) : Int) := e1
    have e5 : (wa (wa (wa (wa w1 24 g (A w1 7 p)) 25 g ((ka : Nat) : Int)) 26 g (A w1 8 p)) 27 g ((first : Nat) : Int)).1 442 = I ((g : Nat) : Int) := e1
    have e6 : (wa (wa (wa (wa (wa w1 24 g (A w1 7 p)) 25 g ((ka : Nat) : Int)) 26 g (A w1 8 p)) 27 g ((first : Nat) : Int)) 28 g ((k : Nat) : Int)).1 442 = I ((g : Nat) : Int) := e1
    rw [st _ _ _ _ e1, st _ _ _ _ e2, st _ _ _ _ e3, st _ _ _ _ e4, st _ _ _ _ e5, lt_e, e6, bnd_so, lit1q, I_add, show ((g : Nat) : Int) + 1 = ((g + 1 : Nat) : Int) by omega, wi_e]
    have fR : FR [442] [] [24, 25, 26, 27, 28] [] w1 (wi (wa (wa (wa (wa (wa w1 24 g (A w1 7 p)) 25 g ((ka : Nat) : Int)) 26 g (A w1 8 p)) 27 g ((first : Nat) : Int)) 28 g ((k : Nat) : Int)) 442 ((g + 1 : Nat) : Int)) := FR.wi (FR.wa (FR.wa (FR.wa (FR.wa (FR.wa FR.rf (by simp)) (by simp)) (by simp)) (by simp)) (by simp)) (by simp)
    have fF : F (wi (wa (wa (wa (wa (wa w1 24 g (A w1 7 p)) 25 g ((ka : Nat) : Int)) 26 g (A w1 8 p)) 27 g ((first : Nat) : Int)) 28 g ((k : Nat) : Int)) 442 ((g + 1 : Nat) : Int)) 442 = ((g + 1 : Nat) : Int) := by rw [F_wi (by omega) (by omega), if_pos rfl]
    have fO : ∀ r f, f ≠ g → A (wi (wa (wa (wa (wa (wa w1 24 g (A w1 7 p)) 25 g ((ka : Nat) : Int)) 26 g (A w1 8 p)) 27 g ((first : Nat) : Int)) 28 g ((k : Nat) : Int)) 442 ((g + 1 : Nat) : Int)) r f = A w1 r f := fun r f hf => by
      show A (wa (wa (wa (wa (wa w1 24 g (A w1 7 p)) 25 g ((ka : Nat) : Int)) 26 g (A w1 8 p)) 27 g ((first : Nat) : Int)) 28 g ((k : Nat) : Int)) r f = _
      rw [wa_ne hf, wa_ne hf, wa_ne hf, wa_ne hf, wa_ne hf]
    have f24 : A (wi (wa (wa (wa (wa (wa w1 24 g (A w1 7 p)) 25 g ((ka : Nat) : Int)) 26 g (A w1 8 p)) 27 g ((first : Nat) : Int)) 28 g ((k : Nat) : Int)) 442 ((g + 1 : Nat) : Int)) 24 g = A w1 7 p := by
      show A (wa (wa (wa (wa (wa w1 24 g (A w1 7 p)) 25 g ((ka : Nat) : Int)) 26 g (A w1 8 p)) 27 g ((first : Nat) : Int)) 28 g ((k : Nat) : Int)) 24 g = _
      rw [wa_rne (by decide), wa_rne (by decide), wa_rne (by decide), wa_rne (by decide), wa_eq (A_r w1 7 p)]
    have f25 : A (wi (wa (wa (wa (wa (wa w1 24 g (A w1 7 p)) 25 g ((ka : Nat) : Int)) 26 g (A w1 8 p)) 27 g ((first : Nat) : Int)) 28 g ((k : Nat) : Int)) 442 ((g + 1 : Nat) : Int)) 25 g = ((ka : Nat) : Int) := by
      show A (wa (wa (wa (wa (wa w1 24 g (A w1 7 p)) 25 g ((ka : Nat) : Int)) 26 g (A w1 8 p)) 27 g ((first : Nat) : Int)) 28 g ((k : Nat) : Int)) 25 g = _
      rw [wa_rne (by decide), wa_rne (by decide), wa_rne (by decide), wa_eq ⟨by omega, by omega⟩]
    have f27 : A (wi (wa (wa (wa (wa (wa w1 24 g (A w1 7 p)) 25 g ((ka : Nat) : Int)) 26 g (A w1 8 p)) 27 g ((first : Nat) : Int)) 28 g ((k : Nat) : Int)) 442 ((g + 1 : Nat) : Int)) 27 g = ((first : Nat) : Int) := by
      show A (wa (wa (wa (wa (wa w1 24 g (A w1 7 p)) 25 g ((ka : Nat) : Int)) 26 g (A w1 8 p)) 27 g ((first : Nat) : Int)) 28 g ((k : Nat) : Int)) 27 g = _
      rw [wa_rne (by decide), wa_eq ⟨by omega, by omega⟩]
    generalize wi (wa (wa (wa (wa (wa w1 24 g (A w1 7 p)) 25 g ((ka : Nat) : Int)) 26 g (A w1 8 p)) 27 g ((first : Nat) : Int)) 28 g ((k : Nat) : Int)) 442 ((g + 1 : Nat) : Int) = z at fR fF fO f24 f25 f27
    have rA : ∀ r, r ∉ [24, 25, 26, 27, 28] → z.2.2.1 r = w1.2.2.1 r := fun r hr => fR.2.2.1 r hr
    have aA : ∀ r k, r ∉ [24, 25, 26, 27, 28] → A z r k = A w1 r k := fun r k hr => by show (z.2.2.1 r k).toInt = _; rw [rA r hr]; rfl
    have kz : ∀ {a b l}, KNc w1 z a b l := fun {a b l} => ⟨⟨rA 6 (by simp), rA 7 (by simp)⟩, fun k _ _ => ⟨⟨aA _ _ (by simp), aA _ _ (by simp), aA _ _ (by simp), aA _ _ (by simp), aA _ _ (by simp)⟩, fun _ => aA _ _ (by simp)⟩⟩
    have gvz : KPH v z := (gw.tr g1).toH.tr (FR.mo fR (by simp) (by simp) (by simp) (by simp))
    have oz : OLDc v w1 n 0 := OLDc.tr ow o1 (by omega)
    have fz : ∀ f, f < g → A z 24 f = A v 24 f ∧ A z 25 f = A v 25 f ∧ A z 27 f = A v 27 f := fun f hf => by
      have gv1 : KPG v w1 := gw.tr g1
      have e : ∀ r, r ∉ [16, 17, 18, 19, 20, 21, 34] → A w1 r f = A v r f := fun r hr => by show (w1.2.2.1 r f).toInt = _; rw [gv1.2.2.1 r hr]; rfl
      exact ⟨by rw [fO _ _ (by omega), e 24 (by simp)], by rw [fO _ _ (by omega), e 25 (by simp)], by rw [fO _ _ (by omega), e 27 (by simp)]⟩
    have fns2 : FNSc z g p n q := FNS_k ((rA 6 (by simp)).trans ((gw.tr g1).2.2.1 6 (by simp))) ((rA 7 (by simp)).trans ((gw.tr g1).2.2.1 7 (by simp))) (fun k hk => by
      obtain ⟨b1, b2, b3, b4, b5, b6⟩ := oz.1 k hk
      exact ⟨by rw [aA _ _ (by simp)]; exact b1, by rw [aA _ _ (by simp)]; exact b2, by rw [aA _ _ (by simp)]; exact b3, by rw [aA _ _ (by simp)]; exact b4, by rw [aA _ _ (by simp)]; exact b5, by rw [aA _ _ (by simp)]; exact b6⟩) fz fns
    refine ok_some.mpr ⟨ku.tr gvz, pp + 1, nn, qq, ⟨ku.tr gvz, ?_, fF, by omega, p, n, q, k, ka, first, fns2, by omega, ?_, f27, f25, ea1, ?_⟩, by omega⟩
    · obtain ⟨b1, b2, b3, b4, b5, b6⟩ := h2
      have e : ∀ k, k ≠ 442 → F z k = F w1 k := fun k hk => congrArg _ (fR.1 k (by simp; exact hk))
      refine ⟨?_, ⟨by rw [e 665 (by decide)]; exact b2.1, b2.2⟩, ⟨by rw [e 306 (by decide)]; exact b3.1, b3.2⟩, by rw [e 449 (by decide)]; exact b4, ⟨by rw [e 666 (by decide)]; exact b5.1, b5.2⟩, by rw [e 664 (by decide)]; exact b6.1, b6.2⟩
      unfold TKKc
      simp only [aA 6 _ (by simp)]; exact b1
    · rw [show pp + 1 - 1 = pp by omega]
      exact RW_k (CLS_k w1 z) CLS_bd rw1 kz
    · rw [f24, aA 7 _ (by simp)]
  have gen : ∀ (M k j first l pp nn qq : Nat) (w : MS), KPG v w → OLDc v w n 0 → PSI w c pp nn qq 0 0 → p + 5 ≤ pp → RPc w 1 (CLSc w) k first l p pp n nn q qq → A w 21 l = 0 → j + p ≤ pp → 4001 < M + pp → OK (fun w r => KPH u w ∧ match r with
    | .inr k => k = 3
    | .inl _ => ∃ p2 n2 q2, PFI u w c (g + 1) p2 n2 q2 ∧ p < p2) (hg_Pa_oneFunction N M w (I ((p : Nat) : Int)) (I ((first : Nat) : Int)) (I ((l : Nat) : Int)) (I ((j : Nat) : Int))) := by
    intro M
    induction M with
    | zero =>
      intro k j first l pp nn qq w _ _ hw
      have := hw.2.1.2
      omega
    | succ M ih =>
      intro k j first l pp nn qq w gv ol hw hpp rp l0 hj hM
      show OK _ (hb_Pa_oneFunction_15 N (hg_Pa_oneFunction N M) w (I ((p : Nat) : Int)) (I ((first : Nat) : Int)) (I ((l : Nat) : Int)) (I ((j : Nat) : Int)))
      unfold hb_Pa_oneFunction_15
      have ppc := hw.2.1.2
      have rh := RP_hd CLS_bd rp
      have hk1 : 1 ≤ k := by
        cases k with
        | zero => exact rp.elim
        | succ k => omega
      have done := e58 M k first l pp nn qq w gv ol hw hpp rp l0
      rw [show (4000 : Int32) = I 4000 from rfl]
      refine k_le ⟨by decide, by decide⟩ ⟨by omega, by omega⟩ (fun _ => done) (fun hlt => look_T hw (fun w2 gw => ⟨ku.tr (gv.tr gw).toH, rfl⟩) (fun h45 => ?_))
      rw [show (27 : Int32) = I 27 from rfl]
      refine k_eq (A_r w 6 pp) ⟨by decide, by decide⟩ (fun e26 => ok_lt.mpr ?_) (fun _ => done)
      obtain ⟨hlt2, hv2⟩ := PSI_at hw ⟨by omega, by omega⟩
      rw [inc_e hw]
      have g2 : KPG w (wi w 665 ((pp + 1 : Nat) : Int)) := KPG_at
      have o2 : OLDc w (wi w 665 ((pp + 1 : Nat) : Int)) nn 0 := OLDc.row rfl
      generalize wi w 665 ((pp + 1 : Nat) : Int) = v2 at hv2 g2 o2
      refine ok_T (ok_mono (clause_okc (N := N) hv2 hN) (fun w3 r hw3 => ?_))
      obtain ⟨gw, hw3⟩ := hw3
      cases r with
      | inr k => exact ⟨ku.tr (gv.tr (g2.tr gw)).toH, hw3⟩
      | inl x =>
        obtain ⟨m, p3, n3, q3, rfl, ol3, hv3, hp3, em, m0⟩ := hw3
        have hm := em.1
        have hm1 := hm.1
        have n3b : n3 ≤ 8000 := by have := hv3.2.2.1.2; have := hv3.2.1.2; omega
        show OK _ (bnd (hm_Pa_chain N w3 (I ((l : Nat) : Int)) (I ((m : Nat) : Int))) _)
        rw [chain_e (by omega), bnd_so, lit1q, I_add, show ((j : Nat) : Int) + 1 = ((j + 1 : Nat) : Int) by omega]
        have ov : OLDc w w3 nn 0 := OLDc.tr o2 ol3 (Nat.le_refl _)
        have gw3 : KPG w w3 := g2.tr gw
        have gw2 : KPG w3 (wa w3 21 l ((m : Nat) : Int)) := FR.wa FR.rf (by simp)
        have a21 : ∀ k, k ≠ l → A (wa w3 21 l ((m : Nat) : Int)) 21 k = A w3 21 k := fun k hk => wa_ne hk
        have aO : ∀ r k, r ≠ 21 → A (wa w3 21 l ((m : Nat) : Int)) r k = A w3 r k := fun r k hr => wa_rne hr
        have a21l : A (wa w3 21 l ((m : Nat) : Int)) 21 l = ((m : Nat) : Int) := wa_eq ⟨by omega, by omega⟩
        have hv4 : PSI (wa w3 21 l ((m : Nat) : Int)) c p3 n3 q3 0 0 := ⟨TKK_g gw2 hv3.1, hv3.2⟩
        have e6 : (wa w3 21 l ((m : Nat) : Int)).2.2.1 6 = w3.2.2.1 6 := gw2.2.2.1 6 (by simp)
        have e7 : (wa w3 21 l ((m : Nat) : Int)).2.2.1 7 = w3.2.2.1 7 := gw2.2.2.1 7 (by simp)
        generalize wa w3 21 l ((m : Nat) : Int) = w5 at gw2 a21 aO a21l hv4 e6 e7
        have kv : KNc w w5 n nn l := ⟨⟨e6.trans (gw3.2.2.1 6 (by simp)), e7.trans (gw3.2.2.1 7 (by simp))⟩, fun k k1 k2 => by
          obtain ⟨b1, b2, b3, b4, b5, b6⟩ := ov.1 k k2
          exact ⟨⟨by rw [aO _ _ (by decide)]; exact b1, by rw [aO _ _ (by decide)]; exact b2, by rw [aO _ _ (by decide)]; exact b3, by rw [aO _ _ (by decide)]; exact b4, by rw [aO _ _ (by decide)]; exact b5⟩, fun k3 => by rw [a21 k k3]; exact b6⟩⟩
        have kw : KNc w3 w5 nn n3 m := ⟨⟨e6, e7⟩, fun k k1 k2 => ⟨⟨aO _ _ (by decide), aO _ _ (by decide), aO _ _ (by decide), aO _ _ (by decide), aO _ _ (by decide)⟩, fun k3 => a21 k (by omega)⟩⟩
        have rp5 := RP_k (CLS_k w w5) CLS_bd rp kv
        have em5 := CLS_k w3 w5 _ _ _ _ _ _ _ em kw
        refine ih (k + 1) (j + 1) first m p3 n3 q3 w5 (gv.tr (gw3.tr gw2)) ?_ hv4 (by omega) (Or.inr ⟨hk1, l, pp, nn, qq, rp5, a21l, em5⟩) ?_ (by omega) (by omega)
        · have o6 := OLDc.tr ol ov (by omega)
          refine ⟨fun k hk => ?_, fun i hi => absurd hi (by omega)⟩
          obtain ⟨b1, b2, b3, b4, b5, b6⟩ := o6.1 k hk
          exact ⟨by rw [aO _ _ (by decide)]; exact b1, by rw [aO _ _ (by decide)]; exact b2, by rw [aO _ _ (by decide)]; exact b3, by rw [aO _ _ (by decide)]; exact b4, by rw [aO _ _ (by decide)]; exact b5, by rw [a21 k (by omega)]; exact b6⟩
        · rw [a21 m (by omega)]; exact m0
  unfold hm_Pa_oneFunction hb_Pa_oneFunction_0
  rw [show v.1 665 = I ((p : Nat) : Int) by rw [I_F (k := 665), hv.2.1.1]]
  refine ok_T (ok_mono (clause_okc (N := N) hv hN) (fun w3 r hw3 => ?_))
  obtain ⟨gw, hw3⟩ := hw3
  cases r with
  | inr k => exact ⟨ku.tr gw.toH, hw3⟩
  | inl x =>
    obtain ⟨m, p3, n3, q3, rfl, ol3, hv3, hp3, em, m0⟩ := hw3
    have h5 := em.2.1
    exact gen N 1 0 m m p3 n3 q3 w3 gw ol3 hv3 (by omega) (Or.inl ⟨rfl, rfl, em⟩) m0 (by omega) (by omega)
end
end
section
set_option maxRecDepth 100000
section
variable {u v w : MS} {N c p n q g : Nat}
theorem ok_H {α β : Type} {Q : MS → β → Prop} {x : Option (MS × (α ⊕ Nat))} {f : MS → α → Option (MS × β)} {h : MS → Option (MS × β)} (hx : OK (fun w r => match r with
  | .inl a => OK Q (f w a)
  | .inr k => k = 3 ∧ OK Q (h w)) x) : OK Q (bHm x f h) := by
  obtain ⟨w, r, e, hx⟩ := hx
  rw [e]
  cases r with
  | inl a => exact hx
  | inr k =>
    obtain ⟨rfl, hx⟩ := hx
    exact hx
def PRQc (u : MS) (c : Nat) (w : MS) (r : Int32) : Prop := KPH (wi u 441 1) w ∧ (r = 0 → A w 6 c = 0 ∧ ∃ g n q, 1 ≤ g ∧ PFI (wi u 441 1) w c g c n q)
theorem parse_okc (h : TKKc u c) (hN : 10000 ≤ N) : OK (PRQc u c) (hm_Pa_parse N u) := by
  have hc := h.1
  have flt : ∀ (w : MS) (G : (MS → Int32 → Option (MS × Int32))), KPH (wi u 441 1) w → F w 667 ≠ 0 → OK (PRQc u c) (hb_Pa_parse_68 N G w) := fun w G gw hf => by
    unfold hb_Pa_parse_68
    refine ok_some.mpr ⟨gw, fun e => absurd ?_ hf⟩
    show (w.1 667).toInt = 0
    rw [e]; rfl
  have e54 : ∀ (M g p n q : Nat) (w : MS), PFI (wi u 441 1) w c g p n q → (∀ (g p n q : Nat) (w : MS), PFI (wi u 441 1) w c g p n q → 1 ≤ g → 4001 < M + g → OK (PRQc u c) (hg_Pa_parse N M w (I ((g : Nat) : Int)))) → 4001 < M + 1 + g → OK (PRQc u c) (hb_Pa_parse_54 N (hg_Pa_parse N M) w (I ((g : Nat) : Int))) := fun M g p n q w hw ih hM => by
    unfold hb_Pa_parse_54
    obtain ⟨w2, r, e, h2, h3⟩ := oneFunction_okc (N := N) hw hN
    refine ok_H ⟨w2, r, e, ?_⟩
    cases r with
    | inr k => exact ⟨h3, flt w2 _ h2 (zr_Pa_oneFunction _ _ e)⟩
    | inl x =>
      obtain ⟨p2, n2, q2, h4, h5⟩ := h3
      show OK _ (hg_Pa_parse N M w2 (I ((g : Nat) : Int) + 1))
      rw [lit1q, I_add, show ((g : Nat) : Int) + 1 = ((g + 1 : Nat) : Int) by omega]
      exact ih (g + 1) p2 n2 q2 w2 h4 (by omega) (by omega)
  have gen : ∀ (M g p n q : Nat) (w : MS), PFI (wi u 441 1) w c g p n q → 1 ≤ g → 4001 < M + g → OK (PRQc u c) (hg_Pa_parse N M w (I ((g : Nat) : Int))) := by
    intro M
    induction M with
    | zero =>
      intro g p n q w hw _ hM
      have := hw.2.2.2.1
      have := hw.2.1.2.1.2
      omega
    | succ M ih =>
      intro g p n q w hw hg hM
      have h6 := hw.2.2.2.1
      have hp := hw.2.1.2.1.2
      show OK _ (hb_Pa_parse_36 N (hg_Pa_parse N M) w (I ((g : Nat) : Int)))
      unfold hb_Pa_parse_36
      refine k_lt (x := 4000) ⟨by decide, by decide⟩ ⟨by omega, by omega⟩ (fun z => absurd z (by omega)) (fun _ => ?_)
      refine k_c (y := 0) rfl ⟨by omega, by omega⟩ ⟨by decide, by decide⟩ (fun z => absurd z (by omega)) (fun _ => ?_)
      have lk := look_T (N := N) (α := Int32) (f := fun w r => some (w, .inl r)) (Q := fun w2 r => KPG w w2 ∧ match r with
        | .inl r => w2 = w ∧ r = I (A w 6 p)
        | .inr k => k = 3) hw.2.1 (fun w gw => ⟨gw, rfl⟩) (fun _ => ok_some.mpr ⟨KPG.rf, rfl, rfl⟩)
      obtain ⟨w2, r, e, h2, h3⟩ := lk
      obtain ⟨w4, r4, e4⟩ : ∃ w4 r4, hm_Pa_look N w = some (w4, r4) := by
        cases hl : hm_Pa_look N w with
        | none => rw [hl] at e; cases e
        | some y => exact ⟨y.1, y.2, rfl⟩
      rw [e4] at e
      refine ok_H ⟨w4, r4, e4, ?_⟩
      cases r4 with
      | inr k =>
        injection e with e
        injection e with ea eb
        subst ea
        subst eb
        exact ⟨h3, flt w4 _ (hw.1.tr h2.toH) (zr_Pa_look _ _ e4)⟩
      | inl x =>
        injection e with e
        injection e with ea eb
        subst ea
        subst eb
        obtain ⟨rfl, rfl⟩ := h3
        refine k_c (y := 0) rfl (A_r _ 6 p) ⟨by decide, by decide⟩ (fun z => ?_) (fun _ => e54 M g p n q _ hw ih (by omega))
        unfold hb_Pa_parse_64
        have : p = c := by
          rcases Nat.lt_or_ge p c with y | y
          · have := (hw.2.1.1.2.2 p y).1; omega
          · omega
        refine ok_some.mpr ⟨hw.1, fun _ => ⟨by rw [← this]; exact z, g, n, q, hg, ?_⟩⟩
        rw [← this]; rw [← this] at hw; exact hw
  unfold hm_Pa_parse hb_Pa_parse_0 hm_Tr_clear hb_Tr_clear_0 hm_Co_clear hb_Co_clear_0
  simp only [lt_e, bnd_so]
  have ei : ∀ (z : MS) k, upI z k 0 = wi z k 0 := fun _ _ => rfl
  have ei1 : ∀ (z : MS) k, upI z k 1 = wi z k 1 := fun _ _ => rfl
  rw [ei, ei, ei, ei, ei, ei, ei, ei1]
  have cm : wi (wi u 306 0) 441 1 = wi (wi u 441 1) 306 0 := by
    show ((fun j => if j = 441 then I 1 else if j = 306 then I 0 else u.1 j), u.2.1, u.2.2.1, u.2.2.2) = ((fun j => if j = 306 then I 0 else if j = 441 then I 1 else u.1 j), u.2.1, u.2.2.1, u.2.2.2)
    congr 1
    funext j
    by_cases z : j = 441
    · rw [if_pos z, if_neg (by omega), if_pos z]
    · rw [if_neg z, if_neg z]
  rw [cm]
  have kh : KPH (wi u 441 1) (wi (wi (wi (wi (wi (wi (wi (wi u 441 1) 306 0) 442 0) 449 0) 664 0) 665 0) 666 0) 667 0) := FR.wi (FR.wi (FR.wi (FR.wi (FR.wi (FR.wi (FR.wi FR.rf (by simp)) (by simp)) (by simp)) (by simp)) (by simp)) (by simp)) (by simp)
  have tk : TKKc (wi (wi (wi (wi (wi (wi (wi (wi u 441 1) 306 0) 442 0) 449 0) 664 0) 665 0) 666 0) 667 0) c := h
  have f0 : ∀ (z : MS) (a b : Nat), F (wi z a 0) b = if b = a then 0 else F z b := fun z a b => F_wi (by decide) (by decide)
  have f6 : ∀ k, k ∈ [306, 442, 449, 664, 665, 666] → F (wi (wi (wi (wi (wi (wi (wi (wi u 441 1) 306 0) 442 0) 449 0) 664 0) 665 0) 666 0) 667 0) k = 0 := fun k hk => by
    simp only [List.mem_cons, List.not_mem_nil, or_false] at hk
    rw [f0, f0, f0, f0, f0, f0, f0]
    rcases hk with rfl | rfl | rfl | rfl | rfl | rfl <;> rfl
  generalize wi (wi (wi (wi (wi (wi (wi (wi u 441 1) 306 0) 442 0) 449 0) 664 0) 665 0) 666 0) 667 0 = z at kh tk f6
  obtain ⟨M, rfl⟩ : ∃ M, N = M + 1 := ⟨N - 1, by omega⟩
  have nx := e54 M 0 0 0 0 z ⟨kh, ⟨tk, ⟨f6 _ (by simp), by omega⟩, ⟨f6 _ (by simp), by omega⟩, f6 _ (by simp), ⟨f6 _ (by simp), by omega⟩, f6 _ (by simp), by omega⟩, f6 _ (by simp), by omega, rfl, rfl, rfl⟩ (gen M) (by omega)
  show OK _ (hb_Pa_parse_36 (M + 1) (hg_Pa_parse (M + 1) M) z 0)
  unfold hb_Pa_parse_36
  rw [show decide ((4000 : Int32) < 0) = false from rfl, br_fq, show decide ((0 : Int32) = 0) = true from rfl, br_tq]
  exact nx
end
end
section
set_option maxRecDepth 100000
def EMc (u w : MS) (l : List Int) : Prop := FR [441] [] [23] [] u w ∧ (F u 441 ≤ F w 441 ∧ F w 441 ≤ 24000 ∧ F w 441 ≤ F u 441 + ((l.length : Nat) : Int)) ∧ (∀ j : Nat, ((j : Nat) : Int) < F u 441 → A w 23 j = A u 23 j) ∧ (F w 441 < 24000 → F w 441 = F u 441 + ((l.length : Nat) : Int) ∧ ∀ k, k < l.length → A w 23 ((F u 441).toNat + k) = l.getD k 0)
def CHNc (u : MS) : List Nat → Int → Prop
  | [], c => c = 0
  | p :: H, c => c = ((p : Nat) : Int) ∧ (1 ≤ p ∧ p < 24000) ∧ (∀ q, q ∈ H → q < p) ∧ CHNc u H (A u 23 p)
section
variable {u v w : MS} {N : Nat} {l l2 : List Int} {x y c : Int} {H : List Nat}
theorem EMc.tr (hu : 1 ≤ F u 441) (a : EMc u v l) (b : EMc v w l2) : EMc u w (l ++ l2) := by
  obtain ⟨a1, ⟨a2, a3, a4⟩, a5, a6⟩ := a
  obtain ⟨b1, ⟨b2, b3, b4⟩, b5, b6⟩ := b
  refine ⟨a1.tr b1, ⟨by omega, b3, by rw [List.length_append]; omega⟩, fun j hj => by rw [b5 j (by omega), a5 j hj], fun z => ?_⟩
  obtain ⟨c1, c2⟩ := b6 z
  obtain ⟨d1, d2⟩ := a6 (by omega)
  refine ⟨by rw [List.length_append]; omega, fun k hk => ?_⟩
  rw [List.length_append] at hk
  rcases Nat.lt_or_ge k l.length with y | y
  · rw [b5 _ (by omega), d2 k y, List.getD_eq_getElem?_getD, List.getD_eq_getElem?_getD, List.getElem?_append_left y]
  · have := c2 (k - l.length) (by omega)
    rw [List.getD_eq_getElem?_getD, List.getElem?_append_right y, ← List.getD_eq_getElem?_getD, ← this]
    congr 1
    omega
theorem put_e (h : 1 ≤ F u 441 ∧ F u 441 ≤ 24000) (hx : RG x) : ∃ w, hm_Co_put N u (I x) = some (w, ()) ∧ EMc u w [x] := by
  obtain ⟨s, hs⟩ : ∃ s : Nat, F u 441 = ((s : Nat) : Int) := ⟨(F u 441).toNat, by omega⟩
  unfold hm_Co_put hb_Co_put_0 hb_Co_put_30
  rw [I_F (k := 441), hs, show (24000 : Int32) = I 24000 from rfl]
  rcases Nat.lt_or_ge s 24000 with z | z
  · rw [show decide (I 24000 ≤ I ((s : Nat) : Int)) = false from decide_eq_false (fun q => absurd ((I_le (by decide) (by decide) (by omega) (by omega)).mp q) (by omega)), br_fq, (I_inb (by omega) (by omega)).mpr ⟨by omega, by omega⟩, ck_t, lt_e, tnI (n := s) rfl (by omega), wa_e, lt_e]
    have e : (wa u 23 s x).1 441 = I ((s : Nat) : Int) := by show u.1 441 = _; rw [I_F (k := 441), hs]
    rw [e, lit1q, I_add, show ((s : Nat) : Int) + 1 = ((s + 1 : Nat) : Int) by omega, wi_e]
    have f1 : F (wi (wa u 23 s x) 441 ((s + 1 : Nat) : Int)) 441 = ((s + 1 : Nat) : Int) := by rw [F_wi (by omega) (by omega), if_pos rfl]
    refine ⟨_, rfl, FR.wi (FR.wa FR.rf (by simp)) (by simp), ⟨by omega, by omega, by rw [f1, hs]; simp⟩, fun j hj => ?_, fun _ => ⟨by rw [f1, hs]; simp, fun k hk => ?_⟩⟩
    · show A (wa u 23 s x) 23 j = _
      rw [wa_ne (by omega)]
    · have : k = 0 := by simp at hk; exact hk
      subst this
      show A (wa u 23 s x) 23 ((F u 441).toNat + 0) = _
      rw [hs, show ((s : Nat) : Int).toNat + 0 = s by omega, wa_eq hx]
      rfl
  · rw [show decide (I 24000 ≤ I ((s : Nat) : Int)) = true from decide_eq_true ((I_le (by decide) (by decide) (by omega) (by omega)).mpr (by omega)), br_tq]
    exact ⟨u, rfl, FR.rf, ⟨by omega, by omega, by show F u 441 ≤ F u 441 + ((1 : Nat) : Int); omega⟩, fun _ _ => rfl, fun q => absurd q (by omega)⟩
theorem EMc.s (h : 1 ≤ F u 441 ∧ F u 441 ≤ 24000) (e : EMc u w l) : 1 ≤ F w 441 ∧ F w 441 ≤ 24000 := ⟨by have := e.2.1.1; omega, e.2.1.2.1⟩
theorem put_B {α : Type} {Q : MS → α → Prop} {f : MS → Unit → Option (MS × α)} {z : MS} (h0 : 1 ≤ F z 441) (e : EMc z u l) (hx : RG x) (k : ∀ w, EMc z w (l ++ [x]) → OK Q (f w ())) : OK Q (bnd (hm_Co_put N u (I x)) f) := by
  obtain ⟨w, hw, ew⟩ := put_e (N := N) (u := u) (x := x) ⟨by have := e.2.1.1; omega, e.2.1.2.1⟩ hx
  rw [hw, bnd_so]
  exact k w (EMc.tr h0 e ew)
theorem EMc.nl (h : F u 441 ≤ 24000) : EMc u u [] := ⟨FR.rf, ⟨by omega, h, by simp⟩, fun _ _ => rfl, fun _ => ⟨by simp, fun k hk => absurd hk (by simp)⟩⟩
theorem put_1 {α : Type} {Q : MS → α → Prop} {f : MS → Unit → Option (MS × α)} (h : 1 ≤ F u 441 ∧ F u 441 ≤ 24000) (hx : RG x) (k : ∀ w, EMc u w [x] → OK Q (f w ())) : OK Q (bnd (hm_Co_put N u (I x)) f) := put_B h.1 (EMc.nl h.2) hx k
theorem term_B {α : Type} {Q : MS → α → Prop} {f : MS → Unit → Option (MS × α)} {z : MS} (h0 : 1 ≤ F z 441) (e : EMc z u l) (hx : RG x) (hy : RG y) (k : ∀ w, EMc z w (l ++ [x, y]) → OK Q (f w ())) : OK Q (bnd (hm_Cm_term N u (I x) (I y)) f) := by
  unfold hm_Cm_term hb_Cm_term_0
  rw [ok_bnd]
  refine put_B h0 e hx (fun w2 e2 => put_B h0 e2 hy (fun w3 e3 => ok_some.mpr (k w3 ?_)))
  rw [List.append_assoc] at e3
  exact e3
theorem hook_B {α : Type} {Q : MS → α → Prop} {f : MS → Int32 → Option (MS × α)} {z : MS} (h0 : 1 ≤ F z 441) (e : EMc z u l) (hx : RG x) (k : ∀ w, EMc z w (l ++ [x]) → OK Q (f w (I (F w 441 - 1)))) : OK Q (bnd (hm_Co_hook N u (I x)) f) := by
  unfold hm_Co_hook hb_Co_hook_0
  rw [ok_bnd]
  refine put_B h0 e hx (fun w2 e2 => ok_some.mpr ?_)
  rw [I_F (k := 441), lit1q, I_sub]
  exact k w2 e2
theorem atC_e (hc : RG c) : ∃ y : Int, RG y ∧ hm_Co_at N u (I c) = some (u, I y) ∧ ∀ p : Nat, c = ((p : Nat) : Int) → p < 24000 → y = A u 23 p := by
  unfold hm_Co_at hb_Co_at_0 hb_Co_at_11 hb_Co_at_21
  rw [lit0q, show (24000 : Int32) = I 24000 from rfl, decL hc.1 hc.2 (by decide) (by decide), decL hc.1 hc.2 (by decide) (by decide)]
  by_cases z : c < 0
  · rw [decide_eq_true z, br_tq]
    exact ⟨0, ⟨by decide, by decide⟩, rfl, fun p hp => absurd hp (by omega)⟩
  · rw [decide_eq_false z, br_fq]
    obtain ⟨s, rfl⟩ : ∃ s : Nat, c = ((s : Nat) : Int) := ⟨c.toNat, by omega⟩
    have := hc.2
    by_cases z2 : ((s : Nat) : Int) < 24000
    · rw [decide_eq_true z2, br_tq, (I_inb (by omega) (by omega)).mpr ⟨by omega, by omega⟩, ck_t, tnI (n := s) rfl (by omega), I_A (k := 23)]
      exact ⟨A u 23 s, A_r _ _ _, rfl, fun p hp _ => by rw [show p = s by omega]⟩
    · rw [decide_eq_false z2, br_fq]
      exact ⟨0, ⟨by decide, by decide⟩, rfl, fun p hp hp2 => absurd hp2 (by omega)⟩
theorem setC_e (hc : RG c) (hx : RG x) : ∃ w, hm_Co_set N u (I c) (I x) = some (w, ()) ∧ FR [] [] [23] [] u w ∧ (∀ j : Nat, ((j : Nat) : Int) ≠ c → A w 23 j = A u 23 j) ∧ ∀ p : Nat, c = ((p : Nat) : Int) → p < 24000 → A w 23 p = x := by
  unfold hm_Co_set hb_Co_set_0 hb_Co_set_18
  rw [lit0q, show (24000 : Int32) = I 24000 from rfl, decL hc.1 hc.2 (by decide) (by decide)]
  by_cases z : c < 0
  · rw [decide_eq_true z, br_tq]
    exact ⟨u, rfl, FR.rf, fun _ _ => rfl, fun p hp => absurd hp (by omega)⟩
  · rw [decide_eq_false z, br_fq]
    obtain ⟨s, rfl⟩ : ∃ s : Nat, c = ((s : Nat) : Int) := ⟨c.toNat, by omega⟩
    have := hc.2
    rcases Nat.lt_or_ge s 24000 with z2 | z2
    · rw [show decide (I 24000 ≤ I ((s : Nat) : Int)) = false from decide_eq_false (fun q => absurd ((I_le (by decide) (by decide) (by omega) (by omega)).mp q) (by omega)), br_fq, (I_inb (by omega) (by omega)).mpr ⟨by omega, by omega⟩, ck_t, tnI (n := s) rfl (by omega), lt_e, wa_e]
      exact ⟨_, rfl, FR.wa FR.rf (by simp), fun j hj => wa_ne (by omega), fun p hp _ => by rw [show p = s by omega]; exact wa_eq hx⟩
    · rw [show decide (I 24000 ≤ I ((s : Nat) : Int)) = true from decide_eq_true ((I_le (by decide) (by decide) (by omega) (by omega)).mpr (by omega)), br_tq]
      exact ⟨u, rfl, FR.rf, fun _ _ => rfl, fun p hp hp2 => absurd hp2 (by omega)⟩
theorem CHNc_k : ∀ {H : List Nat} {c : Int}, (∀ p, p ∈ H → A w 23 p = A u 23 p) → CHNc u H c → CHNc w H c
  | [], _, _, h => h
  | p :: H, c, e, h => by
    obtain ⟨h1, h2, h3, h4⟩ := h
    refine ⟨h1, h2, h3, ?_⟩
    rw [e p (by simp)]
    exact CHNc_k (fun q hq => e q (by simp [hq])) h4
theorem CHNc_len : ∀ {H : List Nat} {c : Int}, CHNc u H c → ((H.length : Nat) : Int) ≤ c
  | [], c, h => by have : c = 0 := h; simp [this]
  | p :: H, c, h => by
    obtain ⟨h1, h2, h3, h4⟩ := h
    have e := CHNc_len h4
    cases H with
    | nil => simp; omega
    | cons q H =>
      have e2 := h4.1
      have := h3 q (by simp)
      simp only [List.length_cons] at e ⊢
      omega
theorem arrive_ok (hc : RG c) (hN : 24002 ≤ N) : OK (fun w _ => FR [] [] [23] [] u w ∧ ∀ H, CHNc u H c → (∀ p, p ∈ H → A w 23 p = F u 441) ∧ ∀ j, j ∉ H → A w 23 j = A u 23 j) (hm_Co_arrive N u (I c)) := by
  have gen : ∀ (M n : Nat) (c : Int) (v : MS), RG c → n ≤ 24000 → 24001 ≤ M + n → FR [] [] [23] [] u v → OK (fun w _ => FR [] [] [23] [] u w ∧ ∀ H, CHNc v H c → H.length + n ≤ 24000 → (∀ p, p ∈ H → A w 23 p = F u 441) ∧ ∀ j, j ∉ H → A w 23 j = A v 23 j) (hg_Co_arrive N M v (I c) (I ((n : Nat) : Int))) := by
    intro M
    induction M with
    | zero => intro n c v _ _ hM; omega
    | succ M ih =>
      intro n c v hc hn hM gv
      show OK _ (hb_Co_arrive_4 N (hg_Co_arrive N M) v (I c) (I ((n : Nat) : Int)))
      unfold hb_Co_arrive_4 hb_Co_arrive_40
      rw [show (24000 : Int32) = I 24000 from rfl]
      refine k_le ⟨by decide, by decide⟩ ⟨by omega, by omega⟩ (fun z => ok_some.mpr ⟨gv, fun H hH hl => ?_⟩) (fun z => ?_)
      · cases H with
        | nil => exact ⟨fun p hp => absurd hp (by simp), fun _ _ => rfl⟩
        | cons p H => simp at hl; omega
      · rw [lit0q]
        refine k_eq hc ⟨by decide, by decide⟩ (fun z0 => ok_some.mpr ⟨gv, fun H hH hl => ?_⟩) (fun z0 => ?_)
        · cases H with
          | nil => exact ⟨fun p hp => absurd hp (by simp), fun _ _ => rfl⟩
          | cons p H => have := hH.1; have := hH.2.1.1; omega
        · obtain ⟨y, hy, e, ey⟩ := atC_e (N := N) (u := v) hc
          rw [e, bnd_so]
          have e441 : F v 441 = F u 441 := congrArg _ (gv.1 441 (by simp))
          obtain ⟨w, ew, gw, w1, w2⟩ := setC_e (N := N) (u := v) (x := F v 441) hc (F_r _ _)
          rw [I_F (k := 441), ew, bnd_so, lit1q, I_add, show ((n : Nat) : Int) + 1 = ((n + 1 : Nat) : Int) by omega]
          refine ok_mono (ih (n + 1) y w hy (by omega) (by omega) (gv.tr gw)) (fun w3 _ h3 => ⟨h3.1, fun H hH hl => ?_⟩)
          cases H with
          | nil => exact absurd hH z0
          | cons p H =>
            obtain ⟨h1, h2, h4, h5⟩ := hH
            rw [← ey p h1 h2.2] at h5
            have np : p ∉ H := fun q => absurd (h4 p q) (by omega)
            have h6 := CHNc_k (w := w) (fun q hq => w1 q (by have := h4 q hq; omega)) h5
            obtain ⟨g1, g2⟩ := h3.2 H h6 (by simp at hl; omega)
            refine ⟨fun q hq => ?_, fun j hj => ?_⟩
            · rcases List.mem_cons.mp hq with rfl | hq
              · rw [g2 _ np, w2 _ h1 h2.2, e441]
              · exact g1 q hq
            · rw [List.mem_cons] at hj
              rw [g2 j (fun q => hj (Or.inr q)), w1 j (fun q => hj (Or.inl (by omega)))]
  unfold hm_Co_arrive hb_Co_arrive_0
  refine ok_mono (gen N 0 c u hc (by omega) (by omega) FR.rf) (fun w _ h => ⟨h.1, fun H hH => h.2 H hH ?_⟩)
  cases H with
  | nil => simp
  | cons p H => have := CHNc_len hH; have := hH.1; have := hH.2.1; omega
end
end
section
set_option maxRecDepth 100000
def CVI (u : MS) (lv : Nat) : Prop := (1 ≤ F u 441 ∧ F u 441 ≤ 24000) ∧ (0 ≤ F u 706 ∧ F u 706 ≤ 4000) ∧ (F u 709 = ((lv : Nat) : Int) ∧ lv ≤ 30) ∧ ((F u 712 = 0 ∨ F u 712 = 1) ∧ (F u 713 = 0 ∨ F u 713 = 1)) ∧ (0 ≤ F u 714 ∧ ((F u 714 ≤ 64031 ∧ 1 ≤ F u 714 % 16) ∨ F u 714 = 1000000000)) ∧ (F u 711 = 0 ∨ F u 711 = 1) ∧ (∀ j, j < 32 → (0 ≤ A u 40 j ∧ A u 40 j ≤ 4000) ∧ 0 ≤ A u 41 j ∧ A u 41 j ≤ 4000) ∧ A u 40 lv ≤ F u 706 ∧ F u 706 - A u 40 lv ≤ A u 41 lv
def KMF (u w : MS) : Prop := FR [441, 706, 709, 711, 712, 713, 714] [] [23, 30, 31, 32, 39, 40, 41, 42] [] u w
def KMc (u w : MS) (lv : Nat) : Prop := KMF u w ∧ CVI w lv ∧ F u 441 ≤ F w 441 ∧ F w 714 ≤ F u 714 ∧ (F w 711 = 0 → F u 711 = 0) ∧ (F w 712 = F u 712 ∧ F w 713 = F u 713) ∧ (∀ j, j ≤ lv → A w 40 j = A u 40 j) ∧ (∀ j, j < lv → A w 41 j = A u 41 j) ∧ A u 41 lv ≤ A w 41 lv
section
variable {u v w : MS} {N lv t : Nat} {l l2 : List Int} {x y c : Int} {H : List Nat}
theorem KMF.rf : KMF u u := FR.rf
theorem KMF.tr (a : KMF u v) (b : KMF v w) : KMF u w := FR.tr a b
theorem KMc.rf (h : CVI u lv) : KMc u u lv := ⟨FR.rf, h, by omega, by omega, fun z => z, ⟨rfl, rfl⟩, fun _ _ => rfl, fun _ _ => rfl, by omega⟩
theorem KMc.tr (a : KMc u v lv) (b : KMc v w lv) : KMc u w lv := by
  obtain ⟨a1, a2, a3, a4, a5, ⟨a6, a7⟩, a8, a9, a10⟩ := a
  obtain ⟨b1, b2, b3, b4, b5, ⟨b6, b7⟩, b8, b9, b10⟩ := b
  exact ⟨a1.tr b1, b2, by omega, by omega, fun z => a5 (b5 z), ⟨b6.trans a6, b7.trans a7⟩, fun j hj => (b8 j hj).trans (a8 j hj), fun j hj => (b9 j hj).trans (a9 j hj), by omega⟩
theorem EMc.km (h : CVI u lv) (e : EMc u w l) : KMc u w lv := by
  have f := e.1
  have eF : ∀ k, k ≠ 441 → F w k = F u k := fun k hk => congrArg _ (f.1 k (by simp; exact hk))
  have eA : ∀ r k, r ≠ 23 → A w r k = A u r k := fun r k hr => by show (w.2.2.1 r k).toInt = _; rw [f.2.2.1 r (by simp; exact hr)]; rfl
  obtain ⟨h1, h2, h3, h4, h5, h6, h7, h8, h9⟩ := h
  refine ⟨FR.mo f (by simp) (by simp) (by simp) (by simp), ⟨EMc.s h1 e, by rw [eF 706 (by decide)]; exact h2, ⟨by rw [eF 709 (by decide)]; exact h3.1, h3.2⟩, ⟨by rw [eF 712 (by decide)]; exact h4.1, by rw [eF 713 (by decide)]; exact h4.2⟩, by rw [eF 714 (by decide)]; exact h5, by rw [eF 711 (by decide)]; exact h6, fun j hj => by rw [eA 40 _ (by decide), eA 41 _ (by decide)]; exact h7 j hj, by rw [eA 40 _ (by decide), eF 706 (by decide)]; exact h8, by rw [eA 40 _ (by decide), eF 706 (by decide), eA 41 _ (by decide)]; exact h9⟩, e.2.1.1, by rw [eF 714 (by decide)]; omega, fun z => by rw [eF 711 (by decide)] at z; exact z, ⟨eF 712 (by decide), eF 713 (by decide)⟩, fun j _ => eA 40 _ (by decide), fun j _ => eA 41 _ (by decide), by rw [eA 41 _ (by decide)]; omega⟩
theorem fault_e (h : 0 ≤ F u 714 ∧ ((F u 714 ≤ 64031 ∧ 1 ≤ F u 714 % 16) ∨ F u 714 = 1000000000)) (ht : 0 ≤ x ∧ x ≤ 4001) (hy : 1 ≤ y ∧ y ≤ 15) : ∃ z : Int, hm_Cm_fault N u (I x) (I y) = some (wi u 714 z, ()) ∧ 0 ≤ z ∧ z ≤ F u 714 ∧ z ≤ 64031 ∧ 1 ≤ z % 16 := by
  unfold hm_Cm_fault hb_Cm_fault_0
  rw [show (16 : Int32) = I 16 from rfl, I_mul, I_add, I_F (k := 714)]
  by_cases z : x * 16 + y < F u 714
  · rw [if_pos ((I_lt (by omega) (by omega) (by omega) (by omega)).mpr z)]
    exact ⟨x * 16 + y, rfl, by omega, by omega, by omega, by omega⟩
  · rw [if_neg (fun q => z ((I_lt (by omega) (by omega) (by omega) (by omega)).mp q))]
    exact ⟨F u 714, rfl, by omega, by omega, by omega, by omega⟩
theorem KM_714 (h : CVI u lv) (hx : 0 ≤ x ∧ x ≤ F u 714 ∧ x ≤ 64031 ∧ 1 ≤ x % 16) : KMc u (wi u 714 x) lv := by
  obtain ⟨h1, h2, h3, h4, h5, h6, h7, h8, h9⟩ := h
  have eF : ∀ k, k ≠ 714 → F (wi u 714 x) k = F u k := fun k hk => by rw [F_wi (by omega) (by omega), if_neg hk]
  have e4 : F (wi u 714 x) 714 = x := by rw [F_wi (by omega) (by omega), if_pos rfl]
  have eA : ∀ r k, A (wi u 714 x) r k = A u r k := fun r k => rfl
  exact ⟨FR.wi FR.rf (by simp), ⟨by rw [eF 441 (by decide)]; exact h1, by rw [eF 706 (by decide)]; exact h2, ⟨by rw [eF 709 (by decide)]; exact h3.1, h3.2⟩, ⟨by rw [eF 712 (by decide)]; exact h4.1, by rw [eF 713 (by decide)]; exact h4.2⟩, by rw [e4]; omega, by rw [eF 711 (by decide)]; exact h6, h7, by rw [eF 706 (by decide)]; exact h8, by rw [eF 706 (by decide)]; exact h9⟩, by rw [eF 441 (by decide)]; omega, by rw [e4]; omega, fun z => by rw [eF 711 (by decide)] at z; exact z, ⟨eF 712 (by decide), eF 713 (by decide)⟩, fun j _ => rfl, fun j _ => rfl, by rw [eA]; omega⟩
theorem fault_B {α : Type} {Q : MS → α → Prop} {f : MS → Unit → Option (MS × α)} (h : CVI u lv) (ht : 0 ≤ x ∧ x ≤ 4001) (hy : 1 ≤ y ∧ y ≤ 15) (k : ∀ w, KMc u w lv → FR [714] [] [] [] u w → F w 714 < 1000000000 → OK Q (f w ())) : OK Q (bnd (hm_Cm_fault N u (I x) (I y)) f) := by
  obtain ⟨z, e, z1, z2, z3, z4⟩ := fault_e (N := N) h.2.2.2.2.1 ht hy
  rw [e, bnd_so]
  exact k _ (KM_714 h ⟨z1, z2, z3, z4⟩) (FR.wi FR.rf (by simp)) (by rw [F_wi (by omega) (by omega), if_pos rfl]; omega)
theorem notIn_B {α : Type} {Q : MS → α → Prop} {f : MS → Unit → Option (MS × α)} (h : CVI u lv) (ht : 0 ≤ x ∧ x ≤ 4001) (k : ∀ w, KMc u w lv → FR [714] [] [] [] u w → (F u 712 = 0 ∨ F w 714 < 1000000000) → OK Q (f w ())) : OK Q (bnd (hm_Cm_notInGuard N u (I x)) f) := by
  unfold hm_Cm_notInGuard hb_Cm_notInGuard_0 hb_Cm_notInGuard_14
  rw [ok_bnd, I_F (k := 712)]
  refine k_c (y := 0) rfl (F_r _ _) ⟨by decide, by decide⟩ (fun z => ok_some.mpr (k u (KMc.rf h) FR.rf (Or.inl z))) (fun z => ?_)
  rw [show (7 : Int32) = I 7 from rfl]
  exact fault_B h ht (by omega) (fun w gw fw hw => ok_some.mpr (k w gw fw (Or.inr hw)))
theorem isBound_ok {nm fr : Int} (h : CVI u lv) (ht : t < 4002) (hf : 0 ≤ fr ∧ fr ≤ 4000) (hN : 10000 ≤ N) : OK (fun w r => FR [] [] [42] [] u w ∧ (r = I 0 ∨ r = I 1)) (hm_Cm_isBound N u (I nm) (I ((t : Nat) : Int)) (I fr)) := by
  obtain ⟨h1, h2, h3, -⟩ := h
  have g2 : ∀ (M d : Nat) (y : Int), RG y → d ≤ 31 → d < M → OK (fun w r => FR [] [] [42] [] u w ∧ (r = I 0 ∨ r = I 1)) ((hg_Cm_isBound N M).2 u (I ((t : Nat) : Int)) (I y) (I ((d : Nat) : Int))) := by
    intro M
    induction M with
    | zero => intro d y _ _ hM; omega
    | succ M ih =>
      intro d y hy hd hM
      show OK _ (hb_Cm_isBound_31 N (hg_Cm_isBound N M) u (I ((t : Nat) : Int)) (I y) (I ((d : Nat) : Int)))
      have e54 : OK (fun w r => FR [] [] [42] [] u w ∧ (r = I 0 ∨ r = I 1)) (hb_Cm_isBound_54 N (hg_Cm_isBound N M) u (I ((t : Nat) : Int)) (I ((d : Nat) : Int))) := by
        unfold hb_Cm_isBound_54
        refine e_in ⟨by omega, by omega⟩ (by decide) (ok_lt.mpr (ok_ck.mpr ⟨by decide, ok_some.mpr ⟨?_, Or.inr rfl⟩⟩))
        rw [wa_e]
        exact FR.wa FR.rf (by simp)
      unfold hb_Cm_isBound_31
      rw [lit0q]
      refine k_le ⟨by omega, by omega⟩ ⟨by decide, by decide⟩ (fun _ => e54) (fun z => e_in ⟨by omega, by omega⟩ (by decide) ?_)
      rw [tnI (n := d) rfl (by omega), I_A (k := 40)]
      refine k_le (A_r _ _ _) hy (fun _ => e54) (fun _ => ?_)
      rw [show (-1 : Int32) = I (-1) from rfl, I_add, show ((d : Nat) : Int) + -1 = ((d - 1 : Nat) : Int) by omega]
      exact ih (d - 1) y hy (by omega) (by omega)
  have g1 : ∀ (M : Nat) (y : Int), -1 ≤ y ∧ y < 4000 → y + 1 < ((M : Nat) : Int) → (31 : Int) + (y + 1) < ((M : Nat) : Int) → OK (fun w r => FR [] [] [42] [] u w ∧ (r = I 0 ∨ r = I 1)) ((hg_Cm_isBound N M).1 u (I nm) (I ((t : Nat) : Int)) (I fr) (I y)) := by
    intro M
    induction M with
    | zero => intro y _ hM; omega
    | succ M ih =>
      intro y hy hM hM2
      show OK _ (hb_Cm_isBound_8 N (hg_Cm_isBound N M) u (I nm) (I ((t : Nat) : Int)) (I fr) (I y))
      unfold hb_Cm_isBound_8
      refine k_lt ⟨by omega, by omega⟩ ⟨by omega, by omega⟩ (fun _ => ok_ck.mpr ⟨by decide, ok_some.mpr ⟨FR.rf, Or.inl rfl⟩⟩) (fun z => e_in ⟨by omega, by omega⟩ (by decide) ?_)
      refine ok_br.mpr ⟨fun _ => ?_, fun _ => ?_⟩
      · rw [I_F (k := 709), h3.1]
        exact g2 M lv y ⟨by omega, by omega⟩ (by omega) (by omega)
      · rw [show (-1 : Int32) = I (-1) from rfl, I_add]
        exact ih (y + -1) (by omega) (by omega) (by omega)
  unfold hm_Cm_isBound hb_Cm_isBound_0
  rw [I_F (k := 706), lit1q, I_sub]
  exact g1 N _ (by omega) (by omega) (by omega)
end
end
