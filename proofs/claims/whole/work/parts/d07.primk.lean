/-! the reader of a text: CASE, RECEIVE, FUN, CALLS -/
set_option maxRecDepth 100000
/-- a PRIMARY at open number o; a unit -/
def UwK (cl o : Nat) (w : MS) : Nat → Nat → Nat → Nat → Nat → Nat → Nat → Prop := XPcK w (4 * (26 - o) + cl) o cl
section
variable {u v w : MS} {N c p n q o s p2 n2 q2 m a b l lo hi r d most f t pl ph z : Nat}
theorem Uw_stK {cl : Nat} (u w : MS) : StE u w (UwK cl o u) (UwK cl o w) := XP_kK (Nat.le_refl _) (Nat.le_refl _)
theorem Uw_bdK {cl : Nat} (u : MS) : BdE (UwK cl o u) := XP_bdK _ _ _
theorem BXK (ho : o ≤ 25) (u w : MS) : StE u w (BwK o u) (XPcK w (4 * (25 - o) + 3) (o + 2) 3) := XP_kK (by omega) (Nat.le_refl _)
theorem GXK (u w : MS) : StE u w (GwK o u) (XPcK w (4 * (25 - o) + 3) (o + 1) 3) := XP_kK (Nat.le_refl _) (Nat.le_refl _)
theorem PXK (ho : o ≤ 25) (u w : MS) : StE u w (PwK o u) (PAcK w (4 * (25 - o) + 3)) := PA_kK (by omega)
theorem CXcK (ho : o ≤ 25) (u w : MS) : StE u w (CSPcK u (PwK o u) (BwK o u) (GwK o u)) (CSPcK w (PAcK w (4 * (25 - o) + 3)) (XPcK w (4 * (25 - o) + 3) (o + 2) 3) (XPcK w (4 * (25 - o) + 3) (o + 1) 3)) := CSP_kK (PXK ho u w) (BXK ho u w) (GXK u w) (Pw_bdK u) (Bw_bdK u) (Gw_bdK u)
theorem HXK (ho : o ≤ 25) (u w : MS) : StE u w (CHPcK u (BwK o u) (GwK o u)) (CHPcK w (XPcK w (4 * (25 - o) + 3) (o + 2) 3) (XPcK w (4 * (25 - o) + 3) (o + 1) 3)) := CHP_kK (BXK ho u w) (GXK u w) (Bw_bdK u) (Gw_bdK u)
theorem XP_17 {cl : Nat} (h : XPcK u f o cl n lo hi a b q r) (h0 : cl = 0) : A u 17 n = ((lo : Nat) : Int) := by
  subst h0
  cases f with
  | zero => exact h.elim
  | succ f =>
    obtain ⟨-, -, -, h4⟩ := h
    rcases h4 with ⟨h4, -⟩ | ⟨h4, m, c, h5, h6, h7, -, -, hk⟩ | ⟨h4, h5, hk⟩ | ⟨h4, h5, hk⟩ | ⟨h4, k, m, c, h5, h6, h7, -, -, hk⟩ | ⟨h4, x, mid, c, s, k, m, c2, h5, h6, h7, h8, h9, -, -, -, hk⟩ | ⟨h4, k, m, c, h5, h6, h7, -, -, hk⟩ | ⟨h4, k, m, m1, c1, s1, h5, h6, h7⟩ | ⟨h4, k, m, ph, c, h5, -⟩ | h4 | ⟨h4, h5, -⟩ | ⟨h4, h5, -⟩ | ⟨h4, h5, -⟩ | ⟨h4, h5, -⟩ | ⟨h4, h5, -⟩ | ⟨h4, h5, -⟩ | ⟨h4, h5, -⟩
    · exact h4.2.2.1
    · exact hk
    · exact hk
    · exact hk
    · exact hk
    · exact hk
    · exact hk
    · rcases h7 with ⟨-, -, -, -, -, -, -, -, hk⟩ | ⟨x, m2, c2, s2, kb, mb, c3, -, -, -, -, -, -, -, -, -, -, hk⟩
      · exact hk
      · exact hk
    · exact h5
    · exact h4.2.1.2.2.2.2.2.1
    · exact h5
    · omega
    · omega
    · omega
    · omega
    · omega
    · omega
theorem caseOf_okcK {S : SF_Pa_matched} (ho : o ≤ 25)
    (hx : ∀ u c p n q s, PSI u c p n q o s → OK (fun w r => NDQ (fun w m lo hi a b q r => GwK o w m lo hi a b q r ∧ A w 21 m = 0) u c p n q o s w r) (S.2.2.2.2.2.2.2.2.2.2.2.2.2.2.1 u 1))
    (hp : ∀ u c p n q s, PSI u c p n q o s → OK (fun w r => NDQ (fun w m lo hi a b q r => ∃ k, RWcK w 1 27 (CSPcK w (PwK o w) (BwK o w) (GwK o w)) k m lo hi a b q r) u c p n q o s w r) (S.2.2.2.2.2.2.2.1 u 1))
    (h : PSI u c p n q o s) (hk : A u 6 p = 8) : OK (fun w r => NDQ (fun w m lo hi a b q r => UwK 0 o w m lo hi a b q r ∧ A w 21 m = 0) u c p n q o s w r) (hm_Pa_caseOf N S u) := by
  have hc := h.1.1
  have h2p := h.2.2.1.2
  unfold hm_Pa_caseOf hb_Pa_caseOf_0
  obtain ⟨hpc, h2⟩ := PSI_at h (by omega)
  refine ok_lt.mpr ?_
  rw [inc_e h, show u.1 665 = I ((p : Nat) : Int) by rw [I_F (k := 665), h.2.1.1]]
  have g1 : KPG u (wi u 665 ((p + 1 : Nat) : Int)) := KPG_at
  have o1 : OLDc u (wi u 665 ((p + 1 : Nat) : Int)) n s := OLDc.row rfl
  generalize wi u 665 ((p + 1 : Nat) : Int) = v at h2 g1 o1
  refine ok_T (ok_mono (hx v c (p + 1) n q s h2) (fun w r hw => ?_))
  obtain ⟨gw, hw⟩ := hw
  cases r with
  | inr k => exact ⟨g1.tr gw, hw⟩
  | inl x =>
    obtain ⟨x, p3, n3, q3, rfl, ol3, hv3, hp3, ex, -⟩ := hw
    have hd := Gw_bdK w _ _ _ _ _ _ _ ex
    unfold HDc at hd
    rw [show (15 : Int32) = I 15 from rfl]
    refine need_T hv3 (by omega) (fun w2 gw2 => ⟨g1.tr (gw.tr gw2), rfl⟩) (fun e15 h3 => ?_)
    have g3 : KPG w (wi w 665 ((p3 + 1 : Nat) : Int)) := KPG_at
    have o3 : OLDc w (wi w 665 ((p3 + 1 : Nat) : Int)) n3 s := OLDc.row rfl
    generalize wi w 665 ((p3 + 1 : Nat) : Int) = w1 at h3 g3 o3
    refine ok_T (ok_mono (hp w1 c (p3 + 1) n3 q3 s h3) (fun w2 r hw2 => ?_))
    obtain ⟨g2, hw2⟩ := hw2
    cases r with
    | inr k => exact ⟨g1.tr (gw.tr (g3.tr g2)), hw2⟩
    | inl x2 =>
      obtain ⟨mp, p4, n4, q4, rfl, ol4, hv4, hp4, kb, em⟩ := hw2
      have rh := (RW_hdK CSP_bdK em).1
      unfold HDc at rh
      rw [show (11 : Int32) = I 11 from rfl]
      refine need_T hv4 (by omega) (fun w2 gw2 => ⟨g1.tr (gw.tr (g3.tr (g2.tr gw2))), rfl⟩) (fun e11 h5 => ?_)
      have g5 : KPG w2 (wi w2 665 ((p4 + 1 : Nat) : Int)) := KPG_at
      have o5 : OLDc w2 (wi w2 665 ((p4 + 1 : Nat) : Int)) n4 s := OLDc.row rfl
      generalize wi w2 665 ((p4 + 1 : Nat) : Int) = w3 at h5 g5 o5
      have n4b : n4 ≤ 8000 := by have := hv4.2.2.1.2; have := hv4.2.1.2; omega
      have p5c := h5.2.1.2
      rw [lit0, show (9 : Int32) = I 9 from rfl]
      refine add_B h5 (by omega) ⟨by decide, by decide⟩ ⟨by omega, by omega⟩ ⟨by omega, by omega⟩ ⟨by omega, by omega⟩ ⟨by decide, by decide⟩ (fun w4 g6 o6 h6 fa => ok_some.mpr ?_)
      obtain ⟨f1, f2, f3, f4, f5, f6⟩ := fa
      have gw4 : KPG w w4 := g3.tr (g2.tr (g5.tr g6))
      have ow4 : OLDc w w4 n3 s := OLDc.tr o3 (OLDc.tr ol4 (OLDc.tr o5 o6 (Nat.le_refl _)) (by omega)) (Nat.le_refl _)
      have g24 : KPG w2 w4 := g5.tr g6
      have o24 : OLDc w2 w4 n4 s := OLDc.tr o5 o6 (Nat.le_refl _)
      refine ⟨g1.tr (gw.tr gw4), n4 + 1, p4 + 1, n4 + 1, q4, rfl, OLDc.tr o1 (OLDc.tr ol3 ow4 (by omega)) (Nat.le_refl _), h6, by omega, ?_, f6⟩
      show XPcK w4 (4 * (26 - o)) o 0 _ _ _ _ _ _ _
      rw [f_o ho]
      exact ⟨⟨⟨by omega, by omega⟩, by omega, by omega, by omega, by omega⟩, ⟨p, f2, by omega, by omega⟩, ho, Or.inr (Or.inr (Or.inr (Or.inr (Or.inr (Or.inl ⟨f1, x, p3, n3, q3, kb, mp, n4, f3, GXK w w4 _ _ _ _ _ _ _ ex (KN_old gw4 ow4 (Nat.le_refl _)), f4, RW_kK (CXcK ho w2 w4) CSP_bdK em (KN_old g24 o24 (Nat.le_refl _)), by omega, (g1.tr (gw.tr gw4)).a6.trans hk, gw4.a6.trans e15, by rw [show p4 + 1 - 1 = p4 by omega]; exact g24.a6.trans e11, f2⟩)))))⟩
theorem receive_okcK {S : SF_Pa_matched} (ho : o ≤ 25)
    (hx : ∀ u c p n q s, PSI u c p n q o s → OK (fun w r => NDQ (fun w m lo hi a b q r => GwK o w m lo hi a b q r ∧ A w 21 m = 0) u c p n q o s w r) (S.2.2.2.2.2.2.2.2.2.2.2.2.2.2.1 u 1))
    (hp : ∀ u c p n q s, PSI u c p n q o s → OK (fun w r => NDQ (fun w m lo hi a b q r => ∃ k, RWcK w 1 27 (CSPcK w (PwK o w) (BwK o w) (GwK o w)) k m lo hi a b q r) u c p n q o s w r) (S.2.2.2.2.2.2.2.1 u 1))
    (hb : ∀ u c p n q s, PSI u c p n q o s → OK (fun w r => NDQ (fun w m lo hi a b q r => ∃ k, RWcK w 1 26 (BwK o w) k m lo hi a b q r) u c p n q o s w r) (S.2.2.2.2.2.2.2.2.2.1 u))
    (h : PSI u c p n q o s) (hk : A u 6 p = 17) : OK (fun w r => NDQ (fun w m lo hi a b q r => UwK 0 o w m lo hi a b q r ∧ A w 21 m = 0) u c p n q o s w r) (hm_Pa_receive N S u) := by
  have hc := h.1.1
  have h2p := h.2.2.1.2
  unfold hm_Pa_receive hb_Pa_receive_0
  obtain ⟨hpc, h2⟩ := PSI_at h (by omega)
  refine ok_lt.mpr ?_
  rw [inc_e h, show u.1 665 = I ((p : Nat) : Int) by rw [I_F (k := 665), h.2.1.1]]
  have g1 : KPG u (wi u 665 ((p + 1 : Nat) : Int)) := KPG_at
  have o1 : OLDc u (wi u 665 ((p + 1 : Nat) : Int)) n s := OLDc.row rfl
  generalize wi u 665 ((p + 1 : Nat) : Int) = v at h2 g1 o1
  -- the end of it, without or with a time
  have e75 : ∀ (w w0 : MS) (k mc m1 c1 s1 x mb p3 n3 q3 : Nat), KPG u w0 → KPG w0 w → OLDc u w0 n s → OLDc w0 w c1 s → n ≤ c1 → PSI w c p3 n3 q3 o s → p + 1 ≤ m1 → mc ≤ c1 → (c1 + 2 * (p + 1) ≤ n + 2 * m1 ∧ q ≤ s1 ∧ 5 * s1 + (p + 1) ≤ 5 * q + m1) → ORcK w0 1 27 (CSPcK w0 (PwK o w0) (BwK o w0) (GwK o w0)) k mc (p + 1) m1 n c1 q s1 → ((x = 0 ∧ mb = 0 ∧ 1 ≤ k ∧ p3 = m1 ∧ s1 = q3 ∧ c1 = n3) ∨ (1 ≤ x ∧ (x ≤ n3 ∧ mb ≤ n3) ∧ (m1 + 3 ≤ p3 ∧ c1 ≤ n3 ∧ n3 + 2 * m1 ≤ c1 + 2 * p3 ∧ s1 ≤ q3 ∧ 5 * q3 + m1 ≤ 5 * s1 + p3) ∧ ∃ m2 c2 s2 kb, (c2 ≤ n3 ∧ A w 6 m1 = 5 ∧ A w 6 m2 = 38) ∧ GwK o w x (m1 + 1) m2 c1 c2 s1 s2 ∧ RWcK w 1 26 (BwK o w) kb mb (m2 + 1) p3 c2 n3 s2 q3)) → OK (fun w r => NDQ (fun w m lo hi a b q r => UwK 0 o w m lo hi a b q r ∧ A w 21 m = 0) u c p n q o s w r) (hb_Pa_receive_75 N S () w (I ((p : Nat) : Int)) (I ((mc : Nat) : Int)) (I ((x : Nat) : Int)) (I ((mb : Nat) : Int))) := by
    intro w w0 k mc m1 c1 s1 x mb p3 n3 q3 gu0 g0w ou0 o0w hnc hw hm1 hmc hcnt ec hx
    unfold hb_Pa_receive_75
    rw [show (11 : Int32) = I 11 from rfl]
    refine need_T hw (by omega) (fun w2 gw2 => ⟨gu0.tr (g0w.tr gw2), rfl⟩) (fun e11 h5 => ?_)
    have g5 : KPG w (wi w 665 ((p3 + 1 : Nat) : Int)) := KPG_at
    have o5 : OLDc w (wi w 665 ((p3 + 1 : Nat) : Int)) n3 s := OLDc.row rfl
    generalize wi w 665 ((p3 + 1 : Nat) : Int) = w3 at h5 g5 o5
    have n4b : n3 ≤ 8000 := by have := hw.2.2.1.2; have := hw.2.1.2; omega
    have p5c := h5.2.1.2
    have xb : x ≤ n3 ∧ mb ≤ n3 ∧ c1 ≤ n3 ∧ m1 ≤ p3 ∧ n3 + 2 * m1 ≤ c1 + 2 * p3 ∧ s1 ≤ q3 ∧ 5 * q3 + m1 ≤ 5 * s1 + p3 := by
      rcases hx with hx | ⟨-, h1, h2, -⟩ <;> omega
    refine add_B h5 (by omega) ⟨by decide, by decide⟩ ⟨by omega, by omega⟩ ⟨by omega, by omega⟩ ⟨by omega, by omega⟩ ⟨by omega, by omega⟩ (fun w4 g6 o6 h6 fa => ok_some.mpr ?_)
    obtain ⟨f1, f2, f3, f4, f5, f6⟩ := fa
    have g04 : KPG w0 w4 := g0w.tr (g5.tr g6)
    have ow4 : OLDc w w4 n3 s := OLDc.tr o5 o6 (Nat.le_refl _)
    have o04 : OLDc w0 w4 c1 s := OLDc.tr o0w ow4 (by omega)
    refine ⟨gu0.tr g04, n3 + 1, p3 + 1, n3 + 1, q3, rfl, OLDc.tr ou0 o04 hnc, h6, by omega, ?_, f6⟩
    show XPcK w4 (4 * (26 - o)) o 0 _ _ _ _ _ _ _
    rw [f_o ho]
    refine ⟨⟨⟨by omega, by omega⟩, by omega, by omega, by omega, by omega⟩, ⟨p, f2, by omega, by omega⟩, ho, Or.inr (Or.inr (Or.inr (Or.inr (Or.inr (Or.inr (Or.inr (Or.inl ⟨f1, k, mc, m1, c1, s1, f4, OR_kK (CXcK ho w0 w4) CSP_bdK ec (KN_old g04 o04 (Nat.le_refl _)), ?_⟩)))))))⟩
    rcases hx with ⟨h1, h2, h3, h4, h5, h6⟩ | ⟨h1, -, -, m2, c2, s2, kb, h2, h3, h4⟩
    · exact Or.inl ⟨by rw [f3, h1]; rfl, by rw [f5, h2]; rfl, h3, by omega, h5, by omega, (gu0.tr g04).a6.trans hk, by rw [show p3 + 1 - 1 = p3 by omega]; exact (g5.tr g6).a6.trans e11, f2⟩
    · exact Or.inr ⟨x, m2, c2, s2, kb, mb, n3, h1, f3, GXK w w4 _ _ _ _ _ _ _ h3 (KN_old (g5.tr g6) ow4 h2.1), f5, by rw [show p3 + 1 - 1 = p3 by omega]; exact RW_kK (BXK ho w w4) (Bw_bdK w) h4 (KN_old (g5.tr g6) ow4 (Nat.le_refl _)), by omega, (gu0.tr g04).a6.trans hk, (g5.tr g6).a6.trans h2.2.1, (g5.tr g6).a6.trans h2.2.2, by rw [show p3 + 1 - 1 = p3 by omega]; exact (g5.tr g6).a6.trans e11, f2⟩
  have e32 : ∀ (w0 : MS) (k mc m1 c1 s1 : Nat), KPG u w0 → OLDc u w0 n s → n ≤ c1 → PSI w0 c m1 c1 s1 o s → p + 1 ≤ m1 → mc ≤ c1 → (c1 + 2 * (p + 1) ≤ n + 2 * m1 ∧ q ≤ s1 ∧ 5 * s1 + (p + 1) ≤ 5 * q + m1) → ORcK w0 1 27 (CSPcK w0 (PwK o w0) (BwK o w0) (GwK o w0)) k mc (p + 1) m1 n c1 q s1 → (k = 0 → A w0 6 m1 = 5) → OK (fun w r => NDQ (fun w m lo hi a b q r => UwK 0 o w m lo hi a b q r ∧ A w 21 m = 0) u c p n q o s w r) (hb_Pa_receive_32 N S () w0 (I ((p : Nat) : Int)) (I ((mc : Nat) : Int))) := by
    intro w0 k mc m1 c1 s1 gu0 ou0 hnc h0 hm1 hmc hcnt ec hk0
    unfold hb_Pa_receive_32
    refine look_T h0 (fun w gw => ⟨gu0.tr gw, rfl⟩) (fun h45 => ?_)
    rw [show (5 : Int32) = I 5 from rfl]
    refine k_eq (A_r w0 6 m1) ⟨by decide, by decide⟩ (fun e => ok_lt.mpr ?_) (fun ne => e75 w0 w0 k mc m1 c1 s1 0 0 m1 c1 s1 gu0 KPG.rf ou0 OLDc.rf hnc h0 hm1 hmc hcnt ec (Or.inl ⟨rfl, rfl, by rcases Nat.eq_zero_or_pos k with z | z; exact absurd (hk0 z) ne; exact z, rfl, rfl, rfl⟩))
    obtain ⟨hlt2, h3⟩ := PSI_at h0 (by omega)
    rw [inc_e h0]
    have g3 : KPG w0 (wi w0 665 ((m1 + 1 : Nat) : Int)) := KPG_at
    have o3 : OLDc w0 (wi w0 665 ((m1 + 1 : Nat) : Int)) c1 s := OLDc.row rfl
    generalize wi w0 665 ((m1 + 1 : Nat) : Int) = w1 at h3 g3 o3
    refine ok_T (ok_mono (hx w1 c (m1 + 1) c1 s1 s h3) (fun w2 r hw2 => ?_))
    obtain ⟨g2, hw2⟩ := hw2
    cases r with
    | inr k => exact ⟨gu0.tr (g3.tr g2), hw2⟩
    | inl x2 =>
      obtain ⟨x, p4, n4, q4, rfl, ol4, hv4, hp4, ex, -⟩ := hw2
      have hd := Gw_bdK w2 _ _ _ _ _ _ _ ex
      unfold HDc at hd
      rw [show (38 : Int32) = I 38 from rfl]
      refine need_T hv4 (by omega) (fun w2 gw2 => ⟨gu0.tr (g3.tr (g2.tr gw2)), rfl⟩) (fun e38 h5 => ?_)
      have g5 : KPG w2 (wi w2 665 ((p4 + 1 : Nat) : Int)) := KPG_at
      have o5 : OLDc w2 (wi w2 665 ((p4 + 1 : Nat) : Int)) n4 s := OLDc.row rfl
      generalize wi w2 665 ((p4 + 1 : Nat) : Int) = w3 at h5 g5 o5
      refine ok_T (ok_mono (hb w3 c (p4 + 1) n4 q4 s h5) (fun w4 r hw4 => ?_))
      obtain ⟨g6, hw4⟩ := hw4
      cases r with
      | inr k => exact ⟨gu0.tr (g3.tr (g2.tr (g5.tr g6))), hw4⟩
      | inl x2 =>
        obtain ⟨mb, p6, n6, q6, rfl, ol6, hv6, hp6, kb, em⟩ := hw4
        have rh := (RW_hdK (Bw_bdK w4) em).1
        unfold HDc at rh
        exact e75 w4 w0 k mc m1 c1 s1 x mb p6 n6 q6 gu0 (g3.tr (g2.tr (g5.tr g6))) ou0 (OLDc.tr o3 (OLDc.tr ol4 (OLDc.tr o5 ol6 (Nat.le_refl _)) (by omega)) (Nat.le_refl _)) hnc hv6 hm1 hmc hcnt ec (Or.inr ⟨by omega, by omega, by omega, p4, n4, q4, kb, ⟨by omega, (g3.tr (g2.tr (g5.tr g6))).a6.trans e, (g5.tr g6).a6.trans e38⟩, Gw_stK w2 w4 _ _ _ _ _ _ _ ex (KN_old (g5.tr g6) (OLDc.tr o5 ol6 (Nat.le_refl _)) (Nat.le_refl _)), em⟩)
  refine look_T h2 (fun w gw => ⟨g1.tr gw, rfl⟩) (fun h45 => ?_)
  rw [show (5 : Int32) = I 5 from rfl]
  refine k_eq (A_r v 6 (p + 1)) ⟨by decide, by decide⟩ (fun e => ?_) (fun _ => ?_)
  · exact e32 v 0 0 (p + 1) n q g1 o1 (Nat.le_refl _) h2 (Nat.le_refl _) (by omega) (by omega) (Or.inl ⟨rfl, rfl, rfl, rfl, rfl⟩) (fun _ => e)
  · refine ok_T (ok_mono (hp v c (p + 1) n q s h2) (fun w2 r hw2 => ?_))
    obtain ⟨g2, hw2⟩ := hw2
    cases r with
    | inr k => exact ⟨g1.tr g2, hw2⟩
    | inl x2 =>
      obtain ⟨mp, p4, n4, q4, rfl, ol4, hv4, hp4, kb, em⟩ := hw2
      obtain ⟨rh, hk1⟩ := RW_hdK CSP_bdK em
      unfold HDc at rh
      exact e32 w2 kb mp p4 n4 q4 (g1.tr g2) (OLDc.tr o1 ol4 (Nat.le_refl _)) (by omega) hv4 hp4 (by omega) (by omega) (Or.inr ⟨hk1, em⟩) (fun z => by omega)
theorem fun_okcK {S : SF_Pa_matched} (ho : o ≤ 25)
    (hr : ∀ u c p n q s, PSI u c p n q o s → OK (fun w r => NDQ (fun w m lo hi a b q r => (lo + 1 ≤ hi ∧ A w 6 (hi - 1) = 21) ∧ ∃ k, k ≤ 6 ∧ ORcK w 1 26 (PwK o w) k m lo (hi - 1) a b q r) u c p n q o s w r) (S.2.2.2.2.2.2.2.2.2.2.2.2.2.2.2.2.2.2.2 u 1 (I ((6 : Nat) : Int)) (I 21)))
    (ht : ∀ u c p n q s t k m0 pl ph a, PSI u c p n q o s → t < p → pl ≤ ph ∧ ph ≤ p → ORcK u 1 26 (PwK o u) k m0 pl ph a n q q → OK (fun w r => NDQ (fun w m lo hi a1 b q r => PRTcK w (PwK o w) (BwK o w) (GwK o w) k m pl ph lo hi a b q r ∧ (a1 < m ∧ m = b) ∧ lo + 2 ≤ hi ∧ b + 1 + 2 * lo ≤ a1 + 2 * hi ∧ q ≤ r ∧ 5 * r + lo + 2 ≤ 5 * q + hi ∧ A w 21 m = 0 ∧ A w 17 m = ((t : Nat) : Int)) u c p n q o s w r) (S.2.2.2.2.2.1 u (I ((t : Nat) : Int)) (I ((m0 : Nat) : Int))))
    (h : PSI u c p n q o s) (hk : A u 6 p = 12) : OK (fun w r => NDQ (fun w m lo hi a b q r => UwK 0 o w m lo hi a b q r ∧ A w 21 m = 0) u c p n q o s w r) (hm_Pa_fun N S u) := by
  have hc := h.1.1
  have h2p := h.2.2.1.2
  unfold hm_Pa_fun hb_Pa_fun_0
  obtain ⟨hpc, h2⟩ := PSI_at h (by omega)
  refine ok_lt.mpr ?_
  rw [inc_e h, show u.1 665 = I ((p : Nat) : Int) by rw [I_F (k := 665), h.2.1.1]]
  have g1 : KPG u (wi u 665 ((p + 1 : Nat) : Int)) := KPG_at
  have o1 : OLDc u (wi u 665 ((p + 1 : Nat) : Int)) n s := OLDc.row rfl
  generalize wi u 665 ((p + 1 : Nat) : Int) = v at h2 g1 o1
  refine look_T h2 (fun w gw => ⟨g1.tr gw, rfl⟩) (fun h45 => ?_)
  rw [show (2 : Int32) = I 2 from rfl]
  refine k_eq (A_r v 6 (p + 1)) ⟨by decide, by decide⟩ (fun e => ok_lt.mpr ?_) (fun _ => ?_)
  · obtain ⟨hlt2, h3⟩ := PSI_at h2 (by omega)
    rw [inc_e h2, show v.1 665 = I ((p + 1 : Nat) : Int) by rw [I_F (k := 665), h2.2.1.1]]
    have g3 : KPG v (wi v 665 ((p + 1 + 1 : Nat) : Int)) := KPG_at
    have o3 : OLDc v (wi v 665 ((p + 1 + 1 : Nat) : Int)) n s := OLDc.row rfl
    generalize wi v 665 ((p + 1 + 1 : Nat) : Int) = w1 at h3 g3 o3
    rw [show (37 : Int32) = I 37 from rfl]
    refine need_T h3 (by omega) (fun w2 gw2 => ⟨g1.tr (g3.tr gw2), rfl⟩) (fun e37 h4 => ?_)
    have g4 : KPG w1 (wi w1 665 ((p + 1 + 1 + 1 : Nat) : Int)) := KPG_at
    have o4 : OLDc w1 (wi w1 665 ((p + 1 + 1 + 1 : Nat) : Int)) n s := OLDc.row rfl
    generalize wi w1 665 ((p + 1 + 1 + 1 : Nat) : Int) = w2 at h4 g4 o4
    rw [lit1]
    refine need_T h4 (by omega) (fun w2 gw2 => ⟨g1.tr (g3.tr (g4.tr gw2)), rfl⟩) (fun e1 h5 => ?_)
    have g5 : KPG w2 (wi w2 665 ((p + 1 + 1 + 1 + 1 : Nat) : Int)) := KPG_at
    have o5 : OLDc w2 (wi w2 665 ((p + 1 + 1 + 1 + 1 : Nat) : Int)) n s := OLDc.row rfl
    generalize wi w2 665 ((p + 1 + 1 + 1 + 1 : Nat) : Int) = w3 at h5 g5 o5
    have p5c := h5.2.1.2
    refine e_in ⟨by omega, by omega⟩ (by decide) (e_in ⟨by omega, by omega⟩ (by decide) ?_)
    rw [tnI (n := p + 1) rfl (by omega), tnI (n := p + 1 + 1 + 1) rfl (by omega), I_A (k := 7), I_A (k := 7), lit0, show (13 : Int32) = I 13 from rfl]
    refine add_B h5 (by omega) ⟨by decide, by decide⟩ ⟨by omega, by omega⟩ (A_r w3 7 _) (A_r w3 7 _) ⟨by decide, by decide⟩ (fun w4 g6 o6 h6 fa => ok_some.mpr ?_)
    obtain ⟨f1, f2, f3, f4, f5, f6⟩ := fa
    refine ⟨g1.tr (g3.tr (g4.tr (g5.tr g6))), n + 1, p + 1 + 1 + 1 + 1, n + 1, q, rfl, OLDc.tr o1 (OLDc.tr o3 (OLDc.tr o4 (OLDc.tr o5 o6 (Nat.le_refl _)) (Nat.le_refl _)) (Nat.le_refl _)) (Nat.le_refl _), h6, by omega, ?_, f6⟩
    show XPcK w4 (4 * (26 - o)) o 0 _ _ _ _ _ _ _
    rw [f_o ho]
    exact ⟨⟨⟨by omega, by omega⟩, by omega, by omega, by omega, by omega⟩, ⟨p, f2, by omega, by omega⟩, ho, Or.inr (Or.inr (Or.inr (Or.inr (Or.inr (Or.inr (Or.inr (Or.inr (Or.inr (Or.inl ⟨f1, ⟨by omega, (g1.tr (g3.tr (g4.tr (g5.tr g6)))).a6.trans hk, (g3.tr (g4.tr (g5.tr g6))).a6.trans e, (g4.tr (g5.tr g6)).a6.trans e37, (g5.tr g6).a6.trans e1, f2, f3.trans (show A w3 7 _ = A w4 7 _ by show _ = (w4.2.2.1 7 _).toInt; rw [g6.2.2.1 7 (by simp)]; rfl), f4.trans (show A w3 7 _ = A w4 7 _ by show _ = (w4.2.2.1 7 _).toInt; rw [g6.2.2.1 7 (by simp)]; rfl)⟩, rfl⟩)))))))))⟩
  · rw [show (20 : Int32) = I 20 from rfl]
    refine need_T h2 (by omega) (fun w2 gw2 => ⟨g1.tr gw2, rfl⟩) (fun e20 h3 => ?_)
    have g3 : KPG v (wi v 665 ((p + 1 + 1 : Nat) : Int)) := KPG_at
    have o3 : OLDc v (wi v 665 ((p + 1 + 1 : Nat) : Int)) n s := OLDc.row rfl
    generalize wi v 665 ((p + 1 + 1 : Nat) : Int) = w1 at h3 g3 o3
    refine place_B h3 (fun w2 g4 o4 h4 => ?_)
    have gu2 : KPG u w2 := g1.tr (g3.tr g4)
    have ou2 : OLDc u w2 n s := OLDc.tr o1 (OLDc.tr o3 o4 (Nat.le_refl _)) (Nat.le_refl _)
    refine ok_T (ok_mono (hr w2 c (p + 1 + 1) n (q + 1) s h4) (fun w5 r hw5 => ?_))
    obtain ⟨g5, hw5⟩ := hw5
    cases r with
    | inr k => exact ⟨gu2.tr g5, hw5⟩
    | inl x2 =>
      obtain ⟨mp, p5, n5, q5, rfl, ol5, hv5, hp5, hlo, k, hk6, em⟩ := hw5
      have oh := OR_hdK (Pw_bdK w5) em
      have eq : q + 1 = q5 := ORqK (fun _ _ _ _ _ _ _ h => PAqK h) em
      subst eq
      refine ok_T (ok_mono (ht w5 c p5 n5 (q + 1) s p k mp (p + 1 + 1) (p5 - 1) n hv5 (by omega) (by omega) em) (fun w6 r hw6 => ?_))
      obtain ⟨g6, hw6⟩ := hw6
      cases r with
      | inr k => exact ⟨gu2.tr (g5.tr g6), hw6⟩
      | inl x2 =>
        obtain ⟨m2, p7, n7, q7, rfl, ol7, hv7, hp7, e1, e2, e3, e4, e5, e6, e7, -⟩ := hw6
        rw [show (11 : Int32) = I 11 from rfl]
        refine need_T hv7 (by omega) (fun w2 gw2 => ⟨gu2.tr (g5.tr (g6.tr gw2)), rfl⟩) (fun e11 h8 => ?_)
        have g8 : KPG w6 (wi w6 665 ((p7 + 1 : Nat) : Int)) := KPG_at
        have o8 : OLDc w6 (wi w6 665 ((p7 + 1 : Nat) : Int)) n7 s := OLDc.row rfl
        generalize wi w6 665 ((p7 + 1 : Nat) : Int) = w7 at h8 g8 o8
        have n7b : n7 ≤ 8000 := by have := hv7.2.2.1.2; have := hv7.2.1.2; omega
        have p8c := h8.2.1.2
        have qr : RG (if q < 400 then ((q : Nat) : Int) else 0) := by
          constructor <;> split <;> omega
        rw [show (12 : Int32) = I 12 from rfl]
        refine add_B h8 (by omega) ⟨by decide, by decide⟩ ⟨by omega, by omega⟩ qr ⟨by omega, by omega⟩ ⟨by omega, by omega⟩ (fun w9 g9 o9 h9 fa => ok_some.mpr ?_)
        obtain ⟨f1, f2, f3, f4, f5, f6⟩ := fa
        have g69 : KPG w6 w9 := g8.tr g9
        have o69 : OLDc w6 w9 n7 s := OLDc.tr o8 o9 (Nat.le_refl _)
        refine ⟨gu2.tr (g5.tr (g6.tr g69)), n7 + 1, p7 + 1, n7 + 1, q7, rfl, OLDc.tr ou2 (OLDc.tr ol5 (OLDc.tr ol7 o69 (by omega)) (by omega)) (Nat.le_refl _), h9, by omega, ?_, f6⟩
        show XPcK w9 (4 * (26 - o)) o 0 _ _ _ _ _ _ _
        rw [f_o ho]
        refine ⟨⟨⟨by omega, by omega⟩, by omega, by omega, by omega, by omega⟩, ⟨p, f2, by omega, by omega⟩, ho, Or.inr (Or.inr (Or.inr (Or.inr (Or.inr (Or.inr (Or.inr (Or.inr (Or.inl ⟨f1, k, m2, p5 - 1, n7, f2, f3, f4, by rw [show p7 + 1 - 1 = p7 by omega]; exact f5, hk6, by omega, ?_, by omega, (gu2.tr (g5.tr (g6.tr g69))).a6.trans hk, (g3.tr (g4.tr (g5.tr (g6.tr g69)))).a6.trans e20, (g6.tr g69).a6.trans hlo.2, by rw [show p7 + 1 - 1 = p7 by omega]; exact g69.a6.trans e11⟩))))))))⟩
        rw [show p7 + 1 - 1 = p7 by omega, show p5 - 1 + 1 = p5 by omega]
        exact PRT_kK (PXK ho w6 w9) (BXK ho w6 w9) (GXK w6 w9) (Pw_bdK w6) (Bw_bdK w6) (Gw_bdK w6) e1 (KN_old g69 o69 (Nat.le_refl _))
end
