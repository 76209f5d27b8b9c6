/-! the reader of a text: BODIES, parts -/
set_option maxRecDepth 100000
/-- what stands at open number o: patterns, E's, E's of a BODY -/
def PwK (o : Nat) (w : MS) : Nat → Nat → Nat → Nat → Nat → Nat → Nat → Prop := PAcK w (26 - o)
def GwK (o : Nat) (w : MS) : Nat → Nat → Nat → Nat → Nat → Nat → Nat → Prop := XPcK w (4 * (25 - o) + 3) (o + 1) 3
def BwK (o : Nat) (w : MS) : Nat → Nat → Nat → Nat → Nat → Nat → Nat → Prop := XPcK w (4 * (24 - o) + 3) (o + 2) 3
section
variable {u v w : MS} {N c p n q o s p2 n2 q2 m a b l lo hi r d most f t pl ph z : Nat}
theorem Pw_stK (u w : MS) : StE u w (PwK o u) (PwK o w) := PA_kK (Nat.le_refl _)
theorem Gw_stK (u w : MS) : StE u w (GwK o u) (GwK o w) := XP_kK (Nat.le_refl _) (Nat.le_refl _)
theorem Bw_stK (u w : MS) : StE u w (BwK o u) (BwK o w) := XP_kK (Nat.le_refl _) (Nat.le_refl _)
theorem Pw_bdK (u : MS) : BdE (PwK o u) := PA_bdK _
theorem Gw_bdK (u : MS) : BdE (GwK o u) := XP_bdK _ _ _
theorem Bw_bdK (u : MS) : BdE (BwK o u) := XP_bdK _ _ _
theorem body_okcK {S : SF_Pa_matched}
    (hr : o < 25 → ∀ u c p n q s, PSI u c p n q (o + 1) s → OK (fun w r => NDQ (fun w m lo hi a b q r => ∃ k, (1 ≤ k ∧ k ≤ 4000) ∧ RWcK w 1 26 (BwK o w) k m lo hi a b q r) u c p n q (o + 1) s w r) (S.2.2.2.2.2.2.2.2.2.2.2.2.2.2.2.2.2.2.1 u 0 (I ((4000 : Nat) : Int))))
    (h : PSI u c p n q o s) : OK (fun w r => NDQ (fun w m lo hi a b q r => ∃ k, RWcK w 1 26 (BwK o w) k m lo hi a b q r) u c p n q o s w r) (hm_Pa_body N S u) := by
  have e25 : ∀ t1, OK (fun w r => NDQ (fun w m lo hi a b q r => ∃ k, RWcK w 1 26 (BwK o w) k m lo hi a b q r) u c p n q o s w r) (hb_Pa_body_25 N S () u t1) := fun t1 => by
    unfold hb_Pa_body_25
    refine opens_T h (fun w gw => ⟨gw, rfl⟩) (fun _ ho h2 => ?_)
    refine ok_T (ok_mono (hr ho _ c p n q s h2) (fun w r hw => ?_))
    obtain ⟨gw, hw⟩ := hw
    cases r with
    | inr k => exact ⟨KPG_op.tr gw, hw⟩
    | inl x =>
      obtain ⟨m, p3, n3, q3, rfl, ol3, hv3, hp3, k, hk, em⟩ := hw
      obtain ⟨e, hw2⟩ := close_e hv3
      refine ok_lt.mpr (ok_some.mpr ?_)
      rw [e]
      exact ⟨KPG_op.tr (gw.tr KPG_op), m, p3, n3, q3, rfl, OLDc.tr (OLDc.row rfl) (OLDc.tr ol3 (OLDc.row rfl) (Nat.le_refl _)) (Nat.le_refl _), hw2, hp3, k, RW_kK (Bw_stK w _) (Bw_bdK w) em (KN_old KPG_op (OLDc.row (n := n3) (s := 0) rfl) (Nat.le_refl _))⟩
  unfold hm_Pa_body hb_Pa_body_0 hb_Pa_body_20
  refine look_T h (fun w gw => ⟨gw, rfl⟩) (fun h45 => ?_)
  obtain ⟨r6, e6⟩ := begU (N := N) (u := u) (tk_rng h.1 h.2.1.2)
  rw [e6, bnd_so]
  exact ok_br.mpr ⟨fun _ => look_T h (fun w gw => ⟨gw, rfl⟩) (fun _ => ok_br.mpr ⟨fun _ => e25 _, fun _ => e25 _⟩), fun _ => e25 _⟩
/-- what follows the patterns -/
theorem part_okcK {S : SF_Pa_matched} {k m0 : Nat}
    (hr : ∀ u c p n q s, PSI u c p n q o s → OK (fun w r => NDQ (fun w m lo hi a b q r => ∃ k, (1 ≤ k ∧ k ≤ 4000) ∧ RWcK w 1 26 (GwK o w) k m lo hi a b q r) u c p n q o s w r) (S.2.2.2.2.2.2.2.2.2.2.2.2.2.2.2.2.2.2.1 u 0 (I ((4000 : Nat) : Int))))
    (hb : ∀ u c p n q s, PSI u c p n q o s → OK (fun w r => NDQ (fun w m lo hi a b q r => ∃ k, RWcK w 1 26 (BwK o w) k m lo hi a b q r) u c p n q o s w r) (S.2.2.2.2.2.2.2.2.2.1 u))
    (h : PSI u c p n q o s) (ht : t < p) (hpl : pl ≤ ph ∧ ph ≤ p) (em0 : ORcK u 1 26 (PwK o u) k m0 pl ph a n q q) : OK (fun w r => NDQ (fun w m lo hi a1 b q r => PRTcK w (PwK o w) (BwK o w) (GwK o w) k m pl ph lo hi a b q r ∧ (a1 < m ∧ m = b) ∧ lo + 2 ≤ hi ∧ b + 1 + 2 * lo ≤ a1 + 2 * hi ∧ q ≤ r ∧ 5 * r + lo + 2 ≤ 5 * q + hi ∧ A w 21 m = 0 ∧ A w 17 m = ((t : Nat) : Int)) u c p n q o s w r) (hm_Pa_part N S u (I ((t : Nat) : Int)) (I ((m0 : Nat) : Int))) := by
  have hc := h.1.1
  have h2p := h.2.2.1.2
  have hpc := h.2.1.2
  have oh0 := OR_hdK (Pw_bdK u) em0
  have m0b : m0 ≤ n := by
    rcases em0 with ⟨-, h, -⟩ | ⟨-, h⟩
    · omega
    · have := (RW_hdK (Pw_bdK u) h).1.1; omega
  have e30 : ∀ (w : MS) (g p3 n3 q3 : Nat), KPG u w → OLDc u w n s → PSI w c p3 n3 q3 o s → p ≤ p3 → ((g = 0 ∧ p3 = p ∧ n3 = n ∧ q3 = q) ∨ ((1 ≤ g ∧ A w 6 p = 19) ∧ (n < g ∧ g ≤ n3) ∧ (p + 1 < p3 ∧ n3 + 1 + 2 * (p + 1) ≤ n + 2 * p3 ∧ q ≤ q3 ∧ 5 * q3 + (p + 1) + 1 ≤ 5 * q + p3) ∧ ∃ kg, RWcK w 1 26 (GwK o w) kg g (p + 1) p3 n n3 q q3)) → OK (fun w r => NDQ (fun w m lo hi a1 b q r => PRTcK w (PwK o w) (BwK o w) (GwK o w) k m pl ph lo hi a b q r ∧ (a1 < m ∧ m = b) ∧ lo + 2 ≤ hi ∧ b + 1 + 2 * lo ≤ a1 + 2 * hi ∧ q ≤ r ∧ 5 * r + lo + 2 ≤ 5 * q + hi ∧ A w 21 m = 0 ∧ A w 17 m = ((t : Nat) : Int)) u c p n q o s w r) (hb_Pa_part_30 N S () w (I ((t : Nat) : Int)) (I ((m0 : Nat) : Int)) (I ((g : Nat) : Int))) := by
    intro w g p3 n3 q3 gw ow hw hp3 hg
    unfold hb_Pa_part_30
    rw [show (38 : Int32) = I 38 from rfl]
    refine need_T hw (by omega) (fun w2 gw2 => ⟨gw.tr gw2, rfl⟩) (fun e38 h3 => ?_)
    have g1 : KPG w (wi w 665 ((p3 + 1 : Nat) : Int)) := KPG_at
    have o1 : OLDc w (wi w 665 ((p3 + 1 : Nat) : Int)) n3 s := OLDc.row rfl
    generalize wi w 665 ((p3 + 1 : Nat) : Int) = w1 at h3 g1 o1
    refine ok_T (ok_mono (hb w1 c (p3 + 1) n3 q3 s h3) (fun w2 r hw2 => ?_))
    obtain ⟨g2, hw2⟩ := hw2
    cases r with
    | inr k => exact ⟨gw.tr (g1.tr g2), hw2⟩
    | inl x =>
      obtain ⟨mb, p4, n4, q4, rfl, ol4, hv4, hp4, kb, em⟩ := hw2
      have rh := (RW_hdK (Bw_bdK w2) em).1
      unfold HDc at rh
      have n4b : n4 ≤ 8000 := by have := hv4.2.2.1.2; have := hv4.2.1.2; omega
      have p4c := hv4.2.1.2
      have gb : g ≤ 8000 := by
        rcases hg with hg | hg
        · omega
        · have := hg.2.1; omega
      rw [show (25 : Int32) = I 25 from rfl]
      have cnt : n4 + 1 + 1 + 2 * p ≤ n + 2 * p4 ∧ n ≤ n3 ∧ q ≤ q4 ∧ 5 * q4 + p + 2 ≤ 5 * q + p4 ∧ p + 2 ≤ p4 := by
        rcases hg with hg | ⟨-, hx, hg, -⟩ <;> omega
      refine add_B hv4 (by omega) ⟨by decide, by decide⟩ ⟨by omega, by omega⟩ ⟨by omega, by omega⟩ ⟨by omega, by omega⟩ ⟨by omega, by omega⟩ (fun w5 g5 o5 h5 fa => ok_some.mpr ?_)
      obtain ⟨f1, f2, f3, f4, f5, f6⟩ := fa
      have ow5 : OLDc w w5 n3 s := OLDc.tr o1 (OLDc.tr ol4 o5 (by omega)) (Nat.le_refl _)
      have gw5 : KPG w w5 := g1.tr (g2.tr g5)
      have ou5 : OLDc u w5 n s := OLDc.tr ow ow5 cnt.2.1
      refine ⟨gw.tr gw5, n4 + 1, p4, n4 + 1, q4, rfl, ou5, h5, by omega, ⟨⟨by omega, by omega⟩, f1, ⟨t, f2, by omega, by omega⟩, m0, n, g, p3, n3, q3, kb, mb, n4, ⟨f3, OR_kK (Pw_stK u w5) (Pw_bdK u) em0 (KN_old (gw.tr gw5) ou5 (Nat.le_refl _))⟩, ⟨f4, ?_⟩, ⟨f5, RW_kK (Bw_stK w2 w5) (Bw_bdK w2) em (KN_old g5 o5 (Nat.le_refl _))⟩, by omega, gw5.a6.trans e38⟩, ⟨by omega, rfl⟩, by omega, by omega, by omega, by omega, f6, f2⟩
      rcases hg with ⟨h1, h2, h3, h4⟩ | ⟨h1, -, -, kg, h2⟩
      · exact Or.inl ⟨h1, h2, h3, h4⟩
      · exact Or.inr ⟨⟨h1.1, gw5.a6.trans h1.2⟩, kg, RW_kK (Gw_stK w w5) (Gw_bdK w) h2 (KN_old gw5 ow5 (Nat.le_refl _))⟩
  unfold hm_Pa_part hb_Pa_part_0
  refine look_T h (fun w gw => ⟨gw, rfl⟩) (fun h45 => ?_)
  rw [show (19 : Int32) = I 19 from rfl]
  refine k_eq (A_r u 6 p) ⟨by decide, by decide⟩ (fun e => ok_lt.mpr ?_) (fun _ => e30 u 0 p n q KPG.rf OLDc.rf h (Nat.le_refl _) (Or.inl ⟨rfl, rfl, rfl, rfl⟩))
  obtain ⟨hlt2, h3⟩ := PSI_at h (by omega)
  rw [inc_e h]
  have g1 : KPG u (wi u 665 ((p + 1 : Nat) : Int)) := KPG_at
  have o1 : OLDc u (wi u 665 ((p + 1 : Nat) : Int)) n s := OLDc.row rfl
  generalize wi u 665 ((p + 1 : Nat) : Int) = w1 at h3 g1 o1
  refine ok_T (ok_mono (hr w1 c (p + 1) n q s h3) (fun w2 r hw2 => ?_))
  obtain ⟨g2, hw2⟩ := hw2
  cases r with
  | inr k => exact ⟨g1.tr g2, hw2⟩
  | inl x =>
    obtain ⟨mg, p4, n4, q4, rfl, ol4, hv4, hp4, kg, hkg, em⟩ := hw2
    have rh := (RW_hdK (Gw_bdK w2) em).1
    unfold HDc at rh
    exact e30 w2 mg p4 n4 q4 (g1.tr g2) (OLDc.tr o1 ol4 (Nat.le_refl _)) hv4 (by omega) (Or.inr ⟨⟨by omega, (g1.tr g2).a6.trans e⟩, by omega, by omega, kg, em⟩)
theorem choice_okcK {S : SF_Pa_matched}
    (hr : ∀ u c p n q s, PSI u c p n q o s → OK (fun w r => NDQ (fun w m lo hi a b q r => ∃ k, (1 ≤ k ∧ k ≤ 4000) ∧ RWcK w 1 26 (GwK o w) k m lo hi a b q r) u c p n q o s w r) (S.2.2.2.2.2.2.2.2.2.2.2.2.2.2.2.2.2.2.1 u 0 (I ((4000 : Nat) : Int))))
    (hb : ∀ u c p n q s, PSI u c p n q o s → OK (fun w r => NDQ (fun w m lo hi a b q r => ∃ k, RWcK w 1 26 (BwK o w) k m lo hi a b q r) u c p n q o s w r) (S.2.2.2.2.2.2.2.2.2.1 u))
    (h : PSI u c p n q o s) : OK (fun w r => NDQ (fun w m lo hi a b q r => CHPcK w (BwK o w) (GwK o w) m lo hi a b q r ∧ A w 21 m = 0) u c p n q o s w r) (hm_Pa_choice N S u) := by
  have hc := h.1.1
  have h2p := h.2.2.1.2
  have hpc := h.2.1.2
  unfold hm_Pa_choice hb_Pa_choice_0
  rw [show u.1 665 = I ((p : Nat) : Int) by rw [I_F (k := 665), h.2.1.1]]
  refine ok_T (ok_mono (hr u c p n q s h) (fun w r hw => ?_))
  obtain ⟨gw, hw⟩ := hw
  cases r with
  | inr k => exact ⟨gw, hw⟩
  | inl x =>
    obtain ⟨g, p3, n3, q3, rfl, ol3, hv3, hp3, kg, hkg, eg⟩ := hw
    have rg := (RW_hdK (Gw_bdK w) eg).1
    unfold HDc at rg
    rw [show (38 : Int32) = I 38 from rfl]
    refine need_T hv3 (by omega) (fun w2 gw2 => ⟨gw.tr gw2, rfl⟩) (fun e38 h3 => ?_)
    have g1 : KPG w (wi w 665 ((p3 + 1 : Nat) : Int)) := KPG_at
    have o1 : OLDc w (wi w 665 ((p3 + 1 : Nat) : Int)) n3 s := OLDc.row rfl
    generalize wi w 665 ((p3 + 1 : Nat) : Int) = w1 at h3 g1 o1
    refine ok_T (ok_mono (hb w1 c (p3 + 1) n3 q3 s h3) (fun w2 r hw2 => ?_))
    obtain ⟨g2, hw2⟩ := hw2
    cases r with
    | inr k => exact ⟨gw.tr (g1.tr g2), hw2⟩
    | inl x =>
      obtain ⟨mb, p4, n4, q4, rfl, ol4, hv4, hp4, kb, em⟩ := hw2
      have rh := (RW_hdK (Bw_bdK w2) em).1
      unfold HDc at rh
      have n4b : n4 ≤ 8000 := by have := hv4.2.2.1.2; have := hv4.2.1.2; omega
      have p4c := hv4.2.1.2
      rw [show (25 : Int32) = I 25 from rfl, lit0]
      refine add_B hv4 (by omega) ⟨by decide, by decide⟩ ⟨by omega, by omega⟩ ⟨by omega, by omega⟩ ⟨by omega, by omega⟩ ⟨by omega, by omega⟩ (fun w5 g5 o5 h5 fa => ok_some.mpr ?_)
      obtain ⟨f1, f2, f3, f4, f5, f6⟩ := fa
      have ow5 : OLDc w w5 n3 s := OLDc.tr o1 (OLDc.tr ol4 o5 (by omega)) (Nat.le_refl _)
      have gw5 : KPG w w5 := g1.tr (g2.tr g5)
      exact ⟨gw.tr gw5, n4 + 1, p4, n4 + 1, q4, rfl, OLDc.tr ol3 ow5 (by omega), h5, by omega, ⟨⟨⟨by omega, by omega⟩, by omega, by omega, by omega, by omega⟩, f1, ⟨p, f2, by omega, by omega⟩, f3, g, kg, p3, n3, q3, kb, mb, n4, ⟨f4, by omega, RW_kK (Gw_stK w w5) (Gw_bdK w) eg (KN_old gw5 ow5 (Nat.le_refl _))⟩, ⟨f5, RW_kK (Bw_stK w2 w5) (Bw_bdK w2) em (KN_old g5 o5 (Nat.le_refl _))⟩, by omega, gw5.a6.trans e38⟩, f6⟩
theorem oneCase_okcK {S : SF_Pa_matched}
    (hp : ∀ u c p n q s, PSI u c p n q o s → OK (fun w r => NDQ (fun w m lo hi a b q r => PwK o w m lo hi a b q r ∧ A w 21 m = 0) u c p n q o s w r) (S.2.2.2.2.2.2.2.2.2.2.2.2.2.2.2.2.2.1 u))
    (ht : ∀ u c p n q s t k m0 pl ph a, PSI u c p n q o s → t < p → pl ≤ ph ∧ ph ≤ p → ORcK u 1 26 (PwK o u) k m0 pl ph a n q q → OK (fun w r => NDQ (fun w m lo hi a1 b q r => PRTcK w (PwK o w) (BwK o w) (GwK o w) k m pl ph lo hi a b q r ∧ (a1 < m ∧ m = b) ∧ lo + 2 ≤ hi ∧ b + 1 + 2 * lo ≤ a1 + 2 * hi ∧ q ≤ r ∧ 5 * r + lo + 2 ≤ 5 * q + hi ∧ A w 21 m = 0 ∧ A w 17 m = ((t : Nat) : Int)) u c p n q o s w r) (S.2.2.2.2.2.1 u (I ((t : Nat) : Int)) (I ((m0 : Nat) : Int))))
    (h : PSI u c p n q o s) : OK (fun w r => NDQ (fun w m lo hi a b q r => CSPcK w (PwK o w) (BwK o w) (GwK o w) m lo hi a b q r ∧ A w 21 m = 0) u c p n q o s w r) (hm_Pa_oneCase N S u) := by
  unfold hm_Pa_oneCase hb_Pa_oneCase_0
  rw [show u.1 665 = I ((p : Nat) : Int) by rw [I_F (k := 665), h.2.1.1]]
  refine ok_T (ok_mono (hp u c p n q s h) (fun w r hw => ?_))
  obtain ⟨gw, hw⟩ := hw
  cases r with
  | inr k => exact ⟨gw, hw⟩
  | inl x =>
    obtain ⟨m, p3, n3, q3, rfl, ol3, hv3, hp3, em, m0⟩ := hw
    have hd := Pw_bdK w _ _ _ _ _ _ _ em
    have eq : q = q3 := PAqK em
    subst eq
    unfold HDc at hd
    refine ok_T (ok_mono (ht w c p3 n3 q s p 1 m p p3 n hv3 (by omega) (by omega) (Or.inr ⟨Nat.le_refl _, p3, n3, q, em, Or.inl ⟨rfl, m0, rfl, rfl, rfl⟩⟩)) (fun w2 r hw2 => ?_))
    obtain ⟨g2, hw2⟩ := hw2
    cases r with
    | inr k => exact ⟨gw.tr g2, hw2⟩
    | inl x =>
      obtain ⟨m2, p4, n4, q4, rfl, ol4, hv4, hp4, e1, e2, e3, e4, e5, e6, e7, -⟩ := hw2
      refine ok_some.mpr ⟨gw.tr g2, m2, p4, n4, q4, rfl, OLDc.tr ol3 ol4 (by omega), hv4, by omega, ⟨⟨⟨by omega, by omega⟩, by omega, by omega, by omega, by omega⟩, p3, e1⟩, e7⟩
/-- CASES or CHOICES, with ; between -/
theorem parts_okcK {S : SF_Pa_matched} {y : Int32} {Ew : MS → Nat → Nat → Nat → Nat → Nat → Nat → Nat → Prop} (hst : ∀ u w, StE u w (Ew u) (Ew w)) (hbd : ∀ u, BdE (Ew u))
    (he : y = 0 → ∀ u c p n q s, PSI u c p n q o s → OK (fun w r => NDQ (fun w m lo hi a b q r => Ew w m lo hi a b q r ∧ A w 21 m = 0) u c p n q o s w r) (S.2.2.2.2.1 u))
    (hp : y ≠ 0 → ∀ u c p n q s, PSI u c p n q o s → OK (fun w r => NDQ (fun w m lo hi a b q r => Ew w m lo hi a b q r ∧ A w 21 m = 0) u c p n q o s w r) (S.2.2.2.2.2.2.1 u))
    (h : PSI u c p n q o s) (hN : 10000 ≤ N) : OK (fun w r => NDQ (fun w m lo hi a b q r => ∃ k, RWcK w 1 27 (Ew w) k m lo hi a b q r) u c p n q o s w r) (hm_Pa_parts N S u y) := by
  have hc := h.1.1
  have gen : ∀ (M k j first l pp nn qq : Nat) (v : MS), KPG u v → OLDc u v n s → PSI v c pp nn qq o s → p ≤ pp → RPcK v 1 27 (Ew v) k first l p pp n nn q qq → A v 21 l = 0 → j ≤ 4000 → 4001 < M + pp → OK (fun w r => NDQ (fun w m lo hi a b q r => ∃ k, RWcK w 1 27 (Ew w) k m lo hi a b q r) u c p n q o s w r) (hg_Pa_parts N S M v y (I ((first : Nat) : Int)) (I ((l : Nat) : Int)) (I ((j : Nat) : Int))) := by
    intro M
    induction M with
    | zero =>
      intro k j first l pp nn qq v _ _ hv
      have := hv.2.1.2
      omega
    | succ M ih =>
      intro k j first l pp nn qq v g ol hv hpp rp h0 hj hM
      show OK _ (hb_Pa_parts_21 N S (hg_Pa_parts N S M) v y (I ((first : Nat) : Int)) (I ((l : Nat) : Int)) (I ((j : Nat) : Int)))
      unfold hb_Pa_parts_21 hb_Pa_parts_75
      have rh := RP_hdK (hbd v) rp
      have hk1 : 1 ≤ k := by
        cases k with
        | zero => exact rp.elim
        | succ k => omega
      have done : NDQ (fun w m lo hi a b q r => ∃ k, RWcK w 1 27 (Ew w) k m lo hi a b q r) u c p n q o s v (.inl (I ((first : Nat) : Int))) := ⟨g, first, pp, nn, qq, rfl, ol, hv, hpp, k, RW_ofK (hbd v) rp h0⟩
      rw [show (4000 : Int32) = I 4000 from rfl]
      refine k_le ⟨by decide, by decide⟩ ⟨by omega, by omega⟩ (fun _ => ok_some.mpr done) (fun hlt => look_T hv (fun w gw => ⟨g.tr gw, rfl⟩) (fun h45 => ?_))
      rw [show (27 : Int32) = I 27 from rfl]
      refine k_eq (A_r v 6 pp) ⟨by decide, by decide⟩ (fun e26 => ok_lt.mpr ?_) (fun _ => ok_some.mpr done)
      obtain ⟨hlt2, hv2⟩ := PSI_at hv ⟨by omega, by omega⟩
      rw [inc_e hv]
      have g2 : KPG v (wi v 665 ((pp + 1 : Nat) : Int)) := KPG_at
      have o2 : OLDc v (wi v 665 ((pp + 1 : Nat) : Int)) nn s := OLDc.row rfl
      generalize wi v 665 ((pp + 1 : Nat) : Int) = v2 at hv2 g2 o2
      have step : ∀ (x : Option (MS × (Int32 ⊕ Nat))), OK (fun w r => NDQ (fun w m lo hi a b q r => Ew w m lo hi a b q r ∧ A w 21 m = 0) v2 c (pp + 1) nn qq o s w r) x → OK (fun w r => NDQ (fun w m lo hi a b q r => ∃ k, RWcK w 1 27 (Ew w) k m lo hi a b q r) u c p n q o s w r) (bTm x (fun u5 r5 => hb_Pa_parts_65 N S (hg_Pa_parts N S M) u5 y (I ((first : Nat) : Int)) (I ((j : Nat) : Int)) (I ((l : Nat) : Int)) r5)) := fun x hx => ok_T (ok_mono hx (fun w r hw => by
        obtain ⟨gw, hw⟩ := hw
        cases r with
        | inr k => exact ⟨g.tr (g2.tr gw), hw⟩
        | inl x =>
          obtain ⟨m, p3, n3, q3, rfl, ol3, hv3, hp3, em, m0⟩ := hw
          show OK _ (hb_Pa_parts_65 N S (hg_Pa_parts N S M) w y (I ((first : Nat) : Int)) (I ((j : Nat) : Int)) (I ((l : Nat) : Int)) (I ((m : Nat) : Int)))
          unfold hb_Pa_parts_65
          have hm := hbd w _ _ _ _ _ _ _ em
          have hm1 := hm.1
          have n3b : n3 ≤ 8000 := by have := hv3.2.2.1.2; have := hv3.2.1.2; omega
          rw [chain_e (by omega), bnd_so, lit1, I_add, show ((j : Nat) : Int) + 1 = ((j + 1 : Nat) : Int) by omega]
          have ov : OLDc v w nn s := OLDc.tr o2 ol3 (Nat.le_refl _)
          have gv : KPG v w := g2.tr gw
          have gw2 : KPG w (wa w 21 l ((m : Nat) : Int)) := FR.wa FR.rf (by simp)
          have a21 : ∀ k, k ≠ l → A (wa w 21 l ((m : Nat) : Int)) 21 k = A w 21 k := fun k hk => wa_ne hk
          have aO : ∀ r k, r ≠ 21 → A (wa w 21 l ((m : Nat) : Int)) r k = A w r k := fun r k hr => wa_rne hr
          have a21l : A (wa w 21 l ((m : Nat) : Int)) 21 l = ((m : Nat) : Int) := wa_eq ⟨by omega, by omega⟩
          have hv4 : PSI (wa w 21 l ((m : Nat) : Int)) c p3 n3 q3 o s := ⟨TKK_g gw2 hv3.1, hv3.2⟩
          have e6 : (wa w 21 l ((m : Nat) : Int)).2.2.1 6 = w.2.2.1 6 := gw2.2.2.1 6 (by simp)
          have e7 : (wa w 21 l ((m : Nat) : Int)).2.2.1 7 = w.2.2.1 7 := gw2.2.2.1 7 (by simp)
          generalize wa w 21 l ((m : Nat) : Int) = w5 at gw2 a21 aO a21l hv4 e6 e7
          have kv : KNc v w5 n nn l := ⟨⟨e6.trans (gv.2.2.1 6 (by simp)), e7.trans (gv.2.2.1 7 (by simp))⟩, fun k k1 k2 => by
            obtain ⟨b1, b2, b3, b4, b5, b6⟩ := ov.1 k k2
            exact ⟨⟨by rw [aO _ _ (by decide)]; exact b1, by rw [aO _ _ (by decide)]; exact b2, by rw [aO _ _ (by decide)]; exact b3, by rw [aO _ _ (by decide)]; exact b4, by rw [aO _ _ (by decide)]; exact b5⟩, fun k3 => by rw [a21 k k3]; exact b6⟩⟩
          have kw : KNc w w5 nn n3 m := ⟨⟨e6, e7⟩, fun k k1 k2 => ⟨⟨aO _ _ (by decide), aO _ _ (by decide), aO _ _ (by decide), aO _ _ (by decide), aO _ _ (by decide)⟩, fun k3 => a21 k (by omega)⟩⟩
          have rp5 := RP_kK (hst v w5) (hbd v) rp kv
          have em5 := hst w w5 _ _ _ _ _ _ _ em kw
          refine ih (k + 1) (j + 1) first m p3 n3 q3 w5 (g.tr (gv.tr gw2)) ?_ hv4 (by omega) (Or.inr ⟨hk1, l, pp, nn, qq, rp5, ⟨a21l, fun _ => (gv.tr gw2).a6.trans e26⟩, em5⟩) ?_ (by omega) (by omega)
          · have o6 := OLDc.tr ol ov (by omega)
            refine ⟨fun k hk => ?_, fun i hi => by rw [aO _ _ (by decide)]; exact o6.2 i hi⟩
            obtain ⟨b1, b2, b3, b4, b5, b6⟩ := o6.1 k hk
            exact ⟨by rw [aO _ _ (by decide)]; exact b1, by rw [aO _ _ (by decide)]; exact b2, by rw [aO _ _ (by decide)]; exact b3, by rw [aO _ _ (by decide)]; exact b4, by rw [aO _ _ (by decide)]; exact b5, by rw [a21 k (by omega)]; exact b6⟩
          · rw [a21 m (by omega)]; exact m0))
      exact ok_br.mpr ⟨fun z => step _ (he (of_decide_eq_true z) v2 c (pp + 1) nn qq s hv2), fun z => step _ (hp (of_decide_eq_false z) v2 c (pp + 1) nn qq s hv2)⟩
  unfold hm_Pa_parts hb_Pa_parts_0 hb_Pa_parts_15
  have step : ∀ (x : Option (MS × (Int32 ⊕ Nat))), OK (fun w r => NDQ (fun w m lo hi a b q r => Ew w m lo hi a b q r ∧ A w 21 m = 0) u c p n q o s w r) x → OK (fun w r => NDQ (fun w m lo hi a b q r => ∃ k, RWcK w 1 27 (Ew w) k m lo hi a b q r) u c p n q o s w r) (bTm x (fun u7 r7 => hg_Pa_parts N S N u7 y r7 r7 0)) := fun x hx => ok_T (ok_mono hx (fun w r hw => by
    obtain ⟨gw, hw⟩ := hw
    cases r with
    | inr k => exact ⟨gw, hw⟩
    | inl x =>
      obtain ⟨m, p3, n3, q3, rfl, ol3, hv3, hp3, em, m0⟩ := hw
      show OK _ (hg_Pa_parts N S N w y (I ((m : Nat) : Int)) (I ((m : Nat) : Int)) (I ((0 : Nat) : Int)))
      exact gen N 1 0 m m p3 n3 q3 w gw ol3 hv3 hp3 (Or.inl ⟨rfl, rfl, em⟩) m0 (by omega) (by omega)))
  exact ok_br.mpr ⟨fun z => step _ (he (of_decide_eq_true z) u c p n q s h), fun z => step _ (hp (of_decide_eq_false z) u c p n q s h)⟩
end
