/-! the reader of a text: PRIMARIES, E's, all together -/
set_option maxRecDepth 100000
/-- what all routines of the group do, so deep -/
def GRPpK (N d : Nat) : Prop := ∀ o, o ≤ 25 →
  (10 * (25 - o) + 1 ≤ d → ∀ y : Int32, ∀ u c p n q s, PSI u c p n q o s → OK (fun w r => NDQ (fun w m lo hi a b q r => GwK o w m lo hi a b q r ∧ A w 21 m = 0 ∧ (y = 0 → A w 6 lo ≠ 9)) u c p n q o s w r) ((hrc_Pa_matched N d).2.2.2.2.2.2.2.2.2.2.2.2.2.2.1 u y)) ∧
  (10 * (25 - o) + 1 ≤ d → ∀ u c p n q s, PSI u c p n q o s → OK (fun w r => NDQ (fun w m lo hi a b q r => PwK o w m lo hi a b q r ∧ A w 21 m = 0) u c p n q o s w r) ((hrc_Pa_matched N d).2.2.2.2.2.2.2.2.2.2.2.2.2.2.2.2.2.1 u)) ∧
  (10 * (25 - o) + 1 + 1 ≤ d → ∀ most, 1 ≤ most ∧ most ≤ 4000 → ∀ u c p n q s, PSI u c p n q o s → OK (fun w r => NDQ (fun w m lo hi a b q r => ∃ k, (1 ≤ k ∧ k ≤ most) ∧ RWcK w 1 26 (GwK o w) k m lo hi a b q r) u c p n q o s w r) ((hrc_Pa_matched N d).2.2.2.2.2.2.2.2.2.2.2.2.2.2.2.2.2.2.1 u 0 (I ((most : Nat) : Int)))) ∧
  (10 * (25 - o) + 1 + 1 ≤ d → ∀ most, 1 ≤ most ∧ most ≤ 4000 → ∀ u c p n q s, PSI u c p n q o s → OK (fun w r => NDQ (fun w m lo hi a b q r => ∃ k, (1 ≤ k ∧ k ≤ most) ∧ RWcK w 1 26 (PwK o w) k m lo hi a b q r) u c p n q o s w r) ((hrc_Pa_matched N d).2.2.2.2.2.2.2.2.2.2.2.2.2.2.2.2.2.2.1 u 1 (I ((most : Nat) : Int)))) ∧
  (10 * (25 - o) + 1 + 2 ≤ d → ∀ (most : Nat) (K : Int), 1 ≤ most ∧ most ≤ 4000 → 1 ≤ K ∧ K ≤ 44 → ∀ u c p n q s, PSI u c p n q o s → OK (fun w r => NDQ (fun w m lo hi a b q r => (lo + 1 ≤ hi ∧ A w 6 (hi - 1) = K) ∧ ∃ k, k ≤ most ∧ ORcK w 1 26 (GwK o w) k m lo (hi - 1) a b q r) u c p n q o s w r) ((hrc_Pa_matched N d).2.2.2.2.2.2.2.2.2.2.2.2.2.2.2.2.2.2.2 u 0 (I ((most : Nat) : Int)) (I K))) ∧
  (10 * (25 - o) + 1 + 2 ≤ d → ∀ (most : Nat) (K : Int), 1 ≤ most ∧ most ≤ 4000 → 1 ≤ K ∧ K ≤ 44 → ∀ u c p n q s, PSI u c p n q o s → OK (fun w r => NDQ (fun w m lo hi a b q r => (lo + 1 ≤ hi ∧ A w 6 (hi - 1) = K) ∧ ∃ k, k ≤ most ∧ ORcK w 1 26 (PwK o w) k m lo (hi - 1) a b q r) u c p n q o s w r) ((hrc_Pa_matched N d).2.2.2.2.2.2.2.2.2.2.2.2.2.2.2.2.2.2.2 u 1 (I ((most : Nat) : Int)) (I K))) ∧
  (10 * (25 - o) + 1 + 3 ≤ d → ∀ u c p n q s, PSI u c p n q o s → A u 6 p = 22 → OK (fun w r => NDQ (TUQK (GwK o)) u c p n q o s w r) ((hrc_Pa_matched N d).2.2.2.2.2.2.2.2.2.2.2.2.2.2.2.2.1 u 0)) ∧
  (10 * (25 - o) + 1 + 3 ≤ d → ∀ u c p n q s, PSI u c p n q o s → A u 6 p = 22 → OK (fun w r => NDQ (TUQK (PwK o)) u c p n q o s w r) ((hrc_Pa_matched N d).2.2.2.2.2.2.2.2.2.2.2.2.2.2.2.2.1 u 1)) ∧
  (10 * (25 - o) + 1 + 2 ≤ d → ∀ u c p n q s, PSI u c p n q o s → A u 6 p = 24 → OK (fun w r => NDQ (LIQK (GwK o)) u c p n q o s w r) ((hrc_Pa_matched N d).2.2.2.2.2.2.2.2.2.2.2.2.2.2.2.1 u 0)) ∧
  (10 * (25 - o) + 1 + 2 ≤ d → ∀ u c p n q s, PSI u c p n q o s → A u 6 p = 24 → OK (fun w r => NDQ (LIQK (PwK o)) u c p n q o s w r) ((hrc_Pa_matched N d).2.2.2.2.2.2.2.2.2.2.2.2.2.2.2.1 u 1)) ∧
  (10 * (25 - o) + 1 ≤ d → ∀ u c p n q s, PSI u c p n q o s → OK (fun w r => NDQ (fun w m lo hi a b q r => ∃ k, RWcK w 1 26 (BwK o w) k m lo hi a b q r) u c p n q o s w r) ((hrc_Pa_matched N d).2.2.2.2.2.2.2.2.2.1 u)) ∧
  (10 * (25 - o) + 1 + 2 ≤ d → ∀ u c p n q s t k m0 pl ph a, PSI u c p n q o s → t < p → pl ≤ ph ∧ ph ≤ p → ORcK u 1 26 (PwK o u) k m0 pl ph a n q q → OK (fun w r => NDQ (fun w m lo hi a1 b q r => PRTcK w (PwK o w) (BwK o w) (GwK o w) k m pl ph lo hi a b q r ∧ (a1 < m ∧ m = b) ∧ lo + 2 ≤ hi ∧ b + 1 + 2 * lo ≤ a1 + 2 * hi ∧ q ≤ r ∧ 5 * r + lo + 2 ≤ 5 * q + hi ∧ A w 21 m = 0 ∧ A w 17 m = ((t : Nat) : Int)) u c p n q o s w r) ((hrc_Pa_matched N d).2.2.2.2.2.1 u (I ((t : Nat) : Int)) (I ((m0 : Nat) : Int)))) ∧
  (10 * (25 - o) + 1 + 2 ≤ d → ∀ u c p n q s, PSI u c p n q o s → OK (fun w r => NDQ (fun w m lo hi a b q r => CHPcK w (BwK o w) (GwK o w) m lo hi a b q r ∧ A w 21 m = 0) u c p n q o s w r) ((hrc_Pa_matched N d).2.2.2.2.1 u)) ∧
  (10 * (25 - o) + 1 + 3 ≤ d → ∀ u c p n q s, PSI u c p n q o s → OK (fun w r => NDQ (fun w m lo hi a b q r => CSPcK w (PwK o w) (BwK o w) (GwK o w) m lo hi a b q r ∧ A w 21 m = 0) u c p n q o s w r) ((hrc_Pa_matched N d).2.2.2.2.2.2.1 u)) ∧
  (10 * (25 - o) + 1 + 4 ≤ d → ∀ u c p n q s, PSI u c p n q o s → OK (fun w r => NDQ (fun w m lo hi a b q r => ∃ k, RWcK w 1 27 (CHPcK w (BwK o w) (GwK o w)) k m lo hi a b q r) u c p n q o s w r) ((hrc_Pa_matched N d).2.2.2.2.2.2.2.1 u 0)) ∧
  (10 * (25 - o) + 1 + 4 ≤ d → ∀ u c p n q s, PSI u c p n q o s → OK (fun w r => NDQ (fun w m lo hi a b q r => ∃ k, RWcK w 1 27 (CSPcK w (PwK o w) (BwK o w) (GwK o w)) k m lo hi a b q r) u c p n q o s w r) ((hrc_Pa_matched N d).2.2.2.2.2.2.2.1 u 1)) ∧
  (10 * (25 - o) + 1 + 5 ≤ d → ∀ u c p n q s, PSI u c p n q o s → A u 6 p = 8 → OK (fun w r => NDQ (fun w m lo hi a b q r => UwK 0 o w m lo hi a b q r ∧ A w 21 m = 0) u c p n q o s w r) ((hrc_Pa_matched N d).2.2.2.2.2.2.2.2.1 u)) ∧
  (10 * (25 - o) + 1 + 5 ≤ d → ∀ u c p n q s, PSI u c p n q o s → A u 6 p = 17 → OK (fun w r => NDQ (fun w m lo hi a b q r => UwK 0 o w m lo hi a b q r ∧ A w 21 m = 0) u c p n q o s w r) ((hrc_Pa_matched N d).2.2.2.1 u)) ∧
  (10 * (25 - o) + 1 + 3 ≤ d → ∀ u c p n q s, PSI u c p n q o s → A u 6 p = 12 → OK (fun w r => NDQ (fun w m lo hi a b q r => UwK 0 o w m lo hi a b q r ∧ A w 21 m = 0) u c p n q o s w r) ((hrc_Pa_matched N d).2.2.1 u)) ∧
  (10 * (25 - o) + 1 + 3 ≤ d → ∀ u c p n q s, PSI u c p n q o s → A u 6 p = 2 → OK (fun w r => NDQ (fun w m lo hi a b q r => UwK 0 o w m lo hi a b q r ∧ A w 21 m = 0) u c p n q o s w r) ((hrc_Pa_matched N d).2.2.2.2.2.2.2.2.2.2.1 u)) ∧
  (10 * (25 - o) + 1 + 3 ≤ d → ∀ u c p n q s x lo a q0, PSI u c p n q o s → UwK 0 o u x lo p a n q0 q → A u 21 x = 0 → a ≤ 2 * lo → OK (fun w r => NDQ (fun w m _ hi _ b _ r => UwK 1 o w m lo hi a b q0 r ∧ A w 21 m = 0) u c p n q o s w r) ((hrc_Pa_matched N d).2.1 u (I ((x : Nat) : Int)))) ∧
  (10 * (25 - o) + 1 + 6 ≤ d → ∀ u c p n q s, PSI u c p n q o s → OK (fun w r => NDQ (fun w m lo hi a b q r => UwK 0 o w m lo hi a b q r ∧ A w 21 m = 0) u c p n q o s w r) ((hrc_Pa_matched N d).2.2.2.2.2.2.2.2.2.2.2.1 u)) ∧
  (10 * (25 - o) + 1 + 7 ≤ d → ∀ u c p n q s, PSI u c p n q o s → OK (fun w r => NDQ (fun w m lo hi a b q r => UwK 1 o w m lo hi a b q r ∧ A w 21 m = 0) u c p n q o s w r) ((hrc_Pa_matched N d).2.2.2.2.2.2.2.2.2.2.2.2.1 u)) ∧
  (10 * (25 - o) + 1 + 8 ≤ d → ∀ u c p n q s, PSI u c p n q o s → OK (fun w r => NDQ (fun w m lo hi a b q r => UwK 2 o w m lo hi a b q r ∧ A w 21 m = 0) u c p n q o s w r) ((hrc_Pa_matched N d).2.2.2.2.2.2.2.2.2.2.2.2.2.1 u)) ∧
  (10 * (25 - o) + 1 + 1 ≤ d → ∀ u c p n q s x lo a q0, PSI u c p n q o s → UwK 2 o u x lo p a n q0 q → A u 21 x = 0 → a ≤ 2 * lo → OK (fun w r => NDQ (fun w m _ hi _ b _ r => UwK 3 o w m lo hi a b q0 r ∧ A w 21 m = 0) u c p n q o s w r) ((hrc_Pa_matched N d).1 u (I ((x : Nat) : Int))))
section
variable {u v w : MS} {N c p n q o s p2 n2 q2 m a b l lo hi r d most f t x q0 : Nat}
theorem TUxK (ho : o ≤ 25) (h : TUQK (GwK o) w m lo hi a b q r) : UwK 0 o w m lo hi a b q r := by
  obtain ⟨t1, t2, t3, t4, t5, t6⟩ := h
  show XPcK w (4 * (26 - o)) o 0 _ _ _ _ _ _ _
  rw [f_o ho]
  exact ⟨t1, t2, ho, Or.inr (Or.inr (Or.inl ⟨t4, t5, t6⟩))⟩
theorem LIxK (ho : o ≤ 25) (h : LIQK (GwK o) w m lo hi a b q r) : UwK 0 o w m lo hi a b q r := by
  obtain ⟨t1, t2, t3, t4, t5, t6⟩ := h
  show XPcK w (4 * (26 - o)) o 0 _ _ _ _ _ _ _
  rw [f_o ho]
  exact ⟨t1, t2, ho, Or.inr (Or.inr (Or.inr (Or.inl ⟨t4, t5, t6⟩)))⟩
theorem primary_okcK {S : SF_Pa_matched} (ho : o ≤ 25)
    (hx : ∀ u c p n q s, PSI u c p n q o s → OK (fun w r => NDQ (fun w m lo hi a b q r => GwK o w m lo hi a b q r ∧ A w 21 m = 0) u c p n q o s w r) (S.2.2.2.2.2.2.2.2.2.2.2.2.2.2.1 u 1))
    (hb : ∀ u c p n q s, PSI u c p n q o s → OK (fun w r => NDQ (fun w m lo hi a b q r => ∃ k, RWcK w 1 26 (BwK o w) k m lo hi a b q r) u c p n q o s w r) (S.2.2.2.2.2.2.2.2.2.1 u))
    (hp0 : ∀ u c p n q s, PSI u c p n q o s → OK (fun w r => NDQ (fun w m lo hi a b q r => ∃ k, RWcK w 1 27 (CHPcK w (BwK o w) (GwK o w)) k m lo hi a b q r) u c p n q o s w r) (S.2.2.2.2.2.2.2.1 u 0))
    (hca : ∀ u c p n q s, PSI u c p n q o s → A u 6 p = 8 → OK (fun w r => NDQ (fun w m lo hi a b q r => UwK 0 o w m lo hi a b q r ∧ A w 21 m = 0) u c p n q o s w r) (S.2.2.2.2.2.2.2.2.1 u))
    (hre : ∀ u c p n q s, PSI u c p n q o s → A u 6 p = 17 → OK (fun w r => NDQ (fun w m lo hi a b q r => UwK 0 o w m lo hi a b q r ∧ A w 21 m = 0) u c p n q o s w r) (S.2.2.2.1 u))
    (hfu : ∀ u c p n q s, PSI u c p n q o s → A u 6 p = 12 → OK (fun w r => NDQ (fun w m lo hi a b q r => UwK 0 o w m lo hi a b q r ∧ A w 21 m = 0) u c p n q o s w r) (S.2.2.1 u))
    (hac : ∀ u c p n q s, PSI u c p n q o s → A u 6 p = 2 → OK (fun w r => NDQ (fun w m lo hi a b q r => UwK 0 o w m lo hi a b q r ∧ A w 21 m = 0) u c p n q o s w r) (S.2.2.2.2.2.2.2.2.2.2.1 u))
    (htu : ∀ u c p n q s, PSI u c p n q o s → A u 6 p = 22 → OK (fun w r => NDQ (TUQK (GwK o)) u c p n q o s w r) (S.2.2.2.2.2.2.2.2.2.2.2.2.2.2.2.2.1 u 0))
    (hli : ∀ u c p n q s, PSI u c p n q o s → A u 6 p = 24 → OK (fun w r => NDQ (LIQK (GwK o)) u c p n q o s w r) (S.2.2.2.2.2.2.2.2.2.2.2.2.2.2.2.1 u 0))
    (h : PSI u c p n q o s) : OK (fun w r => NDQ (fun w m lo hi a b q r => UwK 0 o w m lo hi a b q r ∧ A w 21 m = 0) u c p n q o s w r) (hm_Pa_primary N S u) := by
  have hc := h.1.1
  have h2p := h.2.2.1.2
  have no : ∀ {f : MS → Unit → Option (MS × (Int32 ⊕ Nat))}, OK (fun w r => NDQ (fun w m lo hi a b q r => UwK 0 o w m lo hi a b q r ∧ A w 21 m = 0) u c p n q o s w r) (bTm (hm_Pa_refuse N u 2) f) := fun {f} => refuse_T h (fun w gw => ⟨gw, rfl⟩)
  have id : ∀ {x : Option (MS × (Int32 ⊕ Nat))}, OK (fun w r => NDQ (fun w m lo hi a b q r => UwK 0 o w m lo hi a b q r ∧ A w 21 m = 0) u c p n q o s w r) x → OK (fun w r => NDQ (fun w m lo hi a b q r => UwK 0 o w m lo hi a b q r ∧ A w 21 m = 0) u c p n q o s w r) (bTm x (fun u4 r4 => some (u4, .inl r4))) := fun {x} hx => ok_T (ok_mono hx (fun w r hw => by
    cases r with
    | inr k => exact hw
    | inl x => exact ok_some.mpr hw))
  have lf : (1 ≤ A u 6 p ∧ A u 6 p ≤ 4 ∧ A u 6 p ≠ 2) → OK (fun w r => NDQ (fun w m lo hi a b q r => UwK 0 o w m lo hi a b q r ∧ A w 21 m = 0) u c p n q o s w r) (bnd (hm_Pa_leaf N u) (fun u3 r3 => some (u3, .inl r3))) := fun h4 => leaf_B h ⟨h4.1, h4.2.1⟩ (fun w gw ow hw lf m0 a61 => ok_some.mpr (by
    have p3c := hw.2.1.2
    refine ⟨gw, n + 1, p + 1, n + 1, q, rfl, ow, hw, by omega, ?_, m0⟩
    show XPcK w (4 * (26 - o)) o 0 _ _ _ _ _ _ _
    rw [f_o ho]
    exact ⟨⟨⟨by omega, by omega⟩, by omega, by omega, by omega, by omega⟩, ⟨p, lf.2.2.1, by omega, by omega⟩, ho, Or.inl ⟨lf, ⟨rfl, fun z => absurd (gw.a6.symm.trans z) h4.2.2⟩, rfl⟩⟩))
  have mo : ∀ {Q1 : MS → Nat → Nat → Nat → Nat → Nat → Nat → Nat → Prop} {x : Option (MS × (Int32 ⊕ Nat))}, (∀ w m lo hi a b q r, Q1 w m lo hi a b q r → UwK 0 o w m lo hi a b q r ∧ A w 21 m = 0) → OK (fun w r => NDQ Q1 u c p n q o s w r) x → OK (fun w r => NDQ (fun w m lo hi a b q r => UwK 0 o w m lo hi a b q r ∧ A w 21 m = 0) u c p n q o s w r) x := fun {Q1 x} hq hx => ok_mono hx (fun w r hw => by
    obtain ⟨gw, hw⟩ := hw
    cases r with
    | inr k => exact ⟨gw, hw⟩
    | inl x =>
      obtain ⟨m, p3, n3, q3, e1, ol3, hv3, hp3, em⟩ := hw
      exact ⟨gw, m, p3, n3, q3, e1, ol3, hv3, hp3, hq _ _ _ _ _ _ _ _ em⟩)
  -- BEGIN, IF, LEFT
  have dl : ∀ (K1 K2 : Int) (X : MS → Option (MS × (Int32 ⊕ Nat))) (R : MS → Nat → Nat → Nat → Nat → Nat → Nat → Nat → Prop) (f : MS → Int32 → Option (MS × (Int32 ⊕ Nat))), A u 6 p ≠ 0 ∧ A u 6 p ≠ 45 → 1 ≤ K1 ∧ K1 ≤ 44 → (∀ u c p n q s, PSI u c p n q o s → OK (fun w r => NDQ R u c p n q o s w r) (X u)) → (∀ w m lo hi a b q r, R w m lo hi a b q r → HDc m lo hi a b q r) → (∀ w w4 m p3 n3 q3, KPG w w4 → OLDc w w4 n3 s → R w m (p + 1) p3 n n3 q q3 → PSI w4 c (p3 + 1) n3 q3 o s → KPG u w4 → OLDc u w4 n s → p + 1 < p3 → n3 + 2 * p + 3 ≤ n + 2 * p3 → q ≤ q3 → 5 * q3 + p + 2 ≤ 5 * q + p3 → n < m ∧ m ≤ n3 → A w4 6 p3 = K1 → OK (fun w r => NDQ (fun w m lo hi a b q r => UwK 0 o w m lo hi a b q r ∧ A w 21 m = 0) u c p n q o s w r) (f w4 (I ((m : Nat) : Int)))) → OK (fun w r => NDQ (fun w m lo hi a b q r => UwK 0 o w m lo hi a b q r ∧ A w 21 m = 0) u c p n q o s w r) (lt (upI u 665 ((u.1 665) + 1)) (fun w10 => bTm (X w10) (fun u11 r11 => bTm (hm_Pa_need N u11 (I K1)) (fun u12 _ => f u12 r11)))) := by
    intro K1 K2 X R f hk hK hX hR hf
    obtain ⟨hpc, h2⟩ := PSI_at h hk
    refine ok_lt.mpr ?_
    rw [inc_e h]
    have g1 : KPG u (wi u 665 ((p + 1 : Nat) : Int)) := KPG_at
    have o1 : OLDc u (wi u 665 ((p + 1 : Nat) : Int)) n s := OLDc.row rfl
    generalize wi u 665 ((p + 1 : Nat) : Int) = v at h2 g1 o1
    refine ok_T (ok_mono (hX v c (p + 1) n q s h2) (fun w r hw => ?_))
    obtain ⟨gw, hw⟩ := hw
    cases r with
    | inr k => exact ⟨g1.tr gw, hw⟩
    | inl x =>
      obtain ⟨m, p3, n3, q3, rfl, ol3, hv3, hp3, em⟩ := hw
      have hd := hR _ _ _ _ _ _ _ _ em
      unfold HDc at hd
      refine need_T hv3 hK (fun w2 gw2 => ⟨g1.tr (gw.tr gw2), rfl⟩) (fun eK h3 => ?_)
      exact hf w _ m p3 n3 q3 KPG_at (OLDc.row rfl) em h3 (g1.tr (gw.tr KPG_at)) (OLDc.tr o1 (OLDc.tr ol3 (OLDc.row rfl) (by omega)) (Nat.le_refl _)) (by omega) (by omega) (by omega) (by omega) (by omega) eK
  unfold hm_Pa_primary hb_Pa_primary_0
  refine look_T h (fun w gw => ⟨gw, rfl⟩) (fun h45 => ?_)
  refine k_c (y := 1) rfl (A_r u 6 p) ⟨by decide, by decide⟩ (fun e => lf (by omega)) (fun _ => k_c (y := 2) rfl (A_r u 6 p) ⟨by decide, by decide⟩ (fun e => id (hac u c p n q s h e)) (fun _ => k_c (y := 3) rfl (A_r u 6 p) ⟨by decide, by decide⟩ (fun e => lf (by omega)) (fun _ => k_c (y := 4) rfl (A_r u 6 p) ⟨by decide, by decide⟩ (fun e => lf (by omega)) (fun _ => k_c (y := 5) rfl (A_r u 6 p) ⟨by decide, by decide⟩ (fun e => no) (fun _ => k_c (y := 6) rfl (A_r u 6 p) ⟨by decide, by decide⟩ (fun e => no) (fun _ => k_c (y := 7) rfl (A_r u 6 p) ⟨by decide, by decide⟩ (fun e => ?_) (fun _ => k_c (y := 8) rfl (A_r u 6 p) ⟨by decide, by decide⟩ (fun e => id (hca u c p n q s h (by omega))) (fun _ => k_c (y := 9) rfl (A_r u 6 p) ⟨by decide, by decide⟩ (fun e => no) (fun _ => k_c (y := 10) rfl (A_r u 6 p) ⟨by decide, by decide⟩ (fun e => no) (fun _ => k_c (y := 11) rfl (A_r u 6 p) ⟨by decide, by decide⟩ (fun e => no) (fun _ => k_c (y := 12) rfl (A_r u 6 p) ⟨by decide, by decide⟩ (fun e => id (hfu u c p n q s h (by omega))) (fun _ => k_c (y := 13) rfl (A_r u 6 p) ⟨by decide, by decide⟩ (fun e => ?_) (fun _ => k_c (y := 14) rfl (A_r u 6 p) ⟨by decide, by decide⟩ (fun e => no) (fun _ => k_c (y := 15) rfl (A_r u 6 p) ⟨by decide, by decide⟩ (fun e => no) (fun _ => k_c (y := 16) rfl (A_r u 6 p) ⟨by decide, by decide⟩ (fun e => no) (fun _ => k_c (y := 17) rfl (A_r u 6 p) ⟨by decide, by decide⟩ (fun e => id (hre u c p n q s h (by omega))) (fun _ => k_c (y := 18) rfl (A_r u 6 p) ⟨by decide, by decide⟩ (fun e => no) (fun _ => k_c (y := 19) rfl (A_r u 6 p) ⟨by decide, by decide⟩ (fun e => no) (fun _ => k_c (y := 20) rfl (A_r u 6 p) ⟨by decide, by decide⟩ (fun e => ?_) (fun _ => k_c (y := 21) rfl (A_r u 6 p) ⟨by decide, by decide⟩ (fun e => no) (fun _ => k_c (y := 22) rfl (A_r u 6 p) ⟨by decide, by decide⟩ (fun e => id (mo (fun w m lo hi a b q r h => ⟨TUxK ho h, h.2.2.1⟩) (htu u c p n q s h (by omega)))) (fun _ => k_c (y := 23) rfl (A_r u 6 p) ⟨by decide, by decide⟩ (fun e => no) (fun _ => k_c (y := 24) rfl (A_r u 6 p) ⟨by decide, by decide⟩ (fun e => id (mo (fun w m lo hi a b q r h => ⟨LIxK ho h, h.2.2.1⟩) (hli u c p n q s h (by omega)))) (fun _ => no))))))))))))))))))))))))
  · refine dl 11 0 _ (fun w m lo hi a b q r => ∃ k, RWcK w 1 26 (BwK o w) k m lo hi a b q r) (fun u12 r11 => bnd (hm_Tr_add N u12 8 (u.1 665) r11 0 0) (fun u14 r14 => some (u14, .inl r14))) (by omega) (by omega) (fun u c p n q s h => hb u c p n q s h) (fun w m lo hi a b q r hh => by obtain ⟨k, hk⟩ := hh; exact (RW_hdK (Bw_bdK w) hk).1) (fun w w4 m p3 n3 q3 g4 o4 em h4 gu ou b1 b2 b3 b4 b5 eK => ?_)
    have p4c := h4.2.1.2
    have n4b : n3 ≤ 8000 := by have := h4.2.2.1.2; omega
    show OK _ (bnd (hm_Tr_add N w4 _ _ _ _ _) _)
    rw [show u.1 665 = I ((p : Nat) : Int) by rw [I_F (k := 665), h.2.1.1], lit0, show (8 : Int32) = I 8 from rfl]
    refine add_B h4 (by omega) ⟨by decide, by decide⟩ ⟨by omega, by omega⟩ ⟨by omega, by omega⟩ ⟨by omega, by omega⟩ ⟨by decide, by decide⟩ (fun w6 g6 o6 h6 fa => ok_some.mpr ?_)
    obtain ⟨f1, f2, f3, f4, f5, f6⟩ := fa
    refine ⟨gu.tr g6, n3 + 1, p3 + 1, n3 + 1, q3, rfl, OLDc.tr ou o6 (by omega), h6, by omega, ?_, f6⟩
    show XPcK w6 (4 * (26 - o)) o 0 _ _ _ _ _ _ _
    rw [f_o ho]
    refine ⟨⟨⟨by omega, by omega⟩, by omega, by omega, by omega, by omega⟩, ⟨p, f2, by omega, by omega⟩, ho, Or.inr (Or.inr (Or.inr (Or.inr (Or.inl ⟨f1, ?_⟩))))⟩
    rw [show p3 + 1 - 1 = p3 by omega]
    exact by obtain ⟨k, em⟩ := em; exact ⟨k, m, n3, f3, RW_kK (BXK ho w w6) (Bw_bdK w) em (KN_old (g4.tr g6) (OLDc.tr o4 o6 (Nat.le_refl _)) (Nat.le_refl _)), by omega, (gu.tr g6).a6.trans e, g6.a6.trans eK, f2⟩
  · refine dl 11 0 _ (fun w m lo hi a b q r => ∃ k, RWcK w 1 27 (CHPcK w (BwK o w) (GwK o w)) k m lo hi a b q r) (fun u12 r11 => bnd (hm_Tr_add N u12 10 (u.1 665) 0 r11 0) (fun u14 r14 => some (u14, .inl r14))) (by omega) (by omega) (fun u c p n q s h => hp0 u c p n q s h) (fun w m lo hi a b q r hh => by obtain ⟨k, hk⟩ := hh; exact (RW_hdK CHP_bdK hk).1) (fun w w4 m p3 n3 q3 g4 o4 em h4 gu ou b1 b2 b3 b4 b5 eK => ?_)
    have p4c := h4.2.1.2
    have n4b : n3 ≤ 8000 := by have := h4.2.2.1.2; omega
    show OK _ (bnd (hm_Tr_add N w4 _ _ _ _ _) _)
    rw [show u.1 665 = I ((p : Nat) : Int) by rw [I_F (k := 665), h.2.1.1], lit0, show (10 : Int32) = I 10 from rfl]
    refine add_B h4 (by omega) ⟨by decide, by decide⟩ ⟨by omega, by omega⟩ ⟨by omega, by omega⟩ ⟨by omega, by omega⟩ ⟨by decide, by decide⟩ (fun w6 g6 o6 h6 fa => ok_some.mpr ?_)
    obtain ⟨f1, f2, f3, f4, f5, f6⟩ := fa
    refine ⟨gu.tr g6, n3 + 1, p3 + 1, n3 + 1, q3, rfl, OLDc.tr ou o6 (by omega), h6, by omega, ?_, f6⟩
    show XPcK w6 (4 * (26 - o)) o 0 _ _ _ _ _ _ _
    rw [f_o ho]
    refine ⟨⟨⟨by omega, by omega⟩, by omega, by omega, by omega, by omega⟩, ⟨p, f2, by omega, by omega⟩, ho, Or.inr (Or.inr (Or.inr (Or.inr (Or.inr (Or.inr (Or.inl ⟨f1, ?_⟩))))))⟩
    rw [show p3 + 1 - 1 = p3 by omega]
    exact by obtain ⟨k, em⟩ := em; exact ⟨k, m, n3, f4, RW_kK (HXK ho w w6) CHP_bdK em (KN_old (g4.tr g6) (OLDc.tr o4 o6 (Nat.le_refl _)) (Nat.le_refl _)), by omega, (gu.tr g6).a6.trans e, g6.a6.trans eK, f2⟩
  · refine dl 21 0 _ (fun w m lo hi a b q r => GwK o w m lo hi a b q r ∧ A w 21 m = 0) (fun u12 r11 => bnd (hm_Tr_add N u12 5 (u.1 665) r11 0 0) (fun u14 r14 => some (u14, .inl r14))) (by omega) (by omega) (fun u c p n q s h => hx u c p n q s h) (fun w m lo hi a b q r hh => Gw_bdK w _ _ _ _ _ _ _ hh.1) (fun w w4 m p3 n3 q3 g4 o4 em h4 gu ou b1 b2 b3 b4 b5 eK => ?_)
    have p4c := h4.2.1.2
    have n4b : n3 ≤ 8000 := by have := h4.2.2.1.2; omega
    show OK _ (bnd (hm_Tr_add N w4 _ _ _ _ _) _)
    rw [show u.1 665 = I ((p : Nat) : Int) by rw [I_F (k := 665), h.2.1.1], lit0, show (5 : Int32) = I 5 from rfl]
    refine add_B h4 (by omega) ⟨by decide, by decide⟩ ⟨by omega, by omega⟩ ⟨by omega, by omega⟩ ⟨by omega, by omega⟩ ⟨by decide, by decide⟩ (fun w6 g6 o6 h6 fa => ok_some.mpr ?_)
    obtain ⟨f1, f2, f3, f4, f5, f6⟩ := fa
    refine ⟨gu.tr g6, n3 + 1, p3 + 1, n3 + 1, q3, rfl, OLDc.tr ou o6 (by omega), h6, by omega, ?_, f6⟩
    show XPcK w6 (4 * (26 - o)) o 0 _ _ _ _ _ _ _
    rw [f_o ho]
    refine ⟨⟨⟨by omega, by omega⟩, by omega, by omega, by omega, by omega⟩, ⟨p, f2, by omega, by omega⟩, ho, Or.inr (Or.inl ⟨f1, ?_⟩)⟩
    rw [show p3 + 1 - 1 = p3 by omega]
    exact ⟨m, n3, f3, GXK w w6 _ _ _ _ _ _ _ em.1 (KN_old (g4.tr g6) (OLDc.tr o4 o6 (Nat.le_refl _)) (Nat.le_refl _)), by omega, (gu.tr g6).a6.trans e, g6.a6.trans eK, f2⟩
theorem begU9 {k : Int} (hk : 0 ≤ k ∧ k ≤ 45) : ∃ r, hm_Pa_beginsUnit N u (I k) = some (u, r) ∧ (k = 9 → r = 0) := by
  obtain ⟨r, e⟩ := begU (N := N) (u := u) hk
  refine ⟨r, e, fun h9 => ?_⟩
  subst h9
  have e2 : hm_Pa_beginsUnit N u (I 9) = some (u, 0) := rfl
  rw [e2] at e
  injection e with e
  injection e with e3 e4
  exact e4.symm
/-- without the last of it -/
theorem dropE {x : Option (MS × (Int32 ⊕ Nat))} {Y : MS → Nat → Nat → Prop} {G : MS → Nat → Nat → Nat → Nat → Nat → Nat → Nat → Prop} (h : OK (fun w r => NDQ (fun w m lo hi a b q r => G w m lo hi a b q r ∧ A w 21 m = 0 ∧ Y w m lo) u c p n q o s w r) x) : OK (fun w r => NDQ (fun w m lo hi a b q r => G w m lo hi a b q r ∧ A w 21 m = 0) u c p n q o s w r) x := ok_mono h (fun w r hw => by
  obtain ⟨gw, hw⟩ := hw
  cases r with
  | inr k => exact ⟨gw, hw⟩
  | inl x =>
    obtain ⟨m, p3, n3, q3, e1, ol3, hv3, hp3, e2, e3, e4⟩ := hw
    exact ⟨gw, m, p3, n3, q3, e1, ol3, hv3, hp3, e2, e3⟩)
theorem expression_okcK {S : SF_Pa_matched} {y : Int32} (ho : o ≤ 25)
    (hx : o < 25 → ∀ u c p n q s, PSI u c p n q (o + 1) s → OK (fun w r => NDQ (fun w m lo hi a b q r => GwK (o + 1) w m lo hi a b q r ∧ A w 21 m = 0) u c p n q (o + 1) s w r) (S.2.2.2.2.2.2.2.2.2.2.2.2.2.2.1 u 1))
    (hs : o < 25 → ∀ u c p n q s, PSI u c p n q (o + 1) s → OK (fun w r => NDQ (fun w m lo hi a b q r => UwK 2 (o + 1) w m lo hi a b q r ∧ A w 21 m = 0) u c p n q (o + 1) s w r) (S.2.2.2.2.2.2.2.2.2.2.2.2.2.1 u))
    (hm : o < 25 → ∀ u c p n q s x lo a q0, PSI u c p n q (o + 1) s → UwK 2 (o + 1) u x lo p a n q0 q → A u 21 x = 0 → a ≤ 2 * lo → OK (fun w r => NDQ (fun w m _ hi _ b _ r => UwK 3 (o + 1) w m lo hi a b q0 r ∧ A w 21 m = 0) u c p n q (o + 1) s w r) (S.1 u (I ((x : Nat) : Int))))
    (h : PSI u c p n q o s) : OK (fun w r => NDQ (fun w m lo hi a b q r => GwK o w m lo hi a b q r ∧ A w 21 m = 0 ∧ (y = 0 → A w 6 lo ≠ 9)) u c p n q o s w r) (hm_Pa_expression N S u y) := by
  have hc := h.1.1
  have h2p := h.2.2.1.2
  have fe : 26 - (o + 1) = 25 - o := by omega
  -- the end of it
  have fin : ∀ (w : MS) (m p3 n3 q3 : Nat), KPG u w → OLDc u w n s → PSI w c p3 n3 q3 (o + 1) s → p ≤ p3 → GwK o w m p p3 n n3 q q3 → A w 21 m = 0 → (y = 0 → A w 6 p ≠ 9) → OK (fun w r => NDQ (fun w m lo hi a b q r => GwK o w m lo hi a b q r ∧ A w 21 m = 0 ∧ (y = 0 → A w 6 lo ≠ 9)) u c p n q o s w r) (hb_Pa_expression_84 N S () w (I ((m : Nat) : Int))) := by
    intro w m p3 n3 q3 gw ow hw hp3 em m0 h9
    obtain ⟨e, hw2⟩ := close_e hw
    unfold hb_Pa_expression_84
    refine ok_lt.mpr (ok_some.mpr ?_)
    rw [e]
    exact ⟨gw.tr KPG_op, m, p3, n3, q3, rfl, OLDc.tr ow (OLDc.row rfl) (Nat.le_refl _), hw2, hp3, Gw_stK w _ _ _ _ _ _ _ _ em (KN_old KPG_op (OLDc.row (n := n3) (s := 0) rfl) (Nat.le_refl _)), m0, h9⟩
  have e28 : ∀ t1, A u 6 p ≠ 45 → (y = 0 → t1 ≠ 0 → A u 6 p ≠ 9) → OK (fun w r => NDQ (fun w m lo hi a b q r => GwK o w m lo hi a b q r ∧ A w 21 m = 0 ∧ (y = 0 → A w 6 lo ≠ 9)) u c p n q o s w r) (hb_Pa_expression_28 N S () u (I (A u 6 p)) t1) := fun t1 h45 hy => by
    unfold hb_Pa_expression_28
    refine opens_T h (fun w gw => ⟨gw, rfl⟩) (fun ht1 ho25 h2 => ?_)
    have g1 : KPG u (wi u 666 ((o + 1 : Nat) : Int)) := KPG_op
    have o1 : OLDc u (wi u 666 ((o + 1 : Nat) : Int)) n s := OLDc.row rfl
    have a6 : A (wi u 666 ((o + 1 : Nat) : Int)) 6 p = A u 6 p := rfl
    generalize wi u 666 ((o + 1 : Nat) : Int) = v at h2 g1 o1 a6
    refine k_c (y := 9) rfl (A_r u 6 p) ⟨by decide, by decide⟩ (fun e => ok_lt.mpr ?_) (fun _ => ?_)
    · obtain ⟨hpc, h3⟩ := PSI_at h2 (by rw [a6]; omega)
      rw [inc_e h2, show v.1 665 = I ((p : Nat) : Int) by rw [I_F (k := 665), h2.2.1.1]]
      have g2 : KPG v (wi v 665 ((p + 1 : Nat) : Int)) := KPG_at
      have o2 : OLDc v (wi v 665 ((p + 1 : Nat) : Int)) n s := OLDc.row rfl
      generalize wi v 665 ((p + 1 : Nat) : Int) = v2 at h3 g2 o2
      refine ok_T (ok_mono (hx ho25 v2 c (p + 1) n q s h3) (fun w r hw => ?_))
      obtain ⟨gw, hw⟩ := hw
      cases r with
      | inr k => exact ⟨g1.tr (g2.tr gw), hw⟩
      | inl x =>
        obtain ⟨m, p3, n3, q3, rfl, ol3, hv3, hp3, em, -⟩ := hw
        have hd := Gw_bdK w _ _ _ _ _ _ _ em
        unfold HDc at hd
        have n3b : n3 ≤ 8000 := by have := hv3.2.2.1.2; have := hv3.2.1.2; omega
        have p3c := hv3.2.1.2
        rw [lit0, show (19 : Int32) = I 19 from rfl]
        refine add_B hv3 (by omega) ⟨by decide, by decide⟩ ⟨by omega, by omega⟩ ⟨by omega, by omega⟩ ⟨by decide, by decide⟩ ⟨by decide, by decide⟩ (fun w4 g4 o4 h4 fa => ?_)
        obtain ⟨f1, f2, f3, f4, f5, f6⟩ := fa
        refine fin w4 (n3 + 1) p3 (n3 + 1) q3 (g1.tr (g2.tr (gw.tr g4))) (OLDc.tr (OLDc.tr o1 o2 (Nat.le_refl _)) (OLDc.tr ol3 o4 (by omega)) (Nat.le_refl _)) h4 (by omega) ?_ f6 (fun z => by rw [(g1.tr (g2.tr (gw.tr g4))).a6]; exact hy z ht1)
        show XPcK w4 ((4 * (25 - o) + 2) + 1) (o + 1) 3 _ _ _ _ _ _ _
        exact ⟨⟨⟨by omega, by omega⟩, by omega, by omega, by omega, by omega⟩, ⟨p, f2, by omega, by omega⟩, by omega, Or.inr (Or.inr (Or.inr (Or.inr (Or.inr (Or.inr (Or.inr (Or.inr (Or.inr (Or.inr (Or.inr (Or.inr (Or.inr (Or.inl ⟨f1, Nat.le_refl _, m, n3, f3, XP_kK (by omega) (Nat.le_refl _) _ _ _ _ _ _ _ em (KN_old g4 o4 (Nat.le_refl _)), by omega, (g1.tr (g2.tr (gw.tr g4))).a6.trans e⟩)))))))))))))⟩
    · refine ok_T (ok_mono (hs ho25 v c p n q s h2) (fun w r hw => ?_))
      obtain ⟨gw, hw⟩ := hw
      cases r with
      | inr k => exact ⟨g1.tr gw, hw⟩
      | inl x =>
        obtain ⟨m, p3, n3, q3, rfl, ol3, hv3, hp3, em, m0⟩ := hw
        have hd := (Uw_bdK w _ _ _ _ _ _ _ em).1
        refine ok_T (ok_mono (hm ho25 w c p3 n3 q3 s m p n q hv3 em m0 h2p) (fun w2 r hw2 => ?_))
        obtain ⟨gw2, hw2⟩ := hw2
        cases r with
        | inr k => exact ⟨g1.tr (gw.tr gw2), hw2⟩
        | inl x =>
          obtain ⟨m2, p4, n4, q4, rfl, ol4, hv4, hp4, em2, m20⟩ := hw2
          refine fin w2 m2 p4 n4 q4 (g1.tr (gw.tr gw2)) (OLDc.tr o1 (OLDc.tr ol3 ol4 (by omega)) (Nat.le_refl _)) hv4 (by omega) ?_ m20 (fun z => by rw [(g1.tr (gw.tr gw2)).a6]; exact hy z ht1)
          have em3 : XPcK w2 (4 * (26 - (o + 1)) + 3) (o + 1) 3 m2 p p4 n n4 q q4 := em2
          rw [fe] at em3
          exact em3
  unfold hm_Pa_expression hb_Pa_expression_0 hb_Pa_expression_23 hb_Pa_expression_27
  refine look_T h (fun w gw => ⟨gw, rfl⟩) (fun h45 => ?_)
  obtain ⟨r6, e6, e69⟩ := begU9 (N := N) (u := u) (tk_rng h.1 h.2.1.2)
  rw [e6, bnd_so]
  exact ok_br.mpr ⟨fun _ => ok_br.mpr ⟨fun _ => e28 _ h45 (fun _ z => absurd rfl z), fun zy => ok_br.mpr ⟨fun _ => e28 _ h45 (fun z _ => absurd z (of_decide_eq_false zy)), fun _ => e28 _ h45 (fun _ z => absurd rfl z)⟩⟩, fun zr => e28 _ h45 (fun _ _ z => of_decide_eq_false zr (e69 z))⟩
theorem grpP_okK (hN : 10000 ≤ N) : ∀ d, GRPpK N d := by
  intro d
  induction d with
  | zero =>
    intro o ho
    refine ⟨fun hh => absurd hh (by omega), fun hh => absurd hh (by omega), fun hh => absurd hh (by omega), fun hh => absurd hh (by omega), fun hh => absurd hh (by omega), fun hh => absurd hh (by omega), fun hh => absurd hh (by omega), fun hh => absurd hh (by omega), fun hh => absurd hh (by omega), fun hh => absurd hh (by omega), fun hh => absurd hh (by omega), fun hh => absurd hh (by omega), fun hh => absurd hh (by omega), fun hh => absurd hh (by omega), fun hh => absurd hh (by omega), fun hh => absurd hh (by omega), fun hh => absurd hh (by omega), fun hh => absurd hh (by omega), fun hh => absurd hh (by omega), fun hh => absurd hh (by omega), fun hh => absurd hh (by omega), fun hh => absurd hh (by omega), fun hh => absurd hh (by omega), fun hh => absurd hh (by omega), fun hh => absurd hh (by omega)⟩
  | succ d ih =>
    intro o ho
    obtain ⟨hE, hP, hR0, hR1, hU0, hU1, hT0, hT1, hL0, hL1, hB, hPT, hC, hO, hS0, hS1, hCA, hRE, hF, hAC, hAP, hPR, hUN, hSI, hM⟩ := ih o ho
    have nx : o < 25 → o + 1 ≤ 25 := fun z => z
    have P1 : o < 25 → 26 - (o + 1) = 25 - o := fun _ => by omega
    refine ⟨fun hd y u c p n q s h => ?_, fun hd u c p n q s h => ?_, fun hd most hm u c p n q s h => ?_, fun hd most hm u c p n q s h => ?_, fun hd most K hm hK u c p n q s h => ?_, fun hd most K hm hK u c p n q s h => ?_, fun hd u c p n q s h hk => ?_, fun hd u c p n q s h hk => ?_, fun hd u c p n q s h hk => ?_, fun hd u c p n q s h hk => ?_, fun hd u c p n q s h => ?_, fun hd u c p n q s t k m0 pl ph a h ht hpl em => ?_, fun hd u c p n q s h => ?_, fun hd u c p n q s h => ?_, fun hd u c p n q s h => ?_, fun hd u c p n q s h => ?_, fun hd u c p n q s h hk => ?_, fun hd u c p n q s h hk => ?_, fun hd u c p n q s h hk => ?_, fun hd u c p n q s h hk => ?_, fun hd u c p n q s x lo a q0 h hx x0 ha => ?_, fun hd u c p n q s h => ?_, fun hd u c p n q s h => ?_, fun hd u c p n q s h => ?_, fun hd u c p n q s x lo a q0 h hx x0 ha => ?_⟩
    · exact expression_okcK ho (fun z u c p n q s h => dropE ((ih (o + 1) z).1 (by omega) 1 u c p n q s h)) (fun z => (ih (o + 1) z).2.2.2.2.2.2.2.2.2.2.2.2.2.2.2.2.2.2.2.2.2.2.2.1 (by omega)) (fun z => (ih (o + 1) z).2.2.2.2.2.2.2.2.2.2.2.2.2.2.2.2.2.2.2.2.2.2.2.2 (by omega)) h
    · refine pattern_okcK ho (fun z u c p n q s h => ?_) (fun z u c p n q s h hk => ?_) (fun z u c p n q s h hk => ?_) h hN
      · have e := (ih (o + 1) z).2.1 (by omega) u c p n q s h
        unfold PwK at e
        rw [P1 z] at e
        exact e
      · have e := (ih (o + 1) z).2.2.2.2.2.2.2.1 (by omega) u c p n q s h hk
        have e2 : (PwK (o + 1)) = (fun w => PAcK w (25 - o)) := by funext w; unfold PwK; rw [P1 z]
        rw [e2] at e
        exact e
      · have e := (ih (o + 1) z).2.2.2.2.2.2.2.2.2.1 (by omega) u c p n q s h hk
        have e2 : (PwK (o + 1)) = (fun w => PAcK w (25 - o)) := by funext w; unfold PwK; rw [P1 z]
        rw [e2] at e
        exact e
    · exact row_okcK (Ew := GwK o) Gw_stK Gw_bdK hm (fun _ u c p n q s h => dropE (hE (by omega) 1 u c p n q s h)) (fun z => absurd rfl z) h hN
    · exact row_okcK (y := 1) (Ew := PwK o) Pw_stK Pw_bdK hm (fun z => absurd z (by decide)) (fun _ => hP (by omega)) h hN
    · exact rowUpTo_okcK (Ew := GwK o) Gw_stK Gw_bdK hK (hR0 (by omega) most hm) h
    · exact rowUpTo_okcK (Ew := PwK o) Pw_stK Pw_bdK hK (hR1 (by omega) most hm) h
    · exact tuple_okcK (Ew := GwK o) Gw_stK Gw_bdK (hU0 (by omega) 8 23 (by omega) (by omega)) h hk hN
    · exact tuple_okcK (Ew := PwK o) Pw_stK Pw_bdK (hU1 (by omega) 8 23 (by omega) (by omega)) h hk hN
    · exact list_okcK (Ew := GwK o) Gw_stK Gw_bdK (fun _ u c p n q s h => dropE (hE (by omega) 1 u c p n q s h)) (fun z => absurd rfl z) (hR0 (by omega) 8 (by omega)) h hk hN
    · exact list_okcK (y := 1) (Ew := PwK o) Pw_stK Pw_bdK (fun z => absurd z (by decide)) (fun _ => hP (by omega)) (hR1 (by omega) 8 (by omega)) h hk hN
    · refine body_okcK (fun z u c p n q s h => ?_) h
      have e := (ih (o + 1) z).2.2.1 (by omega) 4000 (by omega) u c p n q s h
      have e2 : GwK (o + 1) = BwK o := by funext w; unfold GwK BwK; rw [show 25 - (o + 1) = 24 - o by omega]
      rw [e2] at e
      exact e
    · exact part_okcK (hR0 (by omega) 4000 (by omega)) (hB (by omega)) h ht hpl em
    · exact choice_okcK (hR0 (by omega) 4000 (by omega)) (hB (by omega)) h
    · exact oneCase_okcK (N := N) (hP (by omega)) (hPT (by omega)) h
    · exact parts_okcK (Ew := fun w => CHPcK w (BwK o w) (GwK o w)) (fun u w => CHP_kK (Bw_stK u w) (Gw_stK u w) (Bw_bdK u) (Gw_bdK u)) (fun u => CHP_bdK) (fun _ => hC (by omega)) (fun z => absurd rfl z) h hN
    · exact parts_okcK (y := 1) (Ew := fun w => CSPcK w (PwK o w) (BwK o w) (GwK o w)) (fun u w => CSP_kK (Pw_stK u w) (Bw_stK u w) (Gw_stK u w) (Pw_bdK u) (Bw_bdK u) (Gw_bdK u)) (fun u => CSP_bdK) (fun z => absurd z (by decide)) (fun _ => hO (by omega)) h hN
    · exact caseOf_okcK ho (fun u c p n q s h => dropE (hE (by omega) 1 u c p n q s h)) (hS1 (by omega)) h hk
    · exact receive_okcK ho (fun u c p n q s h => dropE (hE (by omega) 1 u c p n q s h)) (hS1 (by omega)) (hB (by omega)) h hk
    · exact fun_okcK ho (hU1 (by omega) 6 21 (by omega) (by omega)) (hPT (by omega)) h hk
    · exact atomOrCall_okcK ho (hU0 (by omega) 6 21 (by omega) (by omega)) h hk hN
    · exact applied_okcK ho (hU0 (by omega) 6 21 (by omega) (by omega)) h hx x0 ha hN
    · exact primary_okcK ho (fun u c p n q s h => dropE (hE (by omega) 1 u c p n q s h)) (hB (by omega)) (hS0 (by omega)) (hCA (by omega)) (hRE (by omega)) (hF (by omega)) (hAC (by omega)) (hT0 (by omega)) (hL0 (by omega)) h
    · exact unit_okcK ho (fun z => (ih (o + 1) z).2.2.2.2.2.2.2.2.2.2.2.2.2.2.2.2.2.2.2.2.2.2.1 (by omega)) (hPR (by omega)) (hAP (by omega)) h
    · exact signed_okcK ho (hUN (by omega)) h hN
    · exact matched_okcK ho (hE (by omega)) h hx x0 ha hN
end
