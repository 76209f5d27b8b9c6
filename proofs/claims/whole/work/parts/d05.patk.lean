/-! the reader of a text: patterns -/
set_option maxRecDepth 100000
section
variable {u v w : MS} {N c p n q o s p2 n2 q2 m a b l lo hi r d most f z : Nat}
/-- a TUPLE's or LIST's node -/
def TUQK (Ew : MS → Nat → Nat → Nat → Nat → Nat → Nat → Nat → Prop) (w : MS) (m lo hi a b q r : Nat) : Prop := HDc m lo hi a b q r ∧ TKc w m lo hi ∧ A w 21 m = 0 ∧ A w 16 m = 6 ∧ TUcK w (Ew w) m lo hi a q r ∧ A w 17 m = ((lo : Nat) : Int)
def LIQK (Ew : MS → Nat → Nat → Nat → Nat → Nat → Nat → Nat → Prop) (w : MS) (m lo hi a b q r : Nat) : Prop := HDc m lo hi a b q r ∧ TKc w m lo hi ∧ A w 21 m = 0 ∧ A w 16 m = 7 ∧ TLcK w (Ew w) m lo hi a q r ∧ A w 17 m = ((lo : Nat) : Int)
theorem tuple_okcK {S : SF_Pa_matched} {y : Int32} {Ew : MS → Nat → Nat → Nat → Nat → Nat → Nat → Nat → Prop} (hst : ∀ u w, StE u w (Ew u) (Ew w)) (hbd : ∀ u, BdE (Ew u))
    (hr : ∀ u c p n q s, PSI u c p n q o s → OK (fun w r => NDQ (fun w m lo hi a b q r => (lo + 1 ≤ hi ∧ A w 6 (hi - 1) = 23) ∧ ∃ k, k ≤ 8 ∧ ORcK w 1 26 (Ew w) k m lo (hi - 1) a b q r) u c p n q o s w r) (S.2.2.2.2.2.2.2.2.2.2.2.2.2.2.2.2.2.2.2 u y (I ((8 : Nat) : Int)) (I 23)))
    (h : PSI u c p n q o s) (hk : A u 6 p = 22) (hN : 10000 ≤ N) : OK (fun w r => NDQ (TUQK Ew) u c p n q o s w r) (hm_Pa_tuple N S u y) := by
  have hc := h.1.1
  have h2p := h.2.2.1.2
  unfold hm_Pa_tuple hb_Pa_tuple_0
  obtain ⟨hpc, h2⟩ := PSI_at h (by omega)
  refine ok_lt.mpr ?_
  rw [inc_e h, show u.1 665 = I ((p : Nat) : Int) by rw [I_F (k := 665), h.2.1.1]]
  have g1 : KPG u (wi u 665 ((p + 1 : Nat) : Int)) := KPG_at
  have o1 : OLDc u (wi u 665 ((p + 1 : Nat) : Int)) n s := OLDc.row rfl
  generalize wi u 665 ((p + 1 : Nat) : Int) = v at h2 g1 o1
  refine ok_T (ok_mono (hr v c (p + 1) n q s h2) (fun w r hw => ?_))
  obtain ⟨gw, hw⟩ := hw
  cases r with
  | inr k => exact ⟨g1.tr gw, hw⟩
  | inl x =>
    obtain ⟨m, p3, n3, q3, rfl, ol3, hv3, hp3, hlo, k, hk8, em⟩ := hw
    have oh := OR_hdK (hbd w) em
    have n3b : n3 ≤ 8000 := by have := hv3.2.2.1.2; have := hv3.2.1.2; omega
    have p3c := hv3.2.1.2
    show OK _ (bnd (hm_Tr_length N w (I ((m : Nat) : Int))) _)
    have mb : m ≤ 8015 := by
      rcases em with ⟨-, h, -⟩ | ⟨-, h⟩
      · omega
      · have := (RW_hdK (hbd w) h).1.1; omega
    rw [len_okK (hbd w) hN (by omega) em, bnd_so, lit0, show (6 : Int32) = I 6 from rfl]
    refine add_B hv3 (by omega) ⟨by decide, by decide⟩ ⟨by omega, by omega⟩ ⟨by omega, by omega⟩ ⟨by omega, by omega⟩ ⟨by decide, by decide⟩ (fun w2 g2 o2 h4 fa => ok_some.mpr ?_)
    obtain ⟨f1, f2, f3, f4, f5, f6⟩ := fa
    refine ⟨g1.tr (gw.tr g2), n3 + 1, p3, n3 + 1, q3, rfl, OLDc.tr (OLDc.tr o1 ol3 (Nat.le_refl _)) o2 (by omega), h4, by omega, ⟨⟨by omega, by omega⟩, by omega, by omega, by omega, by omega⟩, ⟨p, f2, Nat.le_refl _, by omega⟩, f6, f1, ⟨k, m, n3, f3, f4, ⟨hk8, (g1.tr (gw.tr g2)).a6.trans hk, g2.a6.trans hlo.2⟩, OR_kK (hst w w2) (hbd w) em (KN_old g2 o2 (Nat.le_refl _)), by omega⟩, f2⟩
theorem list_okcK {S : SF_Pa_matched} {y : Int32} {Ew : MS → Nat → Nat → Nat → Nat → Nat → Nat → Nat → Prop} (hst : ∀ u w, StE u w (Ew u) (Ew w)) (hbd : ∀ u, BdE (Ew u))
    (he : y = 0 → ∀ u c p n q s, PSI u c p n q o s → OK (fun w r => NDQ (fun w m lo hi a b q r => Ew w m lo hi a b q r ∧ A w 21 m = 0) u c p n q o s w r) (S.2.2.2.2.2.2.2.2.2.2.2.2.2.2.1 u 1))
    (hp : y ≠ 0 → ∀ u c p n q s, PSI u c p n q o s → OK (fun w r => NDQ (fun w m lo hi a b q r => Ew w m lo hi a b q r ∧ A w 21 m = 0) u c p n q o s w r) (S.2.2.2.2.2.2.2.2.2.2.2.2.2.2.2.2.2.1 u))
    (hr : ∀ u c p n q s, PSI u c p n q o s → OK (fun w r => NDQ (fun w m lo hi a b q r => ∃ k, (1 ≤ k ∧ k ≤ 8) ∧ RWcK w 1 26 (Ew w) k m lo hi a b q r) u c p n q o s w r) (S.2.2.2.2.2.2.2.2.2.2.2.2.2.2.2.2.2.2.1 u y (I ((8 : Nat) : Int))))
    (h : PSI u c p n q o s) (hk : A u 6 p = 24) (hN : 10000 ≤ N) : OK (fun w r => NDQ (LIQK Ew) u c p n q o s w r) (hm_Pa_list N S u y) := by
  have hc := h.1.1
  have h2p := h.2.2.1.2
  unfold hm_Pa_list hb_Pa_list_0
  obtain ⟨hpc, h2⟩ := PSI_at h (by omega)
  refine ok_lt.mpr ?_
  rw [inc_e h, show u.1 665 = I ((p : Nat) : Int) by rw [I_F (k := 665), h.2.1.1]]
  have g1 : KPG u (wi u 665 ((p + 1 : Nat) : Int)) := KPG_at
  have o1 : OLDc u (wi u 665 ((p + 1 : Nat) : Int)) n s := OLDc.row rfl
  generalize wi u 665 ((p + 1 : Nat) : Int) = v at h2 g1 o1
  -- the end of it: what stands behind the bar is x
  have e80 : ∀ (w : MS) (m x k mid c1 s1 p3 n3 q3 : Nat), KPG u w → OLDc u w n s → PSI w c p3 n3 q3 o s → p + 1 ≤ p3 → k ≤ 8 → ORcK w 1 26 (Ew w) k m (p + 1) mid n c1 q s1 → ((x = 0 ∧ p3 = mid ∧ s1 = q3 ∧ c1 = n3) ∨ ((1 ≤ k ∧ A w 6 mid = 29) ∧ 1 ≤ x ∧ Ew w x (mid + 1) p3 c1 n3 s1 q3)) → OK (fun w r => NDQ (LIQK Ew) u c p n q o s w r) (hb_Pa_list_80 N S () w (I ((p : Nat) : Int)) (I ((m : Nat) : Int)) (I ((x : Nat) : Int))) := by
    intro w m x k mid c1 s1 p3 n3 q3 gw ow hw hp3 hk8 em hx
    unfold hb_Pa_list_80
    rw [show (25 : Int32) = I 25 from rfl]
    refine need_T hw (by omega) (fun w2 gw2 => ⟨gw.tr gw2, rfl⟩) (fun e25 h3 => ?_)
    have oh := OR_hdK (hbd w) em
    have n3b : n3 ≤ 8000 := by have := hw.2.2.1.2; have := hw.2.1.2; omega
    have p3c := h3.2.1.2
    have xb : x ≤ n3 ∧ c1 ≤ n3 ∧ mid ≤ p3 ∧ n3 + 2 * mid ≤ c1 + 2 * p3 ∧ s1 ≤ q3 ∧ 5 * q3 + mid ≤ 5 * s1 + p3 := by
      rcases hx with ⟨h1, h2, h3, h4⟩ | ⟨h1, h2, h3⟩
      · omega
      · have := hbd w _ _ _ _ _ _ _ h3
        unfold HDc at this
        omega
    have mb : m ≤ 8015 := by
      rcases em with ⟨-, h, -⟩ | ⟨-, h⟩
      · omega
      · have := (RW_hdK (hbd w) h).1.1; omega
    have g2 : KPG w (wi w 665 ((p3 + 1 : Nat) : Int)) := KPG_at
    have o2 : OLDc w (wi w 665 ((p3 + 1 : Nat) : Int)) n3 s := OLDc.row rfl
    generalize wi w 665 ((p3 + 1 : Nat) : Int) = w2 at h3 g2 o2
    have em2 := OR_kK (hst w w2) (hbd w) em (KN_old g2 o2 (by omega))
    rw [len_okK (hbd w2) hN (by omega) em2, bnd_so, show (7 : Int32) = I 7 from rfl]
    refine add_B h3 (by have := hw.2.2.1.2; omega) ⟨by decide, by decide⟩ ⟨by omega, by omega⟩ ⟨by omega, by omega⟩ ⟨by omega, by omega⟩ ⟨by omega, by omega⟩ (fun w4 g4 o4 h4 fa => ok_some.mpr ?_)
    obtain ⟨f1, f2, f3, f4, f5, f6⟩ := fa
    have kn : ∀ {a b l}, b ≤ n3 → KNc w w4 a b l := fun hb => KN_old (g2.tr g4) (OLDc.tr o2 o4 (Nat.le_refl _)) hb
    have hh : 1 ≤ k → mid < p3 + 1 := fun _ => by omega
    have hd : HDc (n3 + 1) p (p3 + 1) n (n3 + 1) q q3 := ⟨⟨by omega, by omega⟩, by omega, by omega, by omega, by omega⟩
    refine ⟨gw.tr (g2.tr g4), n3 + 1, p3 + 1, n3 + 1, q3, rfl, OLDc.tr ow (OLDc.tr o2 o4 (Nat.le_refl _)) (by omega), h4, by omega, hd, ⟨p, f2, Nat.le_refl _, by omega⟩, f6, f1, ⟨k, m, mid, c1, s1, f3, f4, ⟨hk8, (gw.tr (g2.tr g4)).a6.trans hk, by rw [show p3 + 1 - 1 = p3 by omega]; exact (g2.tr g4).a6.trans e25⟩, OR_kK (hst w w4) (hbd w) em (kn (by omega)), ?_⟩, f2⟩
    rcases hx with ⟨h1, h2, h3, h4⟩ | ⟨h1, h2, h3⟩
    · exact Or.inl ⟨by rw [f5, h1]; rfl, by omega, h3, by omega⟩
    · exact Or.inr ⟨⟨h1.1, (g2.tr g4).a6.trans h1.2⟩, x, n3, f5, by rw [show p3 + 1 - 1 = p3 by omega]; exact hst w w4 _ _ _ _ _ _ _ h3 (kn (Nat.le_refl _)), by omega⟩
  refine look_T h2 (fun w gw => ⟨g1.tr gw, rfl⟩) (fun h45 => ?_)
  rw [show (25 : Int32) = I 25 from rfl]
  refine k_eq (A_r v 6 (p + 1)) ⟨by decide, by decide⟩ (fun e => ?_) (fun _ => ?_)
  · unfold hb_Pa_list_35
    rw [show decide ((0 : Int32) = 0) = true from by decide, br_t]
    exact e80 v 0 0 0 (p + 1) n q (p + 1) n q g1 o1 h2 (Nat.le_refl _) (by omega) (Or.inl ⟨rfl, rfl, rfl, rfl, rfl⟩) (Or.inl ⟨rfl, rfl, rfl, rfl⟩)
  · refine ok_T (ok_mono (hr v c (p + 1) n q s h2) (fun w r hw => ?_))
    obtain ⟨gw, hw⟩ := hw
    cases r with
    | inr k => exact ⟨g1.tr gw, hw⟩
    | inl x =>
      obtain ⟨m, p3, n3, q3, rfl, ol3, hv3, hp3, k, hk8, em⟩ := hw
      have rh := RW_hdK (hbd w) em
      have rh1 := rh.1.1
      have n3b : n3 ≤ 8000 := by have := hv3.2.2.1.2; have := hv3.2.1.2; omega
      show OK _ (hb_Pa_list_35 N S () w y (I ((p : Nat) : Int)) (I ((m : Nat) : Int)))
      unfold hb_Pa_list_35 hb_Pa_list_78
      rw [decide_eq_false (show ¬ I ((m : Nat) : Int) = (0 : Int32) from fun y => by have := (I_eq (x := ((m : Nat) : Int)) (y := 0) (by omega) (by omega) (by decide) (by decide)).mp y; omega), br_f]
      have no : OK (fun w r => NDQ (LIQK Ew) u c p n q o s w r) (hb_Pa_list_80 N S () w (I ((p : Nat) : Int)) (I ((m : Nat) : Int)) (0 : Int32)) := e80 w m 0 k p3 n3 q3 p3 n3 q3 (g1.tr gw) (OLDc.tr o1 ol3 (Nat.le_refl _)) hv3 hp3 hk8.2 (Or.inr ⟨hk8.1, em⟩) (Or.inl ⟨rfl, rfl, rfl, rfl⟩)
      refine look_T hv3 (fun w2 gw2 => ⟨g1.tr (gw.tr gw2), rfl⟩) (fun h45 => ?_)
      rw [show (29 : Int32) = I 29 from rfl]
      refine k_eq (A_r w 6 p3) ⟨by decide, by decide⟩ (fun e29 => ok_lt.mpr ?_) (fun _ => no)
      obtain ⟨hlt2, h4⟩ := PSI_at hv3 ⟨by omega, by omega⟩
      rw [inc_e hv3]
      have g2 : KPG w (wi w 665 ((p3 + 1 : Nat) : Int)) := KPG_at
      have o2 : OLDc w (wi w 665 ((p3 + 1 : Nat) : Int)) n3 s := OLDc.row rfl
      generalize wi w 665 ((p3 + 1 : Nat) : Int) = w2 at h4 g2 o2
      have step : ∀ (x : Option (MS × (Int32 ⊕ Nat))), OK (fun w r => NDQ (fun w m lo hi a b q r => Ew w m lo hi a b q r ∧ A w 21 m = 0) w2 c (p3 + 1) n3 q3 o s w r) x → OK (fun w r => NDQ (LIQK Ew) u c p n q o s w r) (bTm x (fun u11 r11 => hb_Pa_list_80 N S () u11 (I ((p : Nat) : Int)) (I ((m : Nat) : Int)) r11)) := fun x hx => ok_T (ok_mono hx (fun w5 r5 hw5 => by
        obtain ⟨gw5, hw5⟩ := hw5
        cases r5 with
        | inr k => exact ⟨g1.tr (gw.tr (g2.tr gw5)), hw5⟩
        | inl x =>
          obtain ⟨m5, p5, n5, q5, rfl, ol5, hv5, hp5, em5, -⟩ := hw5
          have hd5 := hbd w5 _ _ _ _ _ _ _ em5
          have := hd5.1
          exact e80 w5 m m5 k p3 n3 q3 p5 n5 q5 (g1.tr (gw.tr (g2.tr gw5))) (OLDc.tr (OLDc.tr o1 ol3 (Nat.le_refl _)) (OLDc.tr o2 ol5 (Nat.le_refl _)) (by omega)) hv5 (by omega) hk8.2 (Or.inr ⟨hk8.1, RW_kK (hst w w5) (hbd w) em (KN_old (g2.tr gw5) (OLDc.tr o2 ol5 (Nat.le_refl _)) (Nat.le_refl _))⟩) (Or.inr ⟨⟨hk8.1, (g2.tr gw5).a6.trans e29⟩, by omega, em5⟩)))
      exact ok_br.mpr ⟨fun z => step _ (he (of_decide_eq_true z) w2 c (p3 + 1) n3 q3 s h4), fun z => step _ (hp (of_decide_eq_false z) w2 c (p3 + 1) n3 q3 s h4)⟩
theorem PAqK (h : PAcK u f m lo hi a b q r) : q = r := by
  cases f with
  | zero => exact h.elim
  | succ f => exact h.2.2.1
theorem RWqK {E : Nat → Nat → Nat → Nat → Nat → Nat → Nat → Prop} (he : ∀ n lo hi a b q r, E n lo hi a b q r → q = r) : ∀ {k n lo hi a b q r : Nat}, RWcK u d z E k n lo hi a b q r → q = r
  | 0, _, _, _, _, _, _, _, h => h.elim
  | k + 1, n, lo, hi, a, b, q, r, h => by
    obtain ⟨m, c, s, e, h | ⟨h1, n2, h2, h3⟩⟩ := h
    · have := he _ _ _ _ _ _ _ e; omega
    · have := he _ _ _ _ _ _ _ e; have := RWqK he h3; omega
theorem ORqK {k : Nat} {E : Nat → Nat → Nat → Nat → Nat → Nat → Nat → Prop} (he : ∀ n lo hi a b q r, E n lo hi a b q r → q = r) (h : ORcK u d z E k n lo hi a b q r) : q = r := by
  rcases h with h | ⟨-, h⟩
  · omega
  · exact RWqK he h
theorem TUqK (h : TUcK u (PAcK u f) m lo hi a q r) : q = r := by
  obtain ⟨k, m, c, h1, h2, h3, h4, h5⟩ := h
  exact ORqK (fun _ _ _ _ _ _ _ h => PAqK h) h4
theorem TLqK (h : TLcK u (PAcK u f) m lo hi a q r) : q = r := by
  obtain ⟨k, m, mid, c, s, h1, h2, h3, h4, h5⟩ := h
  have e := ORqK (fun _ _ _ _ _ _ _ h => PAqK h) h4
  rcases h5 with ⟨-, -, h5, -⟩ | ⟨-, x, c2, -, h5, -⟩
  · omega
  · have := PAqK h5; omega
/-- a pattern -/
theorem pattern_okcK {S : SF_Pa_matched} (ho : o ≤ 25)
    (hp : o < 25 → ∀ u c p n q s, PSI u c p n q (o + 1) s → OK (fun w r => NDQ (fun w m lo hi a b q r => PAcK w (25 - o) m lo hi a b q r ∧ A w 21 m = 0) u c p n q (o + 1) s w r) (S.2.2.2.2.2.2.2.2.2.2.2.2.2.2.2.2.2.1 u))
    (ht : o < 25 → ∀ u c p n q s, PSI u c p n q (o + 1) s → A u 6 p = 22 → OK (fun w r => NDQ (TUQK (fun w => PAcK w (25 - o))) u c p n q (o + 1) s w r) (S.2.2.2.2.2.2.2.2.2.2.2.2.2.2.2.2.1 u 1))
    (hl : o < 25 → ∀ u c p n q s, PSI u c p n q (o + 1) s → A u 6 p = 24 → OK (fun w r => NDQ (LIQK (fun w => PAcK w (25 - o))) u c p n q (o + 1) s w r) (S.2.2.2.2.2.2.2.2.2.2.2.2.2.2.2.1 u 1))
    (h : PSI u c p n q o s) (hN : 10000 ≤ N) : OK (fun w r => NDQ (fun w m lo hi a b q r => PAcK w (26 - o) m lo hi a b q r ∧ A w 21 m = 0) u c p n q o s w r) (hm_Pa_pattern N S u) := by
  have hc := h.1.1
  have h2p := h.2.2.1.2
  have tr := tk_rng h.1 h.2.1.2
  unfold hm_Pa_pattern hb_Pa_pattern_0
  refine look_T h (fun w gw => ⟨gw, rfl⟩) (fun h45 => ?_)
  obtain ⟨r9, e9, hr9⟩ := begP (N := N) (u := u) tr
  rw [e9, bnd_so]
  refine opens_T h (fun w gw => ⟨gw, rfl⟩) (fun hx ho25 h2 => ?_)
  have hkind := hr9 hx
  have g1 : KPG u (wi u 666 ((o + 1 : Nat) : Int)) := KPG_op
  have o1 : OLDc u (wi u 666 ((o + 1 : Nat) : Int)) n s := OLDc.row rfl
  have a6 : A (wi u 666 ((o + 1 : Nat) : Int)) 6 p = A u 6 p := rfl
  rw [show u.1 665 = I ((p : Nat) : Int) by rw [I_F (k := 665), h.2.1.1]]
  generalize wi u 666 ((o + 1 : Nat) : Int) = v at h2 g1 o1 a6
  have fe : 26 - o = (25 - o) + 1 := by omega
  -- the end of it
  have fin : ∀ (w : MS) (m p3 n3 q3 : Nat), KPG u w → OLDc u w n s → PSI w c p3 n3 q3 (o + 1) s → p ≤ p3 → PAcK w (26 - o) m p p3 n n3 q q3 → A w 21 m = 0 → OK (fun w r => NDQ (fun w m lo hi a b q r => PAcK w (26 - o) m lo hi a b q r ∧ A w 21 m = 0) u c p n q o s w r) (hb_Pa_pattern_162 N S () w (I ((m : Nat) : Int))) := by
    intro w m p3 n3 q3 gw ow hw hp3 em m0
    obtain ⟨e, hw2⟩ := close_e hw
    unfold hb_Pa_pattern_162
    refine ok_lt.mpr (ok_some.mpr ?_)
    rw [e]
    exact ⟨gw.tr KPG_op, m, p3, n3, q3, rfl, OLDc.tr ow (OLDc.row rfl) (Nat.le_refl _), hw2, hp3, PA_kK (Nat.le_refl _) _ _ _ _ _ _ _ em (KN_old KPG_op (OLDc.row (n := n3) (s := 0) rfl) (Nat.le_refl _)), m0⟩
  rw [show (20 : Int32) = I 20 from rfl, show (22 : Int32) = I 22 from rfl, show (24 : Int32) = I 24 from rfl, show (34 : Int32) = I 34 from rfl]
  refine k_eq (A_r u 6 p) ⟨by decide, by decide⟩ (fun e => ok_lt.mpr ?_) (fun n20 => k_eq (A_r u 6 p) ⟨by decide, by decide⟩ (fun e => ?_) (fun n22 => k_eq (A_r u 6 p) ⟨by decide, by decide⟩ (fun e => ?_) (fun n24 => k_eq (A_r u 6 p) ⟨by decide, by decide⟩ (fun e => ok_lt.mpr ?_) (fun n34 => ?_))))
  · obtain ⟨hlt2, h3⟩ := PSI_at h2 (by rw [a6]; omega)
    rw [inc_e h2]
    have g2 : KPG v (wi v 665 ((p + 1 : Nat) : Int)) := KPG_at
    have o2 : OLDc v (wi v 665 ((p + 1 : Nat) : Int)) n s := OLDc.row rfl
    generalize wi v 665 ((p + 1 : Nat) : Int) = v2 at h3 g2 o2
    refine ok_T (ok_mono (hp ho25 v2 c (p + 1) n q s h3) (fun w r hw => ?_))
    obtain ⟨gw, hw⟩ := hw
    cases r with
    | inr k => exact ⟨g1.tr (g2.tr gw), hw⟩
    | inl x =>
      obtain ⟨m, p3, n3, q3, rfl, ol3, hv3, hp3, em, -⟩ := hw
      have hd := PA_bdK _ _ _ _ _ _ _ _ em
      unfold HDc at hd
      have n3b : n3 ≤ 8000 := by have := hv3.2.2.1.2; have := hv3.2.1.2; omega
      have p3c := hv3.2.1.2
      rw [lit0, show (5 : Int32) = I 5 from rfl]
      refine add_B hv3 (by omega) ⟨by decide, by decide⟩ ⟨by omega, by omega⟩ ⟨by omega, by omega⟩ ⟨by decide, by decide⟩ ⟨by decide, by decide⟩ (fun w4 g4 o4 h4 fa => ?_)
      obtain ⟨f1, f2, f3, f4, f5, f6⟩ := fa
      rw [show (21 : Int32) = I 21 from rfl]
      refine need_T h4 (by omega) (fun w2 gw2 => ⟨g1.tr (g2.tr (gw.tr (g4.tr gw2))), rfl⟩) (fun e21 h5 => ?_)
      have g5 : KPG w4 (wi w4 665 ((p3 + 1 : Nat) : Int)) := KPG_at
      have o5 : OLDc w4 (wi w4 665 ((p3 + 1 : Nat) : Int)) (n3 + 1) s := OLDc.row rfl
      have p5c := h5.2.1.2
      refine fin _ (n3 + 1) (p3 + 1) (n3 + 1) q3 (g1.tr (g2.tr (gw.tr (g4.tr g5)))) (OLDc.tr (OLDc.tr (OLDc.tr o1 o2 (Nat.le_refl _)) ol3 (Nat.le_refl _)) (OLDc.tr o4 o5 (by omega)) (by omega)) h5 (by omega) ?_ f6
      rw [fe]
      refine ⟨⟨⟨by omega, by omega⟩, by omega, by omega, by omega, by omega⟩, ⟨p, f2, Nat.le_refl _, by omega⟩, ?_, Or.inr (Or.inr (Or.inl ⟨f1, m, n3, f3, ?_, by omega, (g1.tr (g2.tr (gw.tr (g4.tr g5)))).a6.trans e, by rw [show p3 + 1 - 1 = p3 by omega]; exact g5.a6.trans e21⟩))⟩
      · have := PAqK em; exact this
      · rw [show p3 + 1 - 1 = p3 by omega]
        exact PA_kK (Nat.le_refl _) _ _ _ _ _ _ _ em (KN_old (g4.tr g5) (OLDc.tr o4 o5 (by omega)) (Nat.le_refl _))
  · refine ok_T (ok_mono (ht ho25 v c p n q s h2 (by rw [a6]; omega)) (fun w r hw => ?_))
    obtain ⟨gw, hw⟩ := hw
    cases r with
    | inr k => exact ⟨g1.tr gw, hw⟩
    | inl x =>
      obtain ⟨m, p3, n3, q3, rfl, ol3, hv3, hp3, t1, t2, t3, t4, t5, -⟩ := hw
      refine fin w m p3 n3 q3 (g1.tr gw) (OLDc.tr o1 ol3 (Nat.le_refl _)) hv3 hp3 ?_ t3
      rw [fe]
      exact ⟨t1, t2, TUqK t5, Or.inr (Or.inr (Or.inr (Or.inl ⟨t4, t5⟩)))⟩
  · refine ok_T (ok_mono (hl ho25 v c p n q s h2 (by rw [a6]; omega)) (fun w r hw => ?_))
    obtain ⟨gw, hw⟩ := hw
    cases r with
    | inr k => exact ⟨g1.tr gw, hw⟩
    | inl x =>
      obtain ⟨m, p3, n3, q3, rfl, ol3, hv3, hp3, t1, t2, t3, t4, t5, -⟩ := hw
      refine fin w m p3 n3 q3 (g1.tr gw) (OLDc.tr o1 ol3 (Nat.le_refl _)) hv3 hp3 ?_ t3
      rw [fe]
      exact ⟨t1, t2, TLqK t5, Or.inr (Or.inr (Or.inr (Or.inr ⟨t4, t5⟩)))⟩
  · obtain ⟨hlt2, h3⟩ := PSI_at h2 (by rw [a6]; omega)
    rw [inc_e h2]
    have g2 : KPG v (wi v 665 ((p + 1 : Nat) : Int)) := KPG_at
    have o2 : OLDc v (wi v 665 ((p + 1 : Nat) : Int)) n s := OLDc.row rfl
    generalize wi v 665 ((p + 1 : Nat) : Int) = v2 at h3 g2 o2
    refine look_T h3 (fun w gw => ⟨g1.tr (g2.tr gw), rfl⟩) (fun _ => ?_)
    rw [show (1 : Int32) = I 1 from rfl]
    refine k_eq (A_r v2 6 (p + 1)) ⟨by decide, by decide⟩ (fun e1 => ?_) (fun _ => refuse_T h3 (fun w gw => ⟨g1.tr (g2.tr gw), rfl⟩))
    unfold hb_Pa_pattern_137
    refine leaf_B h3 (by omega) (fun w gw ow hw lf m0 a61 => ?_)
    have p3c := hw.2.1.2
    have n3b := hw.2.2.1.2
    rw [lit0, show (17 : Int32) = I 17 from rfl]
    refine add_B hw (by have := h.2.2.1.2; omega) ⟨by decide, by decide⟩ ⟨by omega, by omega⟩ ⟨by omega, by omega⟩ ⟨by decide, by decide⟩ ⟨by decide, by decide⟩ (fun w4 g4 o4 h4 fa => ?_)
    obtain ⟨f1, f2, f3, f4, f5, f6⟩ := fa
    have kn : KNc w w4 n (n + 1) 0 := KN_old g4 o4 (Nat.le_refl _)
    refine fin w4 (n + 1 + 1) (p + 1 + 1) (n + 1 + 1) q (g1.tr (g2.tr (gw.tr g4))) (OLDc.tr (OLDc.tr (OLDc.tr o1 o2 (Nat.le_refl _)) ow (Nat.le_refl _)) o4 (by omega)) h4 (by omega) ?_ f6
    rw [fe]
    exact ⟨⟨⟨by omega, by omega⟩, by omega, by omega, by omega, by omega⟩, ⟨p, f2, Nat.le_refl _, by omega⟩, rfl, Or.inr (Or.inl ⟨f1, n + 1, f3, ⟨by omega, by omega, by omega⟩, LF_k lf kn ⟨by omega, by omega⟩, by rw [g4.a6, a61]; exact e1, by omega, (g1.tr (g2.tr (gw.tr g4))).a6.trans e⟩)⟩
  · refine leaf_B h2 (by rw [a6]; omega) (fun w gw ow hw lf m0 a61 => ?_)
    have p3c := hw.2.1.2
    refine fin w (n + 1) (p + 1) (n + 1) q (g1.tr gw) (OLDc.tr o1 ow (Nat.le_refl _)) hw (by omega) ?_ m0
    rw [fe]
    exact ⟨⟨⟨by omega, by omega⟩, by omega, by omega, by omega, by omega⟩, ⟨p, lf.2.2.1, Nat.le_refl _, by omega⟩, rfl, Or.inl ⟨lf, rfl⟩⟩
end
