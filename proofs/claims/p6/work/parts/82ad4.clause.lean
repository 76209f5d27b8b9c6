theorem SEQR_last {v w : MS} {SN q q2 m m2 lo mm X Y sh r : Nat} {a b : Nat → Nat} (s : SEQ w SN 0 a b q q2 m m2 lo mm X Y sh (fun i => i = r)) (ls : LSQ w (fun i => i = r) v) (h29 : A w 29 r = -1) : SEQR true v SN 0 a b q q2 m m2 lo mm X Y sh (fun i => i = r) := by
  refine ⟨s.1, fun Z h rk hz z1 z2 z3 z4 z5 z6 z7 z8 z9 => ?_⟩
  obtain ⟨T, C, t1, t2, t3, t4, t5, t6, t7⟩ := s.2 Z h rk z1 z2 z3 z4 z5 z6 z7 z8 z9
  have fr := ls.1
  have z0 : Z 3 = 0 := hz rfl
  have rr := s.1.2.2.2.2.2.2.2.2 r rfl
  have nr : ∀ r, r ≠ 30 → r ∉ [30] := fun r hr => by simpa using hr
  have e : ∀ r i, r ≠ 30 → A v r i = A w r i := fun r i hr => fr.A (nr r hr)
  have kk : ∀ n, kq v T n = kq w T n := fun n => by unfold kq; rw [e 23 n (by decide)]
  have ch : ∀ n, A v 30 n ≠ A w 30 n → a 0 ≤ n ∧ n < b 0 ∧ kq w T n = 0 := by
    refine ls.2.2 (fun n => a 0 ≤ n ∧ n < b 0 ∧ kq w T n = 0) (fun n hn => ?_) (fun n x hn hx => ?_) (fun n x hn hx => ?_)
    · rw [hn]; exact ⟨rr.1, rr.2, (t6 r rfl).trans z0⟩
    · have y := (t7.1 n hn.1 hn.2.1).2.2.2.2.2.2.2.1
      rcases y with y | ⟨x2, y1, y2, y3, y4⟩
      · omega
      · obtain rfl : x = x2 := by omega
        exact ⟨y2, y3, y4.trans hn.2.2⟩
    · have y := (t7.1 n hn.1 hn.2.1).2.2.2.2.2.2.2.2
      rcases y with y | y | ⟨x2, y1, y2, y3, y4⟩
      · rw [y, h29] at hx; omega
      · omega
      · obtain rfl : x = x2 := by omega
        exact ⟨y2, y3, y4.trans hn.2.2⟩
  have m1 : ∀ r, r ∈ [23, 24, 25, 26, 27, 31] → r ≠ 30 := by decide
  have m2 : ∀ r, r ∈ [40, 41, 42, 43, 45] → r ≠ 30 := by decide
  have m3 : ∀ r, r ∈ [33, 35, 36, 37, 38] → r ≠ 30 := by decide
  have m4 : ∀ r, r ∈ [53, 54, 55] → r ≠ 30 := by decide
  refine ⟨T, C, t1, t2, t3, t4, t5, fun n hn => (kk n).trans (t6 n hn), FRG_st t7 ⟨fr.F (by intro z; cases z), fun r i hr _ _ => e r i (m1 r hr), fun r i hr _ _ => e r i (m2 r hr), fun r i hr _ => e r i (m3 r hr), fun r i hr _ _ => e r i (m4 r hr), fun i _ => e 57 i (by decide)⟩ (fun n h1 h2 hn => ?_) (fun n h1 h2 => ?_)⟩
  · by_cases z : A v 30 n = A w 30 n
    · exact Or.inl (by rw [← z]; exact hn)
    · have y1 := (ch n z).2.2
      have y2 := ls.2.1 n z
      refine Or.inr ?_
      unfold kq at y1
      rw [if_neg (by omega)] at y1
      exact y1
  · have y := (t7.1 n h1 h2).2.2.2.2.2.2.2
    unfold RNK at y ⊢
    rw [e 28 n (by decide), e 29 n (by decide), kk n]
    exact ⟨y.1.imp id (fun ⟨x, g1, g2, g3, g4⟩ => ⟨x, g1, g2, g3, (kk x).trans g4⟩), y.2.imp id (fun y => y.imp id (fun ⟨x, g1, g2, g3, g4⟩ => ⟨x, g1, g2, g3, (kk x).trans g4⟩))⟩
section
variable {u0 u v v2 w x y : MS} {N σ TN SN j : Nat} {bw : Nat → Nat} {p o n q c f h s wt g k t D d z l p1 p2 o1 n1 n2 q1 q2 c1 c2 f1 f2 h1 h2 xb : Int} {r y1 y2 y3 : Int32} {S : SG_M_behind} {i : Nat}
def PCL (SN σ : Nat) (u v : MS) (c q : Int) (j : Nat) (q1 l : Int) : Prop := ∃ e mm : Nat → Nat, (e 0 = q.toNat ∧ e j = q1.toNat ∧ mm 0 = nmo σ u ∧ mm j = nmo σ v) ∧ (∀ i, i < j → PTT v SN (e i) (e (i + 1)) (mm i) (mm (i + 1)) (hlo σ v)) ∧ LNK v j e ∧ LSTI j e l ∧ (A v 41 c.toNat = j ∧ (0 < j → A v 40 c.toNat = q) ∧ (j = 0 → A v 40 c.toNat = -1))
theorem PCL_l (a : PCL SN σ u v c q j q1 l) (hq : 0 ≤ q ∧ q ≤ q1) : (j = 0 ∧ l = -1) ∨ (0 < j ∧ q ≤ l ∧ l < q1) := by
  obtain ⟨e, mm, ⟨e1, e2, e3, e4⟩, pt, ln, ls, -⟩ := a
  rcases ls with ⟨l1, l2⟩ | ⟨l1, l2⟩
  · exact Or.inl ⟨l1, l2⟩
  · have t1 := PTT_e pt (j - 1) (by omega)
    have t2 := (JND_le pt (j - 1) (by omega)).1
    exact Or.inr ⟨l1, by omega, by omega⟩
theorem PCL_add (a : PCL SN σ u v c q j q1 l) (b : PAQ u0 TN SN σ p1 o n q1 c1 f h s wt g v v2 r) (hq : 0 ≤ q ∧ q ≤ q1) (hq0 : j = 0 → q1 = q) (hq1 : F v 39 = q1) (hc : 0 ≤ c ∧ c < c1) (hc1 : F v 46 = c1) (hx : RG q1) (hj : j ≤ 1000) (hw : (j = 0 ∧ w = wa (wa v2 40 c.toNat q1) 41 c.toNat ((j : Int) + 1)) ∨ (0 < j ∧ w = wa (wa v2 37 l.toNat q1) 41 c.toNat ((j : Int) + 1))) : ∃ p2 q2, ST u0 σ p2 o n q2 c1 f h s wt g w ∧ (p2 ≤ TN ∧ q1 < q2 ∧ 2 * (q2 - q1) ≤ p2 - p1 + 1 ∧ p1 < p2) ∧ PCL SN σ u w c q (j + 1) q2 q1 ∧ F w 67 = 0 ∧ KPR σ v v2 ∧ (F v2 66 = 0 → A v2 60 σ ≤ 40 ∨ A v2 60 σ = A v 60 σ) ∧ A w 60 σ = A v2 60 σ ∧ F w 66 = F v2 66 ∨ p1 < 0 := by
  by_cases hp1 : p1 < 0
  · exact ⟨0, 0, Or.inr hp1⟩
  obtain ⟨e, mm, ⟨e1, e2, e3, e4⟩, pt, ln, ls, k1, k2, k3⟩ := a
  obtain ⟨b1, b2, p2, q2, b3, b4, b5, b6, b7, b8, b9⟩ := b
  have bl := PTT_lt b7
  have kp : ∀ (r i : Nat), r ∈ [33, 35, 36, 37, 38] → (i : Int) < q1 → A v2 r i = A v r i := fun r i hr hi => b4.2.1.2.1 r i hr (by rw [hq1]; exact hi)
  have kc : ∀ (r i : Nat), r ∈ [40, 41, 42, 43, 45] → (i : Int) < c1 → A v2 r i = A v r i := fun r i hr hi => b4.2.1.2.2.1 r i hr (by rw [hc1]; exact hi)
  have h63 := (b4.2.2.1.2.2.2 σ (Nat.le_refl σ)).2.1
  have ei : ∀ i, i < j → e i < e j := PTT_e pt
  have e1i : ∀ i, i ≤ j → e 0 ≤ e i := fun i hi => (JND_le pt i hi).1
  have hl : l < q1 ∧ (0 < j → q ≤ l ∧ l.toNat = e (j - 1)) := by
    rcases ls with ⟨ls, l2⟩ | ⟨ls, l2⟩
    · exact ⟨by omega, fun z => by omega⟩
    · have := ei (j - 1) (by omega)
      have := e1i (j - 1) (by omega)
      exact ⟨by omega, fun _ => by omega⟩
  have w37 : ∀ (r i : Nat), r ∈ [33, 35, 36, 37, 38] → (r = 37 → (i : Int) ≠ l ∨ j = 0) → A w r i = A v2 r i := fun r i hr hi => by
    have m1 : ∀ r, r ∈ [33, 35, 36, 37, 38] → r ≠ 40 ∧ r ≠ 41 := by decide
    rcases hw with ⟨-, hw⟩ | ⟨hj, hw⟩
    · rw [hw, wa_rne (m1 r hr).2, wa_rne (m1 r hr).1]
    · rw [hw, wa_rne (m1 r hr).2]
      by_cases z : r = 37
      · rw [wa_ne]
        rcases hi z with y | y
        · have := (hl.2 hj).1
          omega
        · omega
      · rw [wa_rne z]
  have wr : ∀ r i, r ∉ [37, 40, 41] → A w r i = A v2 r i := fun r i hr => by
    rcases hw with ⟨-, hw⟩ | ⟨-, hw⟩
    · rw [hw, wa_rne (fun z => hr (by rw [z]; decide)), wa_rne (fun z => hr (by rw [z]; decide))]
    · rw [hw, wa_rne (fun z => hr (by rw [z]; decide)), wa_rne (fun z => hr (by rw [z]; decide))]
  have wf : ∀ k, F w k = F v2 k := fun k => by
    rcases hw with ⟨-, hw⟩ | ⟨-, hw⟩
    · rw [hw, F_wa, F_wa]
    · rw [hw, F_wa, F_wa]
  have sw : ST u0 σ p2 o n q2 c1 f h s wt g w := by
    rcases hw with ⟨-, hw⟩ | ⟨-, hw⟩
    · rw [hw]; exact ST_wa (ST_wa b3 (by decide)) (by decide)
    · rw [hw]; exact ST_wa (ST_wa b3 (by decide)) (by decide)
  refine ⟨p2, q2, Or.inl ⟨sw, ⟨b5.1, b5.2.1, b5.2.2, ?_⟩, ⟨fun i => if i ≤ j then e i else q2.toNat, fun i => if i ≤ j then mm i else nmo σ w, ⟨?_, ?_, ?_, ?_⟩, fun i hi => ?_, ⟨fun i hi => ?_, fun _ => ?_⟩, Or.inr ⟨by omega, ?_⟩, ⟨?_, fun _ => ?_, fun z => by omega⟩⟩, by rw [wf]; exact b1, b4, b9, wr 60 σ (by decide), wf 66⟩⟩
  · have := (PEND_b b6).1; omega
  · simp only [if_pos (Nat.zero_le j)]; exact e1
  · simp only [if_neg (show ¬ j + 1 ≤ j by omega)]
  · simp only [if_pos (Nat.zero_le j)]; exact e3
  · simp only [if_neg (show ¬ j + 1 ≤ j by omega)]
  · by_cases z : i = j
    · subst z
      simp only [if_pos (Nat.le_refl i), if_neg (show ¬ i + 1 ≤ i by omega)]
      rw [e2, e4]
      unfold nmo hlo
      rw [wr 60 _ (by decide), wr 63 _ (by decide)]
      refine PTT_ag b7 (fun r t hr t1 t2 => ?_) (fun t t1 t2 => ?_) (Nat.le_refl _)
      · have : ∀ r, r ∈ [33, 35, 36, 38] → r ∈ [33, 35, 36, 37, 38] ∧ r ≠ 37 := by decide
        exact w37 r t (this r hr).1 (fun z => absurd z (this r hr).2)
      · exact w37 37 t (by decide) (fun _ => Or.inl (by omega))
    · simp only [if_pos (show i ≤ j by omega), if_pos (show i + 1 ≤ j by omega)]
      have hi' : i < j := by omega
      have t1' := ei i hi'
      have t2' := e1i i (by omega)
      have t3' : e (i + 1) ≤ e j := by
        rcases Nat.lt_or_ge (i + 1) j with y | y
        · exact Nat.le_of_lt (ei _ y)
        · rw [show i + 1 = j by omega]; exact Nat.le_refl _
      refine PTT_ag (pt i hi') (fun r t hr t1 t2 => ?_) (fun t t1 t2 => ?_) (by unfold hlo; rw [wr 63 _ (by decide)]; omega)
      · have : ∀ r, r ∈ [33, 35, 36, 38] → r ∈ [33, 35, 36, 37, 38] ∧ r ≠ 37 := by decide
        rw [w37 r t (this r hr).1 (fun z => absurd z (this r hr).2)]
        exact kp r t (this r hr).1 (by omega)
      · rw [w37 37 t (by decide) (fun _ => Or.inl ?_)]
        · exact kp 37 t (by decide) (by omega)
        · have h1 := (hl.2 (by omega)).2
          have h2 := (hl.2 (by omega)).1
          intro e5
          have e6 : t = e (j - 1) := by omega
          rcases Nat.lt_or_ge (i + 1) j with y | y
          · have : e (i + 1) ≤ e (j - 1) := by
              rcases Nat.lt_or_ge (i + 1) (j - 1) with y2 | y2
              · have := PTT_e (e := e) (j := j - 1) (fun a ha => pt a (by omega)) (i + 1) y2
                omega
              · rw [show i + 1 = j - 1 by omega]; exact Nat.le_refl _
            omega
          · rw [show j - 1 = i by omega] at e6; omega
  · simp only [if_pos (show i ≤ j by omega)]
    by_cases z : i + 1 = j
    · have hj0 : 0 < j := by omega
      simp only [if_pos (show i + 1 ≤ j by omega)]
      rcases hw with ⟨hj0, hw⟩ | ⟨-, hw⟩
      · omega
      · rw [hw, wa_rne (by decide), z, e2, (hl.2 hj0).2, show j - 1 = i by omega, wa_eq hx]; omega
    · simp only [if_pos (show i + 1 ≤ j by omega)]
      have t1 := ei i (by omega)
      have t2 := e1i i (by omega)
      rw [w37 37 (e i) (by decide) (fun _ => Or.inl ?_), kp 37 (e i) (by decide) (by omega)]
      · exact ln.1 i (by omega)
      · have h1 := (hl.2 (by omega)).2
        have h2 := (hl.2 (by omega)).1
        have := PTT_e (e := e) (j := j - 1) (fun a ha => pt a (by omega)) i (by omega)
        omega
  · simp only [show j + 1 - 1 = j by omega, if_pos (Nat.le_refl j)]
    rw [e2, w37 37 q1.toNat (by decide) (fun _ => Or.inl (by omega))]
    exact b8
  · simp only [show j + 1 - 1 = j by omega, if_pos (Nat.le_refl j)]; omega
  · rcases hw with ⟨-, hw⟩ | ⟨-, hw⟩
    · rw [hw, wa_eq ⟨by omega, by omega⟩]; omega
    · rw [hw, wa_eq ⟨by omega, by omega⟩]; omega
  · rcases hw with ⟨hj0, hw⟩ | ⟨hj0, hw⟩
    · rw [hw, wa_rne (by decide), wa_eq hx]; exact hq0 hj0
    · rw [hw, wa_rne (by decide), wa_rne (by decide), kc 40 c.toNat (by decide) (by omega)]; exact k2 hj0
theorem PCL_PATS (a : PCL SN σ u v c q j q1 l) (hq : 0 ≤ q) : PATS v id id q1.toNat SN (hlo σ v) (nmo σ u) (nmo σ v) j (A v 40 c.toNat) := by
  obtain ⟨e, mm, ⟨e1, e2, e3, e4⟩, pt, ln, ls, k1, k2, k3⟩ := a
  rcases Nat.eq_zero_or_pos j with z | z
  · subst z
    exact Or.inl ⟨rfl, by rw [← e3, ← e4]⟩
  · obtain ⟨pM, pE, a1, a2, a3, a4⟩ := JND_of j pt
    have c0 := CHN_e pt ln a1
    have ce := chi_e a1 j (Nat.le_refl _)
    rw [e1] at c0 ce
    have hlt := PTT_e pt 0 z
    refine Or.inr ⟨z, q.toNat, pM, pE, ?_, ?_, ?_, ?_, ?_, ?_, ?_, ?_⟩
    · rw [k2 z]; omega
    · rw [ce]; exact c0
    · rw [ce]; omega
    · rw [ce, e2]; exact Nat.le_refl _
    · rw [← e1, a2 0 (Nat.zero_le _), e3]
    · rw [ce, a2 j (Nat.le_refl _), e4]
    · rw [ce]; intro k h1 h2; rw [← e4]; exact a3 k (by omega) h2
    · rw [ce]; intro k h1 h2; rw [← e2]; exact a4 k (by omega) h2
end
