section
variable {w w2 v x : MS} {a b : Nat → Nat} {g q q2 m m2 lo mm X Y sh SN σ many r : Nat} {R : Nat → Prop} {ret : Bool} {root : Int}
theorem SEQR_st (s : SEQR ret w SN g a b q q2 m m2 lo mm X Y sh R) (ag : AG w w2 a b) (h : ∀ r n, r ∈ [28, 29, 30] → a 0 ≤ n → n < b 0 → (r = 29 → ¬ R n) → A w2 r n = A w r n) : SEQR ret w2 SN g a b q q2 m m2 lo mm X Y sh R := by
  refine ⟨s.1, fun Z h' rk z0 z1 z2 z3 z4 z5 z6 z7 z8 z9 => ?_⟩
  obtain ⟨T, C, t1, t2, t3, t4, t5, t6, t7⟩ := s.2 Z h' rk z0 z1 z2 z3 z4 z5 z6 z7 z8 z9
  have kk : ∀ n, a 0 ≤ n → n < b 0 → kq w2 T n = kq w T n := fun n h1 h2 => by unfold kq; rw [ag.2.1 23 n (by decide) h1 h2]
  refine ⟨T, C, t1, t2, t3, t4, t5, fun n hn => (kk n (s.1.2.2.2.2.2.2.2.2 n hn).1 (s.1.2.2.2.2.2.2.2.2 n hn).2).trans (t6 n hn), FRG_st t7 ag (fun n h1 h2 y => Or.inl (by rw [← h 30 n (by decide) h1 h2 (fun e => by omega)]; exact y)) (fun n h1 h2 => ?_)⟩
  have y := (t7.1 n h1 h2).2.2.2.2.2.2.2
  unfold RNK
  rw [h 28 n (by decide) h1 h2 (fun e => by omega)]
  refine ⟨y.1.imp id fun ⟨x, x1, x2, x3, x4⟩ => ⟨x, x1, x2, x3, by rw [kk x x2 x3, kk n h1 h2]; exact x4⟩, ?_⟩
  by_cases z : R n
  · exact Or.inl z
  · rw [h 29 n (by decide) h1 h2 (fun _ => z)]
    exact y.2.imp id (fun o => o.imp id fun ⟨x, x1, x2, x3, x4⟩ => ⟨x, x1, x2, x3, by rw [kk x x2 x3, kk n h1 h2]; exact x4⟩)
theorem SEQR_mo {lo2 mm2 X2 Y2 sh2 : Nat} (s : SEQR ret w SN g a b q q2 m m2 lo mm X Y sh R) (h1 : lo2 ≤ lo) (h2 : mm ≤ mm2) (h3 : X ≤ X2) (h4 : Y ≤ Y2) (h5 : sh ≤ sh2) : SEQR ret w SN g a b q q2 m m2 lo2 mm2 X2 Y2 sh2 R := by
  obtain ⟨⟨s1, s2, s3, s4, s5, s6, s7, s8, s9⟩, s10⟩ := s
  exact ⟨⟨s1, s2, by omega, by omega, by omega, by omega, by omega, by omega, s9⟩, fun Z h rk z0 z1 z2 z3 z4 z5 z6 z7 z8 z9 => s10 Z h rk z0 z1 (by omega) (by omega) (by omega) (by omega) (by omega) z7 z8 z9⟩
def AGR (w w2 : MS) (a b : Nat → Nat) (x : Nat) : Prop := F w2 14 = F w 14 ∧ (∀ r i, r ∈ [23, 24, 25, 26, 27, 28, 29, 30, 31] → a 0 ≤ i → i < b 0 → (r = 29 → i ≠ x) → A w2 r i = A w r i) ∧ (∀ r i, r ∈ [40, 41, 42, 43, 45] → a 1 ≤ i → i < b 1 → (r = 45 → i ≠ a 1) → A w2 r i = A w r i) ∧ (∀ r i, r ∈ [33, 35, 36, 37, 38] → i < b 2 → A w2 r i = A w r i) ∧ (∀ r i, r ∈ [53, 54, 55] → a 3 ≤ i → i < b 3 → A w2 r i = A w r i) ∧ ∀ i, i < b 4 → A w2 57 i = A w 57 i
theorem PTD_ag (h : PTD w SN ret root a b many m mm X Y sh r) (ag : AGR w w2 a b r) : PTD w2 SN ret root a b many m mm X Y sh r := by
  have le := PTD_le h
  obtain ⟨mN, mE, p, e, p2, p3, ⟨h1, h2, h3, h4⟩, ⟨k1, k2, k3, k4, k5⟩, h6, ⟨h7, h8⟩, h9, h10⟩ := h
  have gl := GRD_le h6
  have sl := h8.1.1
  have ol := h9.2.2.2.2
  have rr := h8.1.2.2.2.2.2.2.2.2 r rfl
  obtain ⟨g0, g1, g2, g3, g4, g5⟩ := ag
  have pb : ∀ i, p i ≤ b i := fun i => Nat.le_trans (gl i) (Nat.le_trans (sl i) (ol i))
  have ap : ∀ i, a i ≤ p2 i := fun i => Nat.le_trans (h4 i) (gl i)
  have p3b : ∀ i, p3 i ≤ b i := ol
  have c41 := g2 41 (a 1) (by decide) (Nat.le_refl _) le.2.2.1 (fun z => by omega)
  have c40 := g2 40 (a 1) (by decide) (Nat.le_refl _) le.2.2.1 (fun z => by omega)
  have c42 := g2 42 (a 1) (by decide) (Nat.le_refl _) le.2.2.1 (fun z => by omega)
  have c43 := g2 43 (a 1) (by decide) (Nat.le_refl _) le.2.2.1 (fun z => by omega)
  have m1 : ∀ r, r ∈ [23, 24, 25, 26, 27, 31] → r ∈ [23, 24, 25, 26, 27, 28, 29, 30, 31] ∧ r ≠ 29 := by decide
  have m2 : ∀ r, r ∈ [28, 29, 30] → r ∈ [23, 24, 25, 26, 27, 28, 29, 30, 31] := by decide
  have m3 : ∀ r, r ∈ [23, 24, 28, 29] → r ∈ [23, 24, 25, 26, 27, 28, 29, 30, 31] := by decide
  have AGx : ∀ x y : Nat → Nat, (∀ i, p i ≤ x i) → (∀ i, y i ≤ b i) → AG w w2 x y := fun x y hx hy => by
    have x0 := hx 0
    have x1 := hx 1
    have x3 := hx 3
    have y0 := hy 0
    have y1 := hy 1
    have y2 := hy 2
    have y3 := hy 3
    have y4 := hy 4
    exact ⟨g0, fun r i hr z1 z2 => g1 r i (m1 r hr).1 (by omega) (by omega) (fun z => absurd z (m1 r hr).2), fun r i hr z1 z2 => g2 r i hr (by omega) (by omega) (fun _ => by omega), fun r i hr z => g3 r i hr (by omega), fun r i hr z1 z2 => g4 r i hr (by omega) (by omega), fun i z => g5 i (by omega)⟩
  have o0 := h9.1
  have o1 := h9.2.1
  have kz : ∀ i k, KND w i k → a 0 ≤ i → i < b 0 → i ≠ r → KND w2 i k := fun i k hk z1 z2 z3 => KND_eq hk (fun r hr => g1 r i (m3 r hr) z1 z2 (fun _ => z3))
  refine ⟨mN, mE, p, e, p2, p3, ⟨h1, h2, h3, h4⟩, ⟨by rw [c41]; exact k1, k2, k3, k4, ?_⟩, ?_, ⟨by rw [c43]; exact h7, SEQR_st h8 (AGx p2 p3 gl p3b) (fun r i hr z1 z2 z3 => ?_)⟩, h9, ?_⟩
  · rw [c40]
    have y2 := pb 2
    exact PATS_ag k5 (fun r i hr z => g3 r i hr (by omega))
  · rcases h6 with ⟨q1, q2⟩ | ⟨q1, q2, q3, q4⟩
    · exact Or.inl ⟨by rw [c42]; exact q1, q2⟩
    · have e2 : ∀ i, e i ≤ b i := fun i => Nat.le_trans (q4.2.2.2.2 i) (Nat.le_trans (sl i) (ol i))
      have q41 := q4.2.1
      have q21 := q2.1.1 0
      have s0 := sl 0
      refine Or.inr ⟨by rw [c42]; exact q1, SEQ_st q2 (AGx p e (fun i => Nat.le_refl _) e2) (fun r i hr z1 z2 z3 => ?_), kz _ _ q3 (by omega) (by omega) (by omega), q4⟩
      have := e2 0
      exact g1 r i (m2 r hr) (by omega) (by omega) (fun _ => by omega)
  · have := ap 0
    have := ol 0
    exact g1 r i (m2 r hr) (by omega) (by omega) z3
  · have s0 := sl 0
    have g00 := gl 0
    rcases h10 with ⟨q1, q2⟩ | ⟨q1, q2, q3, q4, q5⟩
    · exact Or.inl ⟨q1, kz _ _ q2 (by omega) (by omega) (by omega)⟩
    · have z1 : a 0 ≤ p3 0 := by omega
      have z2 : p3 0 < b 0 := by omega
      refine Or.inr ⟨q1, q2, kz _ _ q3 z1 z2 (by omega), ?_, ?_⟩
      · rw [g1 25 _ (by decide) z1 z2 (fun z => by omega)]; exact q4
      · rw [g1 26 _ (by decide) z1 z2 (fun z => by omega)]; exact q5
theorem PTD_mo {mm2 X2 Y2 sh2 : Nat} (h : PTD w SN ret root a b many m mm X Y sh r) (h1 : mm ≤ mm2) (h2 : X ≤ X2) (h3 : Y ≤ Y2) (h4 : sh ≤ sh2) : PTD w SN ret root a b many m mm2 X2 Y2 sh2 r := by
  obtain ⟨mN, mE, p, e, p2, p3, a1, ⟨k1, k2, k3, k4, k5⟩, h6, ⟨h7, h8⟩, h9, h10⟩ := h
  refine ⟨mN, mE, p, e, p2, p3, a1, ⟨k1, k2, k3, by omega, PATS_L k5 h4⟩, ?_, ⟨h7, SEQR_mo h8 (Nat.le_refl _) h1 h2 h3 h4⟩, h9, h10⟩
  rcases h6 with z | ⟨q1, q2, q3, q4⟩
  · exact Or.inl z
  · exact Or.inr ⟨q1, SEQ_mo q2 (Nat.le_refl _) h1 h2 h3 h4, q3, q4⟩
theorem AGR_kp (k : KPR σ v w) (h : ∀ i, b i ≤ mks v i) : AGR v w a b r := by
  obtain ⟨k0, ⟨k1, k2, k3, k4, k5⟩, -⟩ := k
  have b0 : b 0 ≤ (F v 32).toNat := h 0
  have b1 : b 1 ≤ (F v 46).toNat := h 1
  have b2 : b 2 ≤ (F v 39).toNat := h 2
  have b3 : b 3 ≤ (F v 56).toNat := h 3
  have b4 : b 4 ≤ (F v 58).toNat := h 4
  exact ⟨k0.F (by decide), fun r i hr _ hi _ => k1 r i hr (by omega), fun r i hr _ hi _ => k3 r i hr (by omega), fun r i hr hi => k2 r i hr (by omega), fun r i hr _ hi => k4 r i hr (by omega), fun i hi => k5 i (by omega)⟩
theorem AGR_tr (k : AGR v w a b r) (l : AGR w x a b r) : AGR v x a b r := by
  obtain ⟨k0, k1, k2, k3, k4, k5⟩ := k
  obtain ⟨l0, l1, l2, l3, l4, l5⟩ := l
  exact ⟨l0.trans k0, fun r i z1 z2 z3 z4 => (l1 r i z1 z2 z3 z4).trans (k1 r i z1 z2 z3 z4), fun r i z1 z2 z3 z4 => (l2 r i z1 z2 z3 z4).trans (k2 r i z1 z2 z3 z4), fun r i z1 z2 => (l3 r i z1 z2).trans (k3 r i z1 z2), fun r i z1 z2 z3 => (l4 r i z1 z2 z3).trans (k4 r i z1 z2 z3), fun i z1 => (l5 i z1).trans (k5 i z1)⟩
end
