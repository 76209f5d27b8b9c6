def SEQ (w : MS) (SN g : Nat) (a b : Nat → Nat) (q q2 m m2 lo mm X Y sh : Nat) (R : Nat → Prop) : Prop :=
  ((∀ i, a i ≤ b i) ∧ (g ≠ 0 → m2 = m) ∧ lo ≤ m ∧ lo ≤ m2 ∧ m ≤ mm ∧ m2 ≤ mm ∧ q ≤ X ∧ q2 ≤ X ∧ ∀ n, R n → a 0 ≤ n ∧ n < b 0) ∧
  ∀ (Z : Nat → Nat) (h rk : Nat), Z 5 ≤ h → Z 6 ≤ lo → h + X ≤ 760 → Z 3 + Y ≤ 26 → sh ≤ Z 2 → mm + Z 2 ≤ 40 → (g = 0 → Z 4 = 0) ∧ (g = 2 → Z 4 ≠ 0) → 1 ≤ rk → rk + (b 0 - a 0) ≤ 16000 →
    ∃ T C, ETY T Z (h + q) m (a 0) ∧ ETY T Z (h + q2) m2 (b 0) ∧ tR T (b 0) = rk ∧ (a 0 < b 0 → rk < tR T (a 0)) ∧ tR T (a 0) ≤ rk + (b 0 - a 0) ∧ (∀ n, R n → kq w T n = Z 3) ∧ FRG w T C Z rk m a b SN (fun _ => False) R
section
variable {w w2 : MS} {T T1 : TY} {C C1 : CY} {Z Z1 a b c a2 b2 : Nat → Nat} {g q q2 q3 m m2 m3 lo mm X Y sh lo2 mm2 X2 Y2 sh2 rk SN : Nat} {R R1 R2 : Nat → Prop}
theorem SEQ_mo (s : SEQ w SN g a b q q2 m m2 lo mm X Y sh R) (h1 : lo2 ≤ lo) (h2 : mm ≤ mm2) (h3 : X ≤ X2) (h4 : Y ≤ Y2) (h5 : sh ≤ sh2) : SEQ w SN g a b q q2 m m2 lo2 mm2 X2 Y2 sh2 R := by
  obtain ⟨⟨s1, s2, s3, s4, s5, s6, s7, s8, s9⟩, s10⟩ := s
  refine ⟨⟨s1, s2, by omega, by omega, by omega, by omega, by omega, by omega, s9⟩, fun Z h rk z1 z2 z3 z4 z5 z6 z7 z8 z9 => ?_⟩
  exact s10 Z h rk z1 (by omega) (by omega) (by omega) (by omega) (by omega) z7 z8 z9
theorem SEQ_ro (s : SEQ w SN g a b q q2 m m2 lo mm X Y sh R) (h6 : ∀ n, R2 n → R n) (h7 : ∀ n, R n → R2 n ∨ A w 29 n = -1) : SEQ w SN g a b q q2 m m2 lo mm X Y sh R2 := by
  obtain ⟨⟨s1, s2, s3, s4, s5, s6, s7, s8, s9⟩, s10⟩ := s
  refine ⟨⟨s1, s2, s3, s4, s5, s6, s7, s8, fun n hn => s9 n (h6 n hn)⟩, fun Z h rk z1 z2 z3 z4 z5 z6 z7 z8 z9 => ?_⟩
  obtain ⟨T, C, t1, t2, t3, t4, t5, t6, t7⟩ := s10 Z h rk z1 z2 z3 z4 z5 z6 z7 z8 z9
  refine ⟨T, C, t1, t2, t3, t4, t5, fun n hn => t6 n (h6 n hn), fun n h1 h2 => ?_, t7.2⟩
  obtain ⟨n1, n2, n3, n4, n5, n6, n7, n8, n9⟩ := t7.1 n h1 h2
  refine ⟨n1, n2, n3, n4, n5, n6, n7, n8, ?_⟩
  rcases n9 with n9 | n9
  · rcases h7 n n9 with y | y
    · exact Or.inl y
    · exact Or.inr (Or.inl y)
  · exact Or.inr n9
theorem SEQ_up (s : SEQ w SN g a b q q2 m m2 lo mm X Y sh R) (e : Nat) : SEQ w SN g a b (q + e) (q2 + e) m m2 lo mm (X + e) Y sh R := by
  obtain ⟨⟨s1, s2, s3, s4, s5, s6, s7, s8, s9⟩, s10⟩ := s
  refine ⟨⟨s1, s2, s3, s4, s5, s6, by omega, by omega, s9⟩, fun Z h rk z1 z2 z3 z4 z5 z6 z7 z8 z9 => ?_⟩
  obtain ⟨T, C, t1, t2, t3⟩ := s10 Z (h + e) rk (by omega) z2 (by omega) z4 z5 z6 z7 z8 z9
  exact ⟨T, C, by rw [show h + (q + e) = h + e + q from by omega]; exact t1, by rw [show h + (q2 + e) = h + e + q2 from by omega]; exact t2, t3⟩
def cat (n : Nat) (T T1 : Nat → Nat → Nat) : Nat → Nat → Nat := fun k i => if i < n then T k i else T1 k i
theorem cat_l {n k i : Nat} {T T1 : Nat → Nat → Nat} (h : i < n) : cat n T T1 k i = T k i := if_pos h
theorem cat_r {n k i : Nat} {T T1 : Nat → Nat → Nat} (h : n ≤ i) : cat n T T1 k i = T1 k i := if_neg (by omega)
theorem ETY_eq {h mm2 n : Nat} (e : ETY T1 Z h mm2 n) (h1 : ∀ k, k ≤ 8 → T k n = T1 k n) : ETY T Z h mm2 n := by
  unfold ETY at e ⊢
  rw [h1 0 (by decide), h1 1 (by decide), h1 2 (by decide), h1 3 (by decide), h1 4 (by decide), h1 5 (by decide), h1 6 (by decide), h1 7 (by decide)]
  exact e
theorem ETY_t {h n : Nat} (e : ETY T Z h m n) : tH T n = h ∧ tM T n = m ∧ tL T n = Z 2 ∧ tK T n = Z 3 ∧ tG T n = Z 4 ∧ tB T n = Z 5 ∧ tD T n = Z 6 ∧ tC T n = Z 7 := e
theorem KOUT_eq {rk2 n : Nat} (y : KOUT T1 Z rk n) (h1 : ∀ k, k ≤ 8 → T k n = T1 k n) (hr : rk2 ≤ rk) : KOUT T Z rk2 n := by
  unfold KOUT tC tK tL tB tD tR at y ⊢
  rw [h1 7 (by decide), h1 3 (by decide), h1 2 (by decide), h1 5 (by decide), h1 6 (by decide), h1 8 (by decide)]
  exact ⟨y.1, y.2.1, y.2.2.1, y.2.2.2.1, y.2.2.2.2.1, by omega⟩
theorem GOUT_eq {rk2 n : Nat} (y : GOUT w T1 Z rk m n) (h1 : ∀ k, k ≤ 8 → T k n = T1 k n) (hr : rk2 ≤ rk) (hm : m = m2) : GOUT w T Z rk2 m2 n := by
  unfold GOUT tM tR at y ⊢
  rw [h1 1 (by decide), h1 2 (by decide), h1 3 (by decide), h1 4 (by decide), h1 5 (by decide), h1 7 (by decide), h1 8 (by decide)]
  obtain ⟨y1, y2, y3, y4, y5, y6, y7, y8⟩ := y
  exact ⟨y1, by omega, y3, y4, y5, y6, y7, by omega⟩
theorem seam {h mm2 n : Nat} (e : ETY T Z h mm2 n) (f : ETY T1 Z h mm2 n) (r : tR T n = tR T1 n) : ∀ k, k ≤ 8 → T k n = T1 k n := fun k hk => by
  obtain ⟨e0, e1, e2, e3, e4, e5, e6, e7⟩ := e
  obtain ⟨f0, f1, f2, f3, f4, f5, f6, f7⟩ := f
  match k, hk with
  | 0, _ => exact e0.trans f0.symm
  | 1, _ => exact e1.trans f1.symm
  | 2, _ => exact e2.trans f2.symm
  | 3, _ => exact e3.trans f3.symm
  | 4, _ => exact e4.trans f4.symm
  | 5, _ => exact e5.trans f5.symm
  | 6, _ => exact e6.trans f6.symm
  | 7, _ => exact e7.trans f7.symm
  | 8, _ => exact r
  | k + 9, h => exact absurd h (by omega)
theorem SEQ_app (s : SEQ w SN g a b q q2 m m2 lo mm X Y sh R1) (t : SEQ w SN g b c q2 q3 m2 m3 lo mm X Y sh R2) : SEQ w SN g a c q q3 m m3 lo mm X Y sh (fun n => R1 n ∨ R2 n) := by
  obtain ⟨⟨s1, s2, s3, s4, s5, s6, s7, s8, s9⟩, s10⟩ := s
  obtain ⟨⟨t1, t2, t3, t4, t5, t6, t7, t8, t9⟩, t10⟩ := t
  have s0 := s1 0
  have t0 := t1 0
  refine ⟨⟨fun i => Nat.le_trans (s1 i) (t1 i), fun z => (t2 z).trans (s2 z), s3, t4, s5, t6, s7, t8, fun n hn => ?_⟩, fun Z h rk z1 z2 z3 z4 z5 z6 z7 z8 z9 => ?_⟩
  · rcases hn with hn | hn
    · have := s9 n hn; omega
    · have := t9 n hn; omega
  obtain ⟨T2, C2, u1, u2, u3, u4, u5, u6, u7⟩ := t10 Z h rk z1 z2 z3 z4 z5 z6 z7 z8 (by omega)
  have hr : rk ≤ tR T2 (b 0) := by
    rcases Nat.lt_or_eq_of_le t0 with x | x
    · have := u4 x; omega
    · rw [x, u3]; exact Nat.le_refl _
  obtain ⟨T1, C1, v1, v2, v3, v4, v5, v6, v7⟩ := s10 Z h (tR T2 (b 0)) z1 z2 z3 z4 z5 z6 z7 (by omega) (by omega)
  have sm := seam v2 u1 v3
  have e1 : ∀ k n, k ≤ 8 → a 0 ≤ n → n ≤ b 0 → cat (b 0) T1 T2 k n = T1 k n := fun k n hk h1 h2 => by
    rcases Nat.lt_or_eq_of_le h2 with x | x
    · exact cat_l x
    · rw [cat_r (by omega), x]; exact (sm k hk).symm
  have e2 : ∀ k n, k ≤ 8 → b 0 ≤ n → n ≤ c 0 → cat (b 0) T1 T2 k n = T2 k n := fun k n hk h1 h2 => cat_r h1
  have f1 : ∀ k n, a 1 ≤ n → n < b 1 → cat (b 1) C1 C2 k n = C1 k n := fun k n h1 h2 => cat_l h2
  have f2 : ∀ k n, b 1 ≤ n → n < c 1 → cat (b 1) C1 C2 k n = C2 k n := fun k n h1 h2 => cat_r h1
  have A1 := FRG_tr (a2 := a) (b2 := c) (Z := Z) (rk := rk) (m := m) (E := fun _ => False) (S := fun n => R1 n ∨ R2 n) v7 (fun i => Nat.le_refl _) t1 e1 f1 (fun n h1 h2 _ y => Or.inr (KOUT_eq y (fun k hk => e1 k n hk h1 (by omega)) hr)) (fun n h1 h2 _ y => Or.inr (GOUT_eq y (fun k hk => e1 k n hk h1 (by omega)) hr rfl)) (fun n => id) (fun n => Or.inl)
  have A2 := FRG_tr (a2 := a) (b2 := c) (Z := Z) (rk := rk) (m := m) (E := fun _ => False) (S := fun n => R1 n ∨ R2 n) u7 s1 (fun i => Nat.le_refl _) e2 f2 (fun n h1 h2 _ y => Or.inr (KOUT_eq y (fun k hk => e2 k n hk h1 (by omega)) (Nat.le_refl _))) (fun n h1 h2 y0 y => Or.inr (GOUT_eq y (fun k hk => e2 k n hk h1 (by omega)) (Nat.le_refl _) (s2 (fun e => y0 (y.2.2.2.2.1.trans (z7.1 e)))))) (fun n => id) (fun n => Or.inr)
  refine ⟨cat (b 0) T1 T2, cat (b 1) C1 C2, ETY_eq v1 (fun k hk => e1 k _ hk (Nat.le_refl _) s0), ETY_eq u2 (fun k hk => e2 k _ hk t0 (Nat.le_refl _)), (e2 8 _ (by decide) t0 (Nat.le_refl _)).trans u3, fun hlt => ?_, ?_, fun n hn => ?_, fun n h1 h2 => ?_, fun n h1 h2 => ?_, fun n h1 h2 => ?_⟩
  · refine Nat.lt_of_lt_of_le ?_ (Nat.le_of_eq (e1 8 _ (by decide) (Nat.le_refl _) s0).symm)
    show rk < tR T1 (a 0)
    rcases Nat.lt_or_eq_of_le s0 with x | x
    · have := v4 x; omega
    · rw [x, v3]; exact u4 (by omega)
  · refine Nat.le_trans (Nat.le_of_eq (e1 8 _ (by decide) (Nat.le_refl _) s0)) ?_
    show tR T1 (a 0) ≤ _
    omega
  · rcases hn with hn | hn
    · have := s9 n hn
      have y := v6 n hn
      unfold kq at y ⊢
      rw [show tK (cat (b 0) T1 T2) n = tK T1 n from e1 3 n (by decide) this.1 (by omega)]
      exact y
    · have := t9 n hn
      have y := u6 n hn
      unfold kq at y ⊢
      rw [show tK (cat (b 0) T1 T2) n = tK T2 n from e2 3 n (by decide) this.1 (by omega)]
      exact y
  · rcases Nat.lt_or_ge n (b 0) with x | x
    · exact A1.1 n h1 x
    · exact A2.1 n x h2
  · rcases Nat.lt_or_ge n (b 1) with x | x
    · exact A1.2.1 n h1 x
    · exact A2.2.1 n x h2
  · rcases Nat.lt_or_ge n (b 3) with x | x
    · exact A1.2.2 n h1 x
    · exact A2.2.2 n x h2
theorem SEQ_st (s : SEQ w SN g a b q q2 m m2 lo mm X Y sh R) (ag : AG w w2 a b) (h : ∀ r n, r ∈ [28, 29, 30] → a 0 ≤ n → n < b 0 → (r = 29 → ¬ R n) → A w2 r n = A w r n) : SEQ w2 SN g a b q q2 m m2 lo mm X Y sh R := by
  refine ⟨s.1, fun Z h' rk z1 z2 z3 z4 z5 z6 z7 z8 z9 => ?_⟩
  obtain ⟨T, C, t1, t2, t3, t4, t5, t6, t7⟩ := s.2 Z h' rk z1 z2 z3 z4 z5 z6 z7 z8 z9
  have kk : ∀ n, a 0 ≤ n → n < b 0 → kq w2 T n = kq w T n := fun n h1 h2 => by unfold kq; rw [ag.2.1 23 n (by decide) h1 h2]
  refine ⟨T, C, t1, t2, t3, t4, t5, fun n hn => (kk n (s.1.2.2.2.2.2.2.2.2 n hn).1 (s.1.2.2.2.2.2.2.2.2 n hn).2).trans (t6 n hn), FRG_st t7 ag (fun n h1 h2 y => Or.inl (by rw [← h 30 n (by decide) h1 h2 (fun e => by omega)]; exact y)) (fun n h1 h2 => ?_)⟩
  have y := (t7.1 n h1 h2).2.2.2.2.2.2.2
  unfold RNK
  rw [h 28 n (by decide) h1 h2 (fun e => by omega)]
  refine ⟨y.1.imp id fun ⟨x, x1, x2, x3, x4⟩ => ⟨x, x1, x2, x3, by rw [kk x x2 x3, kk n h1 h2]; exact x4⟩, ?_⟩
  by_cases z : R n
  · exact Or.inl z
  · rw [h 29 n (by decide) h1 h2 (fun _ => z)]
    exact y.2.imp id (fun o => o.imp id fun ⟨x, x1, x2, x3, x4⟩ => ⟨x, x1, x2, x3, by rw [kk x x2 x3, kk n h1 h2]; exact x4⟩)
theorem SEQ_g2 (s : SEQ w SN 1 a b q q2 m m2 lo mm X Y sh R) : SEQ w SN 2 a b q q2 m m2 lo mm X Y sh R := ⟨⟨s.1.1, fun _ => s.1.2.1 (by decide), s.1.2.2⟩, fun Z h rk z1 z2 z3 z4 z5 z6 _ => s.2 Z h rk z1 z2 z3 z4 z5 z6 ⟨fun e => by omega, fun e => by omega⟩⟩
end
