section
section
variable {w w2 : MS} {T T1 : TY} {C C1 : CY} {Z Z1 a b c z a1 b1 c2 c3 c4 : Nat → Nat} {g q q2 q3 m m2 m3 mT lo mm X Y sh lo2 mm2 X2 Y2 sh2 rk rk1 SN n x y many hg hb RR k cc mN gk j f e rr : Nat} {R R1 R2 E S : Nat → Prop} {ret : Bool} {root : Int} {μ : Nat → Nat → Nat} {r : Nat → Nat}
theorem SEQ_recv0 (o0 : ONE a a1 j) (o1 : ONE a1 (μ 0) n) (h : CHD w SN false ((n : Nat) : Int) k μ r 1 m mm X Y sh) (hk : 0 < k) (o2 : ONE (μ k) z (μ k 0)) (kj : KND w j 26) (h25j : A w 25 j = ((n : Nat) : Int)) (kn : A w 23 n = 27 ∧ 0 ≤ A w 24 n ∧ A w 24 n < 4002 ∧ A w 29 n = -1) (h25 : A w 25 n = ((μ 0 1 : Nat) : Int)) (h26 : A w 26 n = ((μ k 0 : Nat) : Int)) (h27 : A w 27 n = ((m : Nat) : Int)) (h31 : A w 31 n = -1) (h28 : A w 28 n = ((r (k - 1) : Nat) : Int)) (ke : A w 23 (μ k 0) = 30 ∧ 0 ≤ A w 24 (μ k 0) ∧ A w 24 (μ k 0) < 4002 ∧ A w 29 (μ k 0) = -1) (h28e : A w 28 (μ k 0) = ((r (k - 1) : Nat) : Int)) (rl : RLS w k r) (hl : lo ≤ m) : SEQ w SN 0 a z 0 1 m m lo mm X Y sh (fun i => i = μ k 0) := by
  obtain ⟨d0, d1, d2, d3, d4⟩ := o0
  obtain ⟨p0, p1, p2, p3, p4⟩ := o1
  obtain ⟨-, u1, u2, u3, u4⟩ := o2
  obtain ⟨j1, j2, j3, j4, j5⟩ := kj
  have pm := PTD_m (h.1 0 hk)
  have cl : ∀ t, μ 0 t ≤ μ k t := fun t => by
    have := CHD_le h k 0 (by omega) t
    rw [Nat.zero_add] at this
    exact this
  have c0 := cl 0
  refine ⟨⟨fun t => Nat.le_trans (d4 t) (Nat.le_trans (p4 t) (Nat.le_trans (cl t) (u4 t))), fun _ => rfl, hl, hl, pm.1, pm.1, by omega, by omega, fun i hi => by omega⟩, fun Z hh rk z1 z2 z3 z4 z5 z6 z7 z8 z9 => ?_⟩
  have g0 : Z 4 = 0 := z7.1 rfl
  obtain ⟨T1, C1, ht⟩ := chain_ok (hg := hh) (hb := hh) (Z := Z) (rk := rk + 1) (RR := rk + 1 + (μ k 0 - μ 0 0)) (fun t => tyc Z (hh + 1) m (rk + 1) t 0) h g0 (fun y => by cases y) (by omega) (by omega) z4 z5 z6 (by omega) (by omega) (by omega) (Nat.le_refl _) (by omega)
  obtain ⟨y1, y2, y3, y5, y4⟩ := id ht
  obtain ⟨T, hT⟩ : ∃ T, T = cat (j + 1) (tyc Z hh m (rk + 3 + (μ k 0 - μ 0 0))) (cat (n + 1) (tyc Z hh m (rk + 2 + (μ k 0 - μ 0 0))) (cat (μ k 0 + 1) T1 (tyc Z (hh + 1) m rk))) := ⟨_, rfl⟩
  have ej : ETY T Z hh m j := ETY_eq (T1 := tyc Z hh m (rk + 3 + (μ k 0 - μ 0 0))) tyc_e (fun t _ => by rw [hT]; exact cat_l (by omega))
  have rj : tR T j = rk + 3 + (μ k 0 - μ 0 0) := by rw [hT]; exact (cat_l (k := 8) (by omega)).trans (tyc_r (i := 0))
  have en : ETY T Z hh m n := ETY_eq (T1 := tyc Z hh m (rk + 2 + (μ k 0 - μ 0 0))) tyc_e (fun t _ => by rw [hT, cat_r (by omega), cat_l (by omega)])
  have rn : tR T n = rk + 2 + (μ k 0 - μ 0 0) := by rw [hT]; exact ((cat_r (k := 8) (by omega)).trans (cat_l (k := 8) (by omega))).trans (tyc_r (i := 0))
  have e1 : ∀ t i, t ≤ 8 → μ 0 0 ≤ i → i ≤ μ k 0 → T t i = T1 t i := fun t i _ h1 h2 => by rw [hT, cat_r (by omega), cat_r (by omega), cat_l (by omega)]
  have ez : ETY T Z (hh + 1) m (μ k 0 + 1) := ETY_eq (T1 := tyc Z (hh + 1) m rk) tyc_e (fun t _ => by rw [hT, cat_r (by omega), cat_r (by omega), cat_r (by omega)])
  have rz : tR T (μ k 0 + 1) = rk := by rw [hT]; exact ((cat_r (k := 8) (by omega)).trans ((cat_r (k := 8) (by omega)).trans (cat_r (k := 8) (by omega)))).trans (tyc_r (i := 0))
  clear hT
  have ee : ETY T Z (hh + 1) m (μ k 0) := ETY_eq (T1 := fun t _ => tyc Z (hh + 1) m (rk + 1) t 0) (tyc_e (i := 0)) (fun t ht => (e1 t _ ht (by omega) (Nat.le_refl _)).trans (y5 t ht))
  have re : tR T (μ k 0) = rk + 1 := ((e1 8 _ (by decide) (by omega) (Nat.le_refl _)).trans (y5 8 (by decide))).trans (tyc_r (i := 0))
  have ap : ∀ t, a t ≤ μ 0 t := fun t => Nat.le_trans (d4 t) (p4 t)
  obtain ⟨n0, n1, n2, n3, n4, n5, n6, n7⟩ := ETY_t en
  obtain ⟨w0, w1, w2, w3, w4, w5, w6, w7⟩ := ETY_t ee
  have kr0 : ∀ i, i < k → kq w T (r i) = Z 3 := fun i hi => by
    have := CHD_r h hi
    exact (kq_eq (e1 3 _ (by decide) (by omega) (by omega))).trans (y3 i (by omega) hi).2.2
  obtain ⟨i1, i2, i3, kr⟩ := CHT_in (T := T) (C := C1) (a := a) (b := z) (rk := rk) (S := fun i => i = μ k 0) h ht g0 ap u4 e1 (fun _ _ _ _ => rfl) (by omega) ee (by omega) h26 (by omega) (fun i hi => by
    obtain ⟨l1, l2⟩ := rl i hi
    rcases Nat.eq_zero_or_pos i with q | q
    · exact Or.inl (l1 q)
    · have := CHD_r h (show i - 1 < k by omega)
      exact Or.inr ⟨r (i - 1), l2 q, by omega, by omega, kr0 (i - 1) (by omega)⟩)
  have kn' : kq w T n = Z 3 := by unfold kq; rw [if_neg (by omega)]; exact n3
  have ke' : kq w T (μ k 0) = Z 3 := by unfold kq; rw [if_neg (by omega)]; exact w3
  have hd := CHD_r h (show k - 1 < k by omega)
  refine ⟨T, C1, by rw [d0]; exact ej, by rw [u1]; exact ez, by rw [u1]; exact rz, fun _ => by rw [d0]; omega, by rw [d0]; omega, fun i hi => by rw [hi]; exact ke', fun i h1 h2 => ?_, fun i h1 h2 => i2 i (by omega) (by omega), fun i h1 h2 => i3 i (by omega) (by omega)⟩
  rcases Nat.lt_or_ge i (μ 0 0) with hi | hi
  · rcases Nat.lt_or_ge i n with hn | hn
    · obtain rfl : i = j := by omega
      exact NODE_26 (t := n) j1 ⟨j2, j3⟩ ej en g0 (by omega) (by omega) h25j (by omega) ⟨Or.inl j4, Or.inr (Or.inl j5)⟩
    · obtain rfl : i = n := by omega
      have hc := y1 0 (by omega) hk
      obtain ⟨_, _, _, _, _, _, -, ⟨f41, -⟩, -⟩ := h.1 0 hk
      have clk : μ 0 1 < z 1 := by
        have := (PTD_le (h.1 0 hk)).2.2.1
        have h2 := CHD_le h (k - 1) 1 (by omega) 1
        rw [show 1 + (k - 1) = k from by omega] at h2
        rw [show (0 : Nat) + 1 = 1 from rfl] at this
        omega
      refine NODE_0 (by omega) ⟨kn.2.1, kn.2.2.1⟩ en g0 (by omega) (by omega) (fun _ => ⟨fun y => by omega, fun y => by omega, fun y => by omega, fun y => by omega, fun y => by omega, fun y => by omega, fun y => by omega, fun y => by omega, fun y => by omega, fun y => by omega, fun y => by omega, fun y => ?_, fun y => by omega, fun y => by omega, fun y => by omega, fun y => by omega⟩) ⟨fun y => by omega, fun y => by omega, fun y yy => absurd h31 yy, fun _ _ => by omega, fun y => by omega, fun y => by omega⟩ ⟨Or.inr ⟨r (k - 1), h28, by omega, by omega, (kr _ (by omega)).trans kn'.symm⟩, Or.inr (Or.inl kn.2.2.2)⟩
      refine ⟨n4.trans g0, by omega, Or.inr ⟨rk + 1 + (μ k 0 - μ 0 0), by omega, μ 0 1, h25, clk, by omega, ?_⟩, Or.inl h31⟩
      rw [n0, n1, n2, n3, n7, hc.1, hc.2.1, hc.2.2.1, hc.2.2.2.1, hc.2.2.2.2.1, hc.2.2.2.2.2.1, hc.2.2.2.2.2.2]
      exact ⟨rfl, rfl, rfl, rfl, rfl, rfl, rfl⟩
  · rcases Nat.lt_or_ge i (μ k 0) with hj | hj
    · exact i1 i hi hj
    · obtain rfl : i = μ k 0 := by omega
      exact NODE_30 ke.1 ⟨ke.2.1, ke.2.2.1⟩ ee ez g0 (by omega) (by omega) ⟨Or.inr ⟨r (k - 1), h28e, by omega, by omega, (kr _ (by omega)).trans ke'.symm⟩, Or.inl rfl⟩
def HDK (w : MS) (k n c : Nat) : Prop := (k = 0 ∧ A w 25 n = -1) ∨ (0 < k ∧ A w 25 n = ((c : Nat) : Int))
def HDQ (w : MS) (k : Nat) (r : Nat → Nat) (rr : Nat) : Prop := (k = 0 ∧ A w 29 rr = -1) ∨ (0 < k ∧ A w 29 rr = ((r (k - 1) : Nat) : Int))
theorem SEQ_recv1 (o0 : ONE a a1 j) (o1 : ONE a1 (μ 0) n) (h : CHD w SN false ((n : Nat) : Int) k μ r 1 m mm X Y sh) (st : SEQ w SN 0 (μ k) c2 0 1 m mT m mm X Y sh (fun _ => False)) (o2 : ONE c2 c3 f) (sb : SEQ w SN 0 c3 c4 0 1 m m m mm X Y sh (fun i => i = rr)) (o3 : ONE c4 z e) (kj : KND w j 26) (h25j : A w 25 j = ((μ k 0 : Nat) : Int)) (kn : A w 23 n = 27 ∧ 0 ≤ A w 24 n ∧ A w 24 n < 4002 ∧ A w 29 n = -1) (h25 : HDK w k n (μ 0 1)) (h26 : A w 26 n = ((e : Nat) : Int)) (h27 : A w 27 n = ((m : Nat) : Int)) (h31 : A w 31 n = ((f : Nat) : Int)) (h28 : A w 28 n = ((rr : Nat) : Int)) (kf : KND w f 28) (h25f : A w 25 f = ((n : Nat) : Int)) (h27f : A w 27 f = ((m : Nat) : Int)) (h26f : A w 26 f = ((f + 1 : Nat) : Int)) (ke : A w 23 e = 30 ∧ 0 ≤ A w 24 e ∧ A w 24 e < 4002 ∧ A w 29 e = -1) (h28e : A w 28 e = ((rr : Nat) : Int)) (rl : RLS w k r) (hr0 : HDQ w k r rr) (hl : lo ≤ m) : SEQ w SN 0 a z 0 1 m m lo mm X Y sh (fun i => i = e) := by
  obtain ⟨d0, d1, d2, d3, d4⟩ := o0
  obtain ⟨p0, p1, p2, p3, p4⟩ := o1
  obtain ⟨v0, v1, v2, v3, v4⟩ := o2
  obtain ⟨x0, u1, u2, u3, u4⟩ := o3
  obtain ⟨j1, j2, j3, j4, j5⟩ := kj
  obtain ⟨f1, f2, f3, f4, f5⟩ := kf
  obtain ⟨⟨t1, t2, t3, t4, t5, t6, t7, t8, t9⟩, t10⟩ := st
  obtain ⟨⟨b1, b2, b3, b4, b5, b6, b7, b8, b9⟩, b10⟩ := sb
  have cl : ∀ t, μ 0 t ≤ μ k t := fun t => by
    have := CHD_le h k 0 (by omega) t
    rw [Nat.zero_add] at this
    exact this
  have c0 := cl 0
  have c1 := cl 1
  have c3' := cl 3
  have tt0 := t1 0
  have tt1 := t1 1
  have tt3 := t1 3
  have bb0 := b1 0
  have bb1 := b1 1
  have bb3 := b1 3
  have rr0 := b9 rr rfl
  have ap : ∀ t, a t ≤ μ 0 t := fun t => Nat.le_trans (d4 t) (p4 t)
  have ak : ∀ t, a t ≤ μ k t := fun t => Nat.le_trans (ap t) (cl t)
  have a3 : ∀ t, a t ≤ c3 t := fun t => Nat.le_trans (ak t) (Nat.le_trans (t1 t) (v4 t))
  have zc2 : ∀ t, c2 t ≤ z t := fun t => Nat.le_trans (v4 t) (Nat.le_trans (b1 t) (u4 t))
  have zk : ∀ t, μ k t ≤ z t := fun t => Nat.le_trans (t1 t) (zc2 t)
  refine ⟨⟨fun t => Nat.le_trans (ak t) (zk t), fun _ => rfl, hl, hl, t5, t5, by omega, by omega, fun i hi => by omega⟩, fun Z hh rk z1 z2 z3 z4 z5 z6 z7 z8 z9 => ?_⟩
  have g0 : Z 4 = 0 := z7.1 rfl
  obtain ⟨T3, C3, s1, s2, s3, s4, s5, s6, s7⟩ := b10 Z hh (rk + 1) z1 (by omega) z3 z4 z5 z6 z7 (by omega) (by omega)
  obtain ⟨RR, hRR⟩ : ∃ RR, RR = rk + 1 + (c4 0 - c3 0) + (μ k 0 - μ 0 0) := ⟨_, rfl⟩
  obtain ⟨T2, C2, q1, q2, q3, q4, q5, q6, q7⟩ := t10 Z hh (RR + 2) z1 (by omega) z3 z4 z5 z6 z7 (by omega) (by omega)
  obtain ⟨T1, C1, ht⟩ := chain_ok (hg := hh) (hb := hh) (Z := Z) (rk := rk + 1) (RR := RR) (fun t => T2 t (μ k 0)) h g0 (fun y => by cases y) (by omega) (by omega) z4 z5 z6 (by omega) (by omega) (by omega) (by omega) (by omega)
  obtain ⟨y1, y2, y3, y5, y4⟩ := id ht
  obtain ⟨C, hC⟩ : ∃ C, C = cat (μ k 1) C1 (cat (c2 1) C2 C3) := ⟨_, rfl⟩
  have eC1 : ∀ t d, μ 0 1 ≤ d → d < μ k 1 → C t d = C1 t d := fun t d _ h2 => by rw [hC]; exact cat_l h2
  have eC2 : ∀ t d, μ k 1 ≤ d → d < c2 1 → C t d = C2 t d := fun t d h1 h2 => by rw [hC, cat_r h1, cat_l h2]
  have eC3 : ∀ t d, c3 1 ≤ d → d < c4 1 → C t d = C3 t d := fun t d h1 h2 => by rw [hC, cat_r (by omega), cat_r (by omega)]
  clear hC
  obtain ⟨T, hT⟩ : ∃ T, T = cat (j + 1) (tyc Z hh m (tR T2 (μ k 0) + 1)) (cat (n + 1) (tyc Z hh m (RR + 1)) (cat (μ k 0) T1 (cat (f + 1) T2 (cat (e + 1) T3 (tyc Z (hh + 1) m rk))))) := ⟨_, rfl⟩
  have ej : ETY T Z hh m j := ETY_eq (T1 := tyc Z hh m (tR T2 (μ k 0) + 1)) tyc_e (fun t _ => by rw [hT]; exact cat_l (by omega))
  have rj : tR T j = tR T2 (μ k 0) + 1 := by rw [hT]; exact (cat_l (k := 8) (by omega)).trans (tyc_r (i := 0))
  have en : ETY T Z hh m n := ETY_eq (T1 := tyc Z hh m (RR + 1)) tyc_e (fun t _ => by rw [hT, cat_r (by omega), cat_l (by omega)])
  have rn : tR T n = RR + 1 := by rw [hT]; exact ((cat_r (k := 8) (by omega)).trans (cat_l (k := 8) (by omega))).trans (tyc_r (i := 0))
  have e2 : ∀ t i, t ≤ 8 → μ k 0 ≤ i → i ≤ c2 0 → T t i = T2 t i := fun t i _ h1 h2 => by rw [hT, cat_r (by omega), cat_r (by omega), cat_r (by omega), cat_l (by omega)]
  have e1 : ∀ t i, t ≤ 8 → μ 0 0 ≤ i → i ≤ μ k 0 → T t i = T1 t i := fun t i ht h1 h2 => by
    rcases Nat.lt_or_eq_of_le h2 with x | x
    · rw [hT, cat_r (by omega), cat_r (by omega), cat_l (by omega)]
    · rw [x, y5 t ht]; exact e2 t _ ht (Nat.le_refl _) tt0
  have e3 : ∀ t i, t ≤ 8 → c3 0 ≤ i → i ≤ c4 0 → T t i = T3 t i := fun t i _ h1 h2 => by rw [hT, cat_r (by omega), cat_r (by omega), cat_r (by omega), cat_r (by omega), cat_l (by omega)]
  have ez : ETY T Z (hh + 1) m (e + 1) := ETY_eq (T1 := tyc Z (hh + 1) m rk) tyc_e (fun t _ => by rw [hT, cat_r (by omega), cat_r (by omega), cat_r (by omega), cat_r (by omega), cat_r (by omega)])
  have rz : tR T (e + 1) = rk := by rw [hT]; exact ((cat_r (k := 8) (by omega)).trans ((cat_r (k := 8) (by omega)).trans ((cat_r (k := 8) (by omega)).trans ((cat_r (k := 8) (by omega)).trans (cat_r (k := 8) (by omega)))))).trans (tyc_r (i := 0))
  clear hT
  have ek := ETY_eq (T := T) q1 (fun t ht => e2 t _ ht (Nat.le_refl _) tt0)
  have rk' : tR T (μ k 0) = tR T2 (μ k 0) := e2 8 _ (by decide) (Nat.le_refl _) tt0
  have ef := ETY_eq (T := T) q2 (fun t ht => e2 t _ ht tt0 (Nat.le_refl _))
  have rf : tR T (c2 0) = RR + 2 := (e2 8 _ (by decide) tt0 (Nat.le_refl _)).trans q3
  have eb := ETY_eq (T := T) s1 (fun t ht => e3 t _ ht (Nat.le_refl _) bb0)
  have rb : tR T (c3 0) = tR T3 (c3 0) := e3 8 _ (by decide) (Nat.le_refl _) bb0
  have ee := ETY_eq (T := T) s2 (fun t ht => e3 t _ ht bb0 (Nat.le_refl _))
  have re : tR T (c4 0) = rk + 1 := (e3 8 _ (by decide) bb0 (Nat.le_refl _)).trans s3
  rw [v0] at ef rf
  rw [x0] at ee re
  rw [v1] at eb rb
  rw [v1] at s5
  have hr2 : RR + 2 ≤ tR T2 (μ k 0) := by
    rcases Nat.lt_or_eq_of_le tt0 with x | x
    · have := q4 x; omega
    · rw [x, q3]; exact Nat.le_refl _
  obtain ⟨n0, n1, n2, n3, n4, n5, n6, n7⟩ := ETY_t en
  obtain ⟨w0, w1, w2, w3, w4, w5, w6, w7⟩ := ETY_t ee
  obtain ⟨m0, m1, m2, m3, m4, m5, m6, m7⟩ := ETY_t ef
  have kr0 : ∀ i, i < k → kq w T (r i) = Z 3 := fun i hi => by
    have := CHD_r h hi
    exact (kq_eq (e1 3 _ (by decide) (by omega) (by omega))).trans (y3 i (by omega) hi).2.2
  have krr : kq w T rr = Z 3 := (kq_eq (e3 3 _ (by decide) (by omega) (by omega))).trans (s6 rr rfl)
  obtain ⟨i1, i2, i3, kr⟩ := CHT_in (T := T) (C := C) (a := a) (b := z) (rk := rk) (S := fun i => i = e) h ht g0 ap zk e1 eC1 (by omega) ee (by omega) h26 (by omega) (fun i hi => by
    obtain ⟨l1, l2⟩ := rl i hi
    rcases Nat.eq_zero_or_pos i with q | q
    · exact Or.inl (l1 q)
    · have := CHD_r h (show i - 1 < k by omega)
      exact Or.inr ⟨r (i - 1), l2 q, by omega, by omega, kr0 (i - 1) (by omega)⟩)
  have ti := FRG_tr (T := T) (C := C) (a2 := a) (b2 := z) (Z := Z) (rk := rk) (m := m) (E := fun _ => False) (S := fun i => i = e) q7 ak zc2 e2 eC2 (fun i h1 h2 _ y => Or.inr (KOUT_eq y (fun t ht => e2 t i ht h1 (by omega)) (by omega))) (fun i h1 h2 y0 y => absurd (y.2.2.2.2.1.trans g0) y0) (fun _ => id) (fun _ y => absurd y id)
  have bo := FRG_tr (T := T) (C := C) (a2 := a) (b2 := z) (Z := Z) (rk := rk) (m := m) (E := fun _ => False) (S := fun i => i = rr) s7 a3 u4 e3 eC3 (fun i h1 h2 _ y => Or.inr (KOUT_eq y (fun t ht => e3 t i ht h1 (by omega)) (by omega))) (fun i h1 h2 y0 y => absurd (y.2.2.2.2.1.trans g0) y0) (fun _ => id) (fun _ => id)
  have kn' : kq w T n = Z 3 := by unfold kq; rw [if_neg (by omega)]; exact n3
  have ke' : kq w T e = Z 3 := by unfold kq; rw [if_neg (by omega)]; exact w3
  refine ⟨T, C, by rw [d0]; exact ej, by rw [u1]; exact ez, by rw [u1]; exact rz, fun _ => by rw [d0]; omega, by rw [d0]; omega, fun i hi => by rw [hi]; exact ke', fun i h1 h2 => ?_, fun i h1 h2 => ?_, fun i h1 h2 => ?_⟩
  · rcases Nat.lt_or_ge i (μ 0 0) with hi | hi
    · rcases Nat.lt_or_ge i n with hn | hn
      · obtain rfl : i = j := by omega
        exact NODE_26 (t := μ k 0) j1 ⟨j2, j3⟩ ej ek g0 (by omega) (by omega) h25j (by omega) ⟨Or.inl j4, Or.inr (Or.inl j5)⟩
      · obtain rfl : i = n := by omega
        refine NODE_0 (by omega) ⟨kn.2.1, kn.2.2.1⟩ en g0 (by omega) (by omega) (fun _ => ⟨fun y => by omega, fun y => by omega, fun y => by omega, fun y => by omega, fun y => by omega, fun y => by omega, fun y => by omega, fun y => by omega, fun y => by omega, fun y => by omega, fun y => by omega, fun y => ?_, fun y => by omega, fun y => by omega, fun y => by omega, fun y => by omega⟩) ⟨fun y => by omega, fun y => by omega, fun y yy => ?_, fun _ yy => ?_, fun y => by omega, fun y => by omega⟩ ⟨Or.inr ⟨rr, h28, by omega, by omega, krr.trans kn'.symm⟩, Or.inr (Or.inl kn.2.2.2)⟩
        · refine ⟨n4.trans g0, by omega, ?_, Or.inr ⟨f, h31, by omega, f + 1, h26f, by omega, NX_c (ETY_nx en eb (by omega)) n0.symm n1.symm⟩⟩
          rcases h25 with ⟨-, h25⟩ | ⟨hk, h25⟩
          · exact Or.inl h25
          have hc := y1 0 (by omega) hk
          obtain ⟨_, _, _, _, _, _, -, ⟨f41, -⟩, -⟩ := h.1 0 hk
          have clk' : μ 0 1 < μ k 1 := by
            have := (PTD_le (h.1 0 hk)).2.2.1
            have h2 := CHD_le h (k - 1) 1 (by omega) 1
            rw [show 1 + (k - 1) = k from by omega] at h2
            rw [show (0 : Nat) + 1 = 1 from rfl] at this
            omega
          have clk : μ 0 1 < z 1 := by
            have := zk 1
            omega
          refine Or.inr ⟨RR, by omega, μ 0 1, h25, clk, by omega, ?_⟩
          rw [n0, n1, n2, n3, n7]
          exact ⟨(eC1 0 _ (Nat.le_refl _) clk').trans hc.1, (eC1 1 _ (Nat.le_refl _) clk').trans hc.2.1, (eC1 2 _ (Nat.le_refl _) clk').trans hc.2.2.1, (eC1 4 _ (Nat.le_refl _) clk').trans hc.2.2.2.1, (eC1 5 _ (Nat.le_refl _) clk').trans hc.2.2.2.2.1, (eC1 6 _ (Nat.le_refl _) clk').trans hc.2.2.2.2.2.1, (eC1 7 _ (Nat.le_refl _) clk').trans hc.2.2.2.2.2.2⟩
        · rw [h31, Int.toNat_natCast, h26f]; omega
        · rcases h25 with ⟨-, h25⟩ | ⟨hk, h25⟩
          · exact absurd h25 yy
          · omega
    rcases Nat.lt_or_ge i (μ k 0) with hj | hj
    · exact i1 i hi hj
    rcases Nat.lt_or_ge i f with hf | hf
    · exact ti.1 i hj (by omega)
    rcases Nat.lt_or_ge i (f + 1) with hg | hg
    · obtain rfl : i = f := by omega
      refine NODE_0 (by omega) ⟨f2, f3⟩ ef g0 (by omega) (by omega) (fun _ => ⟨fun y => by omega, fun y => by omega, fun y => by omega, fun y => by omega, fun y => by omega, fun y => by omega, fun y => by omega, fun y => by omega, fun y => by omega, fun y => by omega, fun y => by omega, fun y => by omega, fun _ => ?_, fun y => by omega, fun y => by omega, fun y => by omega⟩) ⟨fun _ => by omega, fun y => by omega, fun y => by omega, fun y => by omega, fun y => by omega, fun _ => by omega⟩ ⟨Or.inl f4, Or.inr (Or.inl f5)⟩
      exact ⟨m4.trans g0, by omega, m, h27f, by omega, by omega, n, h25f, by omega, kn.1, by omega, NX_c (ETY_nx ef en (by omega)) (by omega) rfl⟩
    rcases Nat.lt_or_ge i e with hh' | hh'
    · refine NODE_S (bo.1 i (by omega) (by omega)) (fun hi => Or.inr ?_)
      rw [hi]
      rcases hr0 with ⟨-, q⟩ | ⟨hk, q⟩
      · exact Or.inl q
      · have := CHD_r h (show k - 1 < k by omega)
        exact Or.inr ⟨r (k - 1), q, by omega, by omega, (kr _ (by omega)).trans krr.symm⟩
    · obtain rfl : i = e := by omega
      exact NODE_30 ke.1 ⟨ke.2.1, ke.2.2.1⟩ ee ez g0 (by omega) (by omega) ⟨Or.inr ⟨rr, h28e, by omega, by omega, krr.trans ke'.symm⟩, Or.inl rfl⟩
  · rcases Nat.lt_or_ge i (μ k 1) with hj | hj
    · exact i2 i (by omega) hj
    rcases Nat.lt_or_ge i (c2 1) with hf | hf
    · exact ti.2.1 i hj hf
    · exact bo.2.1 i (by omega) (by omega)
  · rcases Nat.lt_or_ge i (μ k 3) with hj | hj
    · exact i3 i (by omega) hj
    rcases Nat.lt_or_ge i (c2 3) with hf | hf
    · exact ti.2.2 i hj hf
    · exact bo.2.2 i (by omega) (by omega)
end
end
section
section
variable {w w2 : MS} {T T1 : TY} {C C1 : CY} {Z Z1 a b c z a1 b1 c2 c3 c4 : Nat → Nat} {m mm X Y sh mm2 X2 Y2 sh2 lo rk SN n x y many hf j e u rr : Nat} {root : Int}
theorem SEQ_fun (hj : a 0 = j ∧ a 3 = u) (ha : a1 0 = j + 1 ∧ a1 1 = a 1 ∧ a1 3 = u + 1 ∧ ∀ i, a i ≤ a1 i) (h : PTD w SN true root a1 b1 many 0 mm2 X2 Y2 sh2 rr) (h45 : A w 45 (a 1) = -1) (h29 : A w 29 rr = -1) (hz : b1 0 = e ∧ z 0 = e + 1 ∧ z 1 = b1 1 ∧ z 3 = b1 3 ∧ ∀ i, b1 i ≤ z i) (kj : KND w j 26) (h25 : A w 25 j = ((e : Nat) : Int)) (ke : KND w e 14) (h25e : A w 25 e = ((u : Nat) : Int))
    (h53 : A w 53 u = ((a 1 : Nat) : Int)) (h54 : A w 54 u = ((hf : Nat) : Int)) (h55 : A w 55 u = ((x : Nat) : Int)) (hx : x + hf ≤ z 4) (hn : ∀ i, i < hf → NCO (A w 57 (x + i)) m sh) (hb : X2 + 6 ≤ 760 ∧ Y2 ≤ 26 ∧ sh2 ≤ hf ∧ mm2 + hf ≤ 40) (hr : lo ≤ m ∧ m ≤ mm ∧ 1 ≤ X) : SEQ w SN 0 a z 0 1 m m lo mm X Y sh (fun i => i = e) := by
  obtain ⟨a2, a3, a4, a5⟩ := ha
  obtain ⟨b2, b3, b4, b5, b6⟩ := hz
  obtain ⟨j1, j2, j3, j4, j5⟩ := kj
  obtain ⟨f1, f2, f3, f4, f5⟩ := ke
  have pl := PTD_le h
  have pl1 := pl.1 1
  have pl3 := pl.1 3
  have az : ∀ t, a t ≤ z t := fun t => Nat.le_trans (a5 t) (Nat.le_trans (pl.1 t) (b6 t))
  refine ⟨⟨az, fun _ => rfl, by omega, by omega, by omega, by omega, by omega, by omega, fun i hi => by omega⟩, fun Z hh rk z1 z2 z3 z4 z5 z6 z7 z8 z9 => ?_⟩
  have g0 : Z 4 = 0 := z7.1 rfl
  have ch : CHD w SN true root 1 (fun i => if i = 0 then a1 else b1) (fun _ => rr) many 0 mm2 X2 Y2 sh2 := by
    refine ⟨fun i hi => ?_, fun i hi => by omega, fun _ => by show A w 45 (a1 1) = -1; rw [a3]; exact h45⟩
    obtain rfl : i = 0 := Nat.lt_one_iff.mp hi
    exact h
  have hm6 : many ≤ 6 ∧ A w 41 (a1 1) = many := by
    obtain ⟨_, _, _, _, _, _, -, ⟨f41, fm, -⟩, -⟩ := h
    exact ⟨fm, f41⟩
  obtain ⟨T1, C1, ht⟩ := chain_ok (hg := many) (hb := 0) (Z := fun t => if t = 2 then hf else 0) (rk := 1) (RR := 1 + (e - (j + 1))) (fun t => tyc Z hh m (rk + 1) t 0) ch (by simp) (fun _ => by simp) (by omega) (by omega) (by simp; omega) (by simp; omega) (by simp; omega) (by simp) (by simp) (Nat.le_refl _) (by show 1 + (b1 0 - a1 0) ≤ _; omega) (by omega)
  obtain ⟨y1, y2, y3, y5, y4⟩ := ht
  replace y5 : ∀ t, t ≤ 8 → T1 t (b1 0) = tyc Z hh m (rk + 1) t 0 := y5
  replace y4 : FRG w T1 C1 (fun t => if t = 2 then hf else 0) 1 0 a1 b1 SN (CE true 1 fun i => if i = 0 then a1 else b1) (CS2 1 fun _ => rr) := y4
  obtain ⟨T, hT⟩ : ∃ T, T = cat (j + 1) (tyc Z hh m (rk + 2)) (cat (e + 1) T1 (tyc Z (hh + 1) m rk)) := ⟨_, rfl⟩
  have ej : ETY T Z hh m j := ETY_eq (T1 := tyc Z hh m (rk + 2)) tyc_e (fun t _ => by rw [hT]; exact cat_l (by omega))
  have rj : tR T j = rk + 2 := by rw [hT]; exact (cat_l (k := 8) (by omega)).trans (tyc_r (i := 0))
  have e1 : ∀ t i, t ≤ 8 → a1 0 ≤ i → i ≤ b1 0 → T t i = T1 t i := fun t i _ h1 h2 => by rw [hT, cat_r (by omega), cat_l (by omega)]
  have ez : ETY T Z (hh + 1) m (e + 1) := ETY_eq (T1 := tyc Z (hh + 1) m rk) tyc_e (fun t _ => by rw [hT, cat_r (by omega), cat_r (by omega)])
  have rz : tR T (e + 1) = rk := by rw [hT]; exact ((cat_r (k := 8) (by omega)).trans (cat_r (k := 8) (by omega))).trans (tyc_r (i := 0))
  clear hT
  have ee : ETY T Z hh m e := ETY_eq (T1 := fun t _ => tyc Z hh m (rk + 1) t 0) (tyc_e (i := 0)) (fun t ht => by rw [← b2]; exact (e1 t _ ht (by omega) (Nat.le_refl _)).trans (y5 t ht))
  have re : tR T e = rk + 1 := by rw [← b2]; exact ((e1 8 _ (by decide) (by omega) (Nat.le_refl _)).trans (y5 8 (by decide))).trans (tyc_r (i := 0))
  have inn := FRG_tr (T := T) (C := C1) (a2 := a) (b2 := z) (Z := Z) (rk := rk) (m := m) (E := fun _ => False) (S := fun i => i = rr) y4 a5 b6 e1 (fun _ _ _ _ => rfl) (fun i h1 h2 y0 y => by have := y.2.1; simp at this; omega) (fun i h1 h2 y0 y => by have := y.2.2.2.2.1; simp at this; exact absurd this y0) (fun i y => by cases y.1) (fun i y => by obtain ⟨_, _, q⟩ := y; exact q)
  obtain ⟨w0, w1, w2, w3, w4, w5, w6, w7⟩ := ETY_t ee
  have ke' : kq w T e = Z 3 := by unfold kq; rw [if_neg (by omega)]; exact w3
  have hc := y1 0 (Nat.le_refl _) (by decide)
  simp only [if_true] at hc
  refine ⟨T, C1, by rw [hj.1]; exact ej, by rw [b3]; exact ez, by rw [b3]; exact rz, fun _ => by rw [hj.1]; omega, by rw [hj.1]; omega, fun i hi => by rw [hi]; exact ke', fun i h1 h2 => ?_, fun i h1 h2 => inn.2.1 i (by omega) (by omega), fun i h1 h2 => ?_⟩
  · rcases Nat.lt_or_ge i (j + 1) with hi | hi
    · obtain rfl : i = j := by omega
      exact NODE_26 (t := e) j1 ⟨j2, j3⟩ ej ee g0 (by omega) (by omega) h25 (by omega) ⟨Or.inl j4, Or.inr (Or.inl j5)⟩
    rcases Nat.lt_or_ge i e with hi2 | hi2
    · exact NODE_S (inn.1 i (by omega) (by omega)) (fun q => Or.inr (Or.inl (by rw [q]; exact h29)))
    · obtain rfl : i = e := by omega
      refine NODE_0 (by omega) ⟨f2, f3⟩ ee g0 (by omega) (by omega) (fun _ => ⟨fun y => by omega, fun y => by omega, fun _ => ?_, fun y => by omega, fun y => by omega, fun y => by omega, fun y => by omega, fun y => by omega, fun y => by omega, fun y => by omega, fun y => by omega, fun y => by omega, fun y => by omega, fun y => by omega, fun y => by omega, fun y => by omega⟩) ⟨fun y => by omega, fun y => by omega, fun y => by omega, fun y => by omega, fun _ => by omega, fun y => by omega⟩ ⟨Or.inl f4, Or.inr (Or.inl f5)⟩
      refine ⟨w4.trans g0, ⟨u, h25e, by omega, fun i hi => ?_⟩, NX_c (ETY_nx ee ez (by omega)) (by omega) w1.symm⟩
      rw [h54] at hi
      rw [h55, Int.toNat_natCast, w1, w2]
      exact (hn i (by omega)).imp id (fun q => by omega)
  · rcases Nat.lt_or_ge i (u + 1) with hi | hi
    · obtain rfl : i = u := by omega
      refine ⟨⟨many, hf, 1 + (e - (j + 1)), h54, by omega, by omega, by omega, hm6.1, ?_⟩, by omega⟩
      rw [h53, ← a3]
      refine ⟨a1 1, rfl, by omega, hm6.2, ?_⟩
      have hc2 := hc
      simp at hc2
      exact hc2
    · exact inn.2.2 i (by omega) (by omega)
end
end
section
def IS (u : MS) (s : Int) : Prop := A u 6 (F u 69).toNat = 6 ∧ A u 7 (F u 69).toNat = s
def IW (u : MS) (s : Int) : Prop := A u 6 (F u 69).toNat = 3 ∧ A u 7 (F u 69).toNat = s
def TSO (u : MS) : Int := A u 6 (F u 69).toNat
def RG (x : Int) : Prop := -2147483648 ≤ x ∧ x < 2147483648
section
variable {α β : Type} {Q : MS → α → Prop} {u v w : MS} {N : Nat} {s t x y : Int}
theorem k_in {k n : Nat} {x : Int} {y : Option (MS × α)} (hk : ln k = n) (hn : n < 2147483648) (h : 0 ≤ x ∧ x < n) (q : OK Q y) : OK Q (ck (inb (I x) (ln k)) y) := ok_ck.mpr ⟨inb_at hk h.1 h.2 hn, q⟩
theorem k_eq {x y : Int} {p q : Option (MS × α)} (h1 : RG x) (h2 : RG y) (a : x = y → OK Q p) (b : x ≠ y → OK Q q) : OK Q (br (decide (I x = I y)) p q) := by
  rw [decE h1.1 h1.2 h2.1 h2.2]
  exact ok_br.mpr ⟨fun z => a (of_decide_eq_true z), fun z => b (of_decide_eq_false z)⟩
theorem k_le {x y : Int} {p q : Option (MS × α)} (h1 : RG x) (h2 : RG y) (a : x ≤ y → OK Q p) (b : y < x → OK Q q) : OK Q (br (decide (I x ≤ I y)) p q) := by
  rw [decI h1.1 h1.2 h2.1 h2.2]
  exact ok_br.mpr ⟨fun z => a (of_decide_eq_true z), fun z => b (by have := of_decide_eq_false z; omega)⟩
theorem k_lt {x y : Int} {p q : Option (MS × α)} (h1 : RG x) (h2 : RG y) (a : x < y → OK Q p) (b : y ≤ x → OK Q q) : OK Q (br (decide (I x < I y)) p q) := by
  rw [decL h1.1 h1.2 h2.1 h2.2]
  exact ok_br.mpr ⟨fun z => a (of_decide_eq_true z), fun z => b (by have := of_decide_eq_false z; omega)⟩
theorem FRG1 (u : MS) (k : Nat) : RG (F u k) := F_r u k
theorem ARG1 (u : MS) (k i : Nat) : RG (A u k i) := A_r u k i
theorem k_F {k : Nat} {y : Int} {c : Int32} {p q : Option (MS × α)} (hc : c = I y) (h2 : RG y) (a : F u k = y → OK Q p) (b : F u k ≠ y → OK Q q) : OK Q (br (decide (u.1 k = c)) p q) := by
  rw [I_F, hc]
  exact k_eq (FRG1 u k) h2 a b
theorem k_A {k i : Nat} {y : Int} {c : Int32} {p q : Option (MS × α)} (hc : c = I y) (h2 : RG y) (a : A u k i = y → OK Q p) (b : A u k i ≠ y → OK Q q) : OK Q (br (decide (u.2.2.1 k i = c)) p q) := by
  rw [I_A, hc]
  exact k_eq (ARG1 u k i) h2 a b
theorem k_at {k j n : Nat} {y : Option (MS × α)} (hk : ln k = n) (hn : n < 2147483648) (h : 0 ≤ F u j ∧ F u j < n) (q : OK Q y) : OK Q (ck (inb (u.1 j) (ln k)) y) := by
  rw [I_F]
  exact k_in hk hn h q
theorem tn_F {k : Nat} : (u.1 k).toNatClampNeg = (F u k).toNat := rfl
theorem br10 {p q : α} : br (decide ((1 : Int32) = 0)) p q = q := rfl
theorem br00 {p q : α} : br (decide ((0 : Int32) = 0)) p q = p := rfl
theorem isSign_1 (hp : 0 ≤ F u 69 ∧ F u 69 ≤ 4001) (hs : RG s) (h : IS u s) : fm_M_isSign N u (I s) = some (u, 1) := by
  unfold fm_M_isSign fb_M_isSign_0 fb_M_isSign_32
  rw [I_F (k := 69), inb_at (k := 6) (n := 4002) rfl (by omega) (by omega) (by decide), inb_at (k := 7) (n := 4002) rfl (by omega) (by omega) (by decide), ck_t, ck_t, I_tn (by omega) (by omega), I_A (k := 6), I_A (k := 7), h.1, h.2]
  rw [show decide (I 6 = (6 : Int32)) = true from rfl, br_tq, decide_eq_true rfl, br_tq]
  rfl
theorem isSign_0 (hp : 0 ≤ F u 69 ∧ F u 69 ≤ 4001) (hs : RG s) (h : ¬ IS u s) : fm_M_isSign N u (I s) = some (u, 0) := by
  unfold fm_M_isSign fb_M_isSign_0 fb_M_isSign_31 fb_M_isSign_32
  rw [I_F (k := 69), inb_at (k := 6) (n := 4002) rfl (by omega) (by omega) (by decide), inb_at (k := 7) (n := 4002) rfl (by omega) (by omega) (by decide), ck_t, ck_t, I_tn (by omega) (by omega), I_A (k := 6), I_A (k := 7), show (6 : Int32) = I 6 from rfl, decE (A_r u 6 _).1 (A_r u 6 _).2 (by omega) (by omega), decE (A_r u 7 _).1 (A_r u 7 _).2 hs.1 hs.2]
  by_cases e : A u 6 (F u 69).toNat = 6
  · rw [decide_eq_true e, br_tq, decide_eq_false (fun z => h ⟨e, z⟩), br_fq]; rfl
  · rw [decide_eq_false e, br_fq]; rfl
theorem isWord_1 (hp : 0 ≤ F u 69 ∧ F u 69 ≤ 4001) (hs : RG s) (h : IW u s) : fm_M_isWord N u (I s) = some (u, 1) := by
  unfold fm_M_isWord fb_M_isWord_0 fb_M_isWord_31
  rw [I_F (k := 69), inb_at (k := 6) (n := 4002) rfl (by omega) (by omega) (by decide), inb_at (k := 7) (n := 4002) rfl (by omega) (by omega) (by decide), ck_t, ck_t, I_tn (by omega) (by omega), I_A (k := 6), I_A (k := 7), h.1, h.2]
  rw [show decide (I 3 = (3 : Int32)) = true from rfl, br_tq, decide_eq_true rfl, br_tq]
  rfl
theorem isWord_0 (hp : 0 ≤ F u 69 ∧ F u 69 ≤ 4001) (hs : RG s) (h : ¬ IW u s) : fm_M_isWord N u (I s) = some (u, 0) := by
  unfold fm_M_isWord fb_M_isWord_0 fb_M_isWord_30 fb_M_isWord_31
  rw [I_F (k := 69), inb_at (k := 6) (n := 4002) rfl (by omega) (by omega) (by decide), inb_at (k := 7) (n := 4002) rfl (by omega) (by omega) (by decide), ck_t, ck_t, I_tn (by omega) (by omega), I_A (k := 6), I_A (k := 7), show (3 : Int32) = I 3 from rfl, decE (A_r u 6 _).1 (A_r u 6 _).2 (by omega) (by omega), decE (A_r u 7 _).1 (A_r u 7 _).2 hs.1 hs.2]
  by_cases e : A u 6 (F u 69).toNat = 3
  · rw [decide_eq_true e, br_tq, decide_eq_false (fun z => h ⟨e, z⟩), br_fq]; rfl
  · rw [decide_eq_false e, br_fq]; rfl
theorem k_isSign {c : Int32} {f g : MS → Int32 → Option (MS × α)} (hc : c = I s) (hs : RG s) (hp : 0 ≤ F u 69 ∧ F u 69 ≤ 4001) (a : IS u s → OK Q (g u 1)) (b : ¬ IS u s → OK Q (f u 0)) : OK Q (bnd (fm_M_isSign N u c) (fun u1 r1 => br (decide (r1 = 0)) (f u1 r1) (g u1 r1))) := by
  rw [hc]
  by_cases e : IS u s
  · rw [isSign_1 hp hs e, bnd_so, br10]; exact a e
  · rw [isSign_0 hp hs e, bnd_so, br00]; exact b e
theorem k_isWord {c : Int32} {f g : MS → Int32 → Option (MS × α)} (hc : c = I s) (hs : RG s) (hp : 0 ≤ F u 69 ∧ F u 69 ≤ 4001) (a : IW u s → OK Q (g u 1)) (b : ¬ IW u s → OK Q (f u 0)) : OK Q (bnd (fm_M_isWord N u c) (fun u1 r1 => br (decide (r1 = 0)) (f u1 r1) (g u1 r1))) := by
  rw [hc]
  by_cases e : IW u s
  · rw [isWord_1 hp hs e, bnd_so, br10]; exact a e
  · rw [isWord_0 hp hs e, bnd_so, br00]; exact b e
def nx1 (u : MS) : MS := wi u 69 (F u 69 + 1)
theorem nx1_e : upI u 69 ((u.1 69) + 1) = nx1 u := by unfold nx1; rw [I_F (k := 69), lit1q, I_add]; rfl
theorem takeSign_1 (hp : 0 ≤ F u 69 ∧ F u 69 ≤ 4001) (hs : RG s) (hf : F u 67 = 0) (h : IS u s) : fm_M_takeSign N u (I s) = some (nx1 u, 1) := by
  unfold fm_M_takeSign fb_M_takeSign_0
  rw [I_F' hf, show decide (I 0 = (0 : Int32)) = true from rfl, br_tq, isSign_1 hp hs h, bnd_so, br10, nx1_e]
  rfl
theorem takeSign_0 (hp : 0 ≤ F u 69 ∧ F u 69 ≤ 4001) (hs : RG s) (h : F u 67 ≠ 0 ∨ ¬ IS u s) : fm_M_takeSign N u (I s) = some (u, 0) := by
  unfold fm_M_takeSign fb_M_takeSign_0 fb_M_takeSign_15
  rw [I_F (k := 67), lit0q, decE (F_r u 67).1 (F_r u 67).2 (by omega) (by omega)]
  by_cases e : F u 67 = 0
  · rw [decide_eq_true e, br_tq, isSign_0 hp hs (h.resolve_left (fun z => z e)), bnd_so]; rfl
  · rw [decide_eq_false e, br_fq]; rfl
theorem takeWord_1 (hp : 0 ≤ F u 69 ∧ F u 69 ≤ 4001) (hs : RG s) (hf : F u 67 = 0) (h : IW u s) : fm_M_takeWord N u (I s) = some (nx1 u, 1) := by
  unfold fm_M_takeWord fb_M_takeWord_0
  rw [I_F' hf, show decide (I 0 = (0 : Int32)) = true from rfl, br_tq, isWord_1 hp hs h, bnd_so, br10, nx1_e]
  rfl
theorem takeWord_0 (hp : 0 ≤ F u 69 ∧ F u 69 ≤ 4001) (hs : RG s) (h : F u 67 ≠ 0 ∨ ¬ IW u s) : fm_M_takeWord N u (I s) = some (u, 0) := by
  unfold fm_M_takeWord fb_M_takeWord_0 fb_M_takeWord_15
  rw [I_F (k := 67), lit0q, decE (F_r u 67).1 (F_r u 67).2 (by omega) (by omega)]
  by_cases e : F u 67 = 0
  · rw [decide_eq_true e, br_tq, isWord_0 hp hs (h.resolve_left (fun z => z e)), bnd_so]; rfl
  · rw [decide_eq_false e, br_fq]; rfl
theorem k_takeSign {c : Int32} {f : MS → Int32 → Option (MS × α)} (hc : c = I s) (hs : RG s) (hp : 0 ≤ F u 69 ∧ F u 69 ≤ 4001) (a : F u 67 = 0 → IS u s → OK Q (f (nx1 u) 1)) (b : F u 67 ≠ 0 ∨ ¬ IS u s → OK Q (f u 0)) : OK Q (bnd (fm_M_takeSign N u c) f) := by
  rw [hc]
  by_cases e : F u 67 = 0 ∧ IS u s
  · rw [takeSign_1 hp hs e.1 e.2, bnd_so]; exact a e.1 e.2
  · have e2 : F u 67 ≠ 0 ∨ ¬ IS u s := by
      by_cases z : F u 67 = 0
      · exact Or.inr (fun y => e ⟨z, y⟩)
      · exact Or.inl z
    rw [takeSign_0 hp hs e2, bnd_so]; exact b e2
theorem k_takeWord {c : Int32} {f : MS → Int32 → Option (MS × α)} (hc : c = I s) (hs : RG s) (hp : 0 ≤ F u 69 ∧ F u 69 ≤ 4001) (a : F u 67 = 0 → IW u s → OK Q (f (nx1 u) 1)) (b : F u 67 ≠ 0 ∨ ¬ IW u s → OK Q (f u 0)) : OK Q (bnd (fm_M_takeWord N u c) f) := by
  rw [hc]
  by_cases e : F u 67 = 0 ∧ IW u s
  · rw [takeWord_1 hp hs e.1 e.2, bnd_so]; exact a e.1 e.2
  · have e2 : F u 67 ≠ 0 ∨ ¬ IW u s := by
      by_cases z : F u 67 = 0
      · exact Or.inr (fun y => e ⟨z, y⟩)
      · exact Or.inl z
    rw [takeWord_0 hp hs e2, bnd_so]; exact b e2
theorem k_wrong {c : Int32} {f : MS → Unit → Option (MS × α)} (hc : c = I s) (hs : RG s) (h0 : s ≠ 0) (hp : 0 ≤ F u 69 ∧ F u 69 ≤ 4001) (a : ∀ v, FR [67, 68] [] [] [] u v → F v 67 ≠ 0 → OK Q (f v ())) : OK Q (bnd (fm_M_wrong N u c) f) := by
  rw [hc]
  unfold fm_M_wrong fb_M_wrong_0 fb_M_wrong_27 fb_M_wrong_43
  rw [I_F (k := 67), lit0q, decE (F_r u 67).1 (F_r u 67).2 (by omega) (by omega)]
  by_cases e : F u 67 = 0
  · rw [decide_eq_true e, br_tq, I_F (k := 69), inb_at (k := 6) (n := 4002) rfl (by omega) (by omega) (by decide), ck_t]
    refine ok_bnd.mpr (ok_br.mpr ⟨fun _ => ?_, fun _ => ?_⟩)
    · refine ok_lt.mpr ?_
      rw [show (1 : Int32) = I 1 from rfl, wi_e, show (wi u 67 1).1 69 = u.1 69 from rfl, I_F (k := 69)]
      refine ok_ck.mpr ⟨inb_at (k := 8) (n := 4002) rfl (by omega) (by omega) (by decide), ok_lt.mpr (ok_some.mpr ?_)⟩
      rw [I_of ((wi u 67 1).2.2.1 8 _), wi_e]
      refine a _ (FR.wi (FR.wi FR.rf (by decide)) (by decide)) ?_
      rw [F_wi (ti_rng _).1 (ti_rng _).2, if_neg (by decide), F_wi (by omega) (by omega), if_pos rfl]
      decide
    · refine ok_lt.mpr ?_
      rw [wi_e, show (wi u 67 s).1 69 = u.1 69 from rfl, I_F (k := 69)]
      refine ok_ck.mpr ⟨inb_at (k := 8) (n := 4002) rfl (by omega) (by omega) (by decide), ok_lt.mpr (ok_some.mpr ?_)⟩
      rw [I_of ((wi u 67 s).2.2.1 8 _), wi_e]
      refine a _ (FR.wi (FR.wi FR.rf (by decide)) (by decide)) ?_
      rw [F_wi (ti_rng _).1 (ti_rng _).2, if_neg (by decide), F_wi hs.1 hs.2, if_pos rfl]
      exact h0
  · rw [decide_eq_false e, br_fq, bnd_so]
    exact a u FR.rf e
theorem k_needSign {c : Int32} {f : MS → Unit → Option (MS × α)} (hc : c = I s) (hs : RG s) (hp : 0 ≤ F u 69 ∧ F u 69 ≤ 4001) (a : F u 67 = 0 → IS u s → OK Q (f (nx1 u) ())) (b : ∀ v, FR [67, 68] [] [] [] u v → F v 67 ≠ 0 → OK Q (f v ())) : OK Q (bnd (fm_M_needSign N u c) f) := by
  refine ok_bnd.mpr ?_
  unfold fm_M_needSign fb_M_needSign_0 fb_M_needSign_13
  refine k_takeSign hc hs hp (fun h1 h2 => ?_) (fun h => ?_)
  · rw [br10]; exact ok_some.mpr (a h1 h2)
  · rw [br00]
    exact k_wrong (s := 2) rfl ⟨by decide, by decide⟩ (by decide) hp (fun v h1 h2 => ok_some.mpr (b v h1 h2))
theorem k_needWord {c : Int32} {f : MS → Unit → Option (MS × α)} (hc : c = I s) (hs : RG s) (hp : 0 ≤ F u 69 ∧ F u 69 ≤ 4001) (a : F u 67 = 0 → IW u s → OK Q (f (nx1 u) ())) (b : ∀ v, FR [67, 68] [] [] [] u v → F v 67 ≠ 0 → OK Q (f v ())) : OK Q (bnd (fm_M_needWord N u c) f) := by
  refine ok_bnd.mpr ?_
  unfold fm_M_needWord fb_M_needWord_0 fb_M_needWord_13
  refine k_takeWord hc hs hp (fun h1 h2 => ?_) (fun h => ?_)
  · rw [br10]; exact ok_some.mpr (a h1 h2)
  · rw [br00]
    exact k_wrong (s := 2) rfl ⟨by decide, by decide⟩ (by decide) hp (fun v h1 h2 => ok_some.mpr (b v h1 h2))
theorem k_rule {c d : Int32} {f : MS → Unit → Option (MS × α)} (hc : c = I s) (hs : RG s) (h0 : s ≠ 0) (hd : d = I t) (ht : 0 ≤ t ∧ t < 4002) (h71 : 0 ≤ F u 71 ∧ F u 71 < 4002) (a : ∀ v, FR [71, 72] [] [] [] u v → F v 72 ≠ 0 → 0 ≤ F v 71 ∧ F v 71 < 4002 → OK Q (f v ())) : OK Q (bnd (fm_M_rule N u c d) f) := by
  rw [hc, hd]
  unfold fm_M_rule fb_M_rule_0 fb_M_rule_31 fb_M_rule_41
  have y : OK (fun u r => OK Q (f u r)) (lt (upI u 72 (I s)) (fun w1 => lt (upI w1 71 (I t)) (fun w2 => some (w2, ())))) := by
    refine ok_lt.mpr (ok_lt.mpr (ok_some.mpr ?_))
    refine a _ (FR.wi (FR.wi FR.rf (by decide)) (by decide)) ?_ ?_
    · show F (wi (wi u 72 s) 71 t) 72 ≠ 0
      rw [F_wi (by omega) (by omega), if_neg (by decide), F_wi hs.1 hs.2, if_pos rfl]; exact h0
    · show 0 ≤ F (wi (wi u 72 s) 71 t) 71 ∧ F (wi (wi u 72 s) 71 t) 71 < 4002
      rw [F_wi (by omega) (by omega), if_pos rfl]; exact ht
  refine ok_bnd.mpr (k_F (y := 0) rfl ⟨by decide, by decide⟩ (fun _ => y) (fun h => ok_br.mpr ⟨fun _ => y, fun _ => ok_br.mpr ⟨fun _ => ok_br.mpr ⟨fun _ => ok_some.mpr (a u FR.rf h h71), fun _ => y⟩, fun _ => ok_some.mpr (a u FR.rf h h71)⟩⟩))
def op1 (u : MS) : MS := wi u 70 (F u 70 + 1)
theorem op1_e : upI u 70 ((u.1 70) + 1) = op1 u := by unfold op1; rw [I_F (k := 70), lit1q, I_add]; rfl
def clo1 (u : MS) : MS := wi u 70 (F u 70 - 1)
theorem clo1_e : upI u 70 ((u.1 70) - 1) = clo1 u := by unfold clo1; rw [I_F (k := 70), lit1q, I_sub]; rfl
theorem k_opens {f : MS → Unit → Option (MS × α)} (hp : 0 ≤ F u 69 ∧ F u 69 ≤ 4001) (a : F u 70 < 25 → OK Q (f (op1 u) ())) (b : ∀ v, 25 ≤ F u 70 → FR [67, 68] [] [] [] u v → F v 67 ≠ 0 → OK Q (f (op1 v) ())) : OK Q (bnd (fm_M_opens N u) f) := by
  refine ok_bnd.mpr ?_
  unfold fm_M_opens fb_M_opens_0 fb_M_opens_14
  rw [op1_e, I_F (k := 70), show (25 : Int32) = I 25 from rfl]
  refine k_lt (FRG1 u 70) ⟨by decide, by decide⟩ (fun h => ?_) (fun h => ?_)
  · exact ok_lt.mpr (ok_some.mpr (a h))
  · exact k_wrong (s := 3) rfl ⟨by decide, by decide⟩ (by decide) hp (fun v h1 h2 => by rw [op1_e]; exact ok_lt.mpr (ok_some.mpr (b v h h1 h2)))
end
end
section
def PfI : List Nat := [32, 39, 46, 56, 58, 65, 66, 67, 68, 69, 70, 71, 72, 73, 75, 77, 83, 84]
def PfA : List Nat := [23, 24, 25, 26, 27, 28, 29, 30, 31, 33, 35, 36, 37, 38, 40, 41, 42, 43, 44, 45, 53, 54, 55, 57, 59, 60, 61, 62, 63, 64, 74, 76, 78, 79, 80, 81, 82]
def nu (u0 : MS) (i : Nat) : Nat := if i = 0 then 1 else if A u0 6 (i - 1) = 1 ∨ A u0 6 (i - 1) = 2 ∨ A u0 6 (i - 1) = 3 ∨ A u0 6 (i - 1) = 4 then 0 else 1
theorem nu_le (u0 : MS) (i : Nat) : nu u0 i ≤ 1 := by
  unfold nu
  split
  · exact Nat.le_refl _
  · split <;> omega
def TKW (u0 : MS) (TN SN : Nat) (bw : Nat → Nat) : Prop :=
  (TN ≤ 4000 ∧ A u0 6 TN = 0) ∧
  (∀ i, i < TN → 1 ≤ A u0 6 i ∧ A u0 6 i ≤ 7 ∧ (A u0 6 i = 1 → 0 ≤ A u0 7 i ∧ A u0 7 i < F u0 14) ∧ (A u0 6 i = 2 → 0 ≤ A u0 7 i ∧ A u0 7 i < F u0 17) ∧ (A u0 6 i = 3 → 0 ≤ A u0 7 i ∧ A u0 7 i ≤ 14) ∧ (A u0 6 i = 5 → 0 ≤ A u0 7 i ∧ A u0 7 i < SN)) ∧
  (0 ≤ F u0 17 ∧ F u0 17 ≤ 1342 ∧ ∀ k : Nat, (k : Int) < F u0 17 → 0 ≤ A u0 16 k ∧ A u0 16 k ≤ 4900) ∧
  (∀ i, i < TN → bw i + 1 ≤ bw (i + 1) ∧ (A u0 6 i = 3 → A u0 7 i = 6 ∨ A u0 7 i = 7 → bw i + 3 ≤ bw (i + 1)) ∧ (A u0 6 i = 6 → A u0 7 i = 10 → bw i + 2 ≤ bw (i + 1)) ∧ (A u0 6 i = 5 → bw i + 2 ≤ bw (i + 1)) ∧ (A u0 6 i = 3 → A u0 7 i = 6 → bw i + 4 ≤ bw (i + 1) + nu u0 i)) ∧ bw TN ≤ 4000
def SCP (nm : Int) (σ : Nat) (u : MS) : Prop := ∀ s, s ≤ σ → (0 ≤ A u 60 s ∧ A u 60 s ≤ A u 64 s ∧ 0 ≤ A u 63 s ∧ A u 63 s ≤ 60 ∧ A u 64 s ≤ 1400) ∧
  (∀ i : Nat, (i : Int) < A u 60 s → 0 ≤ A u 59 (1400 * s + i) ∧ A u 59 (1400 * s + i) < nm ∧ ∀ j, j < i → A u 59 (1400 * s + j) ≠ A u 59 (1400 * s + i)) ∧
  (s = 0 → A u 63 s = 0) ∧ ∀ i : Nat, (i : Int) < A u 63 s → 0 < s → NCO (A u 62 (1400 * s + i)) (A u 60 (s - 1)).toNat (A u 63 (s - 1)).toNat
def K44 (u : MS) : Prop := ∀ i, 0 ≤ A u 44 i ∧ A u 44 i < 4002
def NGD (u0 : MS) (u : MS) : Prop := ∀ i : Nat, (i : Int) < F u 32 → 0 ≤ A u 24 i ∧ A u 24 i < 4002 ∧ (A u 23 i = 12 → 0 ≤ A u 25 i ∧ A u 25 i < F u0 14)
def ST (u0 : MS) (σ : Nat) (p o n q c f h s w g : Int) (u : MS) : Prop :=
  FR PfI [] PfA [34] u0 u ∧ (F u 69 = p ∧ F u 70 = o ∧ F u 32 = n ∧ F u 39 = q ∧ F u 46 = c ∧ F u 56 = f ∧ F u 58 = h ∧ F u 75 = 8 * s ∧ F u 77 = 54 * s ∧ F u 83 = w ∧ F u 73 = g ∧ F u 65 = σ) ∧
  ((0 ≤ F u 71 ∧ F u 71 < 4002) ∧ (g = 0 ∨ g = 1) ∧ (F u 66 = 0 ∨ F u 66 = 1)) ∧ SCP (F u0 17) σ u ∧ K44 u ∧ NGD u0 u
def FSM (u0 : MS) (TN σ : Nat) (d : Int) (u : MS) : Prop :=
  FR PfI [] PfA [34] u0 u ∧ F u 67 ≠ 0 ∧ (0 ≤ F u 69 ∧ F u 69 ≤ TN + 1 ∧ 0 ≤ F u 71 ∧ F u 71 < 4002) ∧ F u 65 = σ ∧ (0 ≤ F u 32 ∧ F u 32 ≤ 12000 + d) ∧ (0 ≤ F u 58 ∧ F u 58 + 60 * σ ≤ 23400) ∧ (∀ s, s ≤ σ → 0 ≤ A u 63 s ∧ A u 63 s ≤ 60) ∧ K44 u
def NM (TN : Nat) (bw : Nat → Nat) (k j l : Int) (σ : Nat) (p o n q c f h s w : Int) : Prop :=
  (0 ≤ p ∧ p ≤ TN ∧ TN ≤ 4000) ∧ (0 ≤ o ∧ o ≤ 25) ∧ (0 ≤ n ∧ n ≤ 3 * p) ∧ (0 ≤ q ∧ 2 * q ≤ p) ∧ (0 ≤ c ∧ 3 * c ≤ p + 3 * o + k) ∧ (0 ≤ f ∧ f ≤ c) ∧ (0 ≤ h ∧ 11 * h ≤ 60 * bw p.toNat) ∧ (σ + j ≤ o) ∧ (0 ≤ s ∧ s + l ≤ o) ∧ (0 ≤ w ∧ 2 * w ≤ p + 2 * o) ∧ bw p.toNat ≤ 4000
def KPR (σ : Nat) (u v : MS) : Prop :=
  FR PfI [] PfA [34] u v ∧
  ((∀ (r i : Nat), r ∈ [23, 24, 25, 26, 27, 28, 29, 30, 31] → (i : Int) < F u 32 → A v r i = A u r i) ∧ (∀ (r i : Nat), r ∈ [33, 35, 36, 37, 38] → (i : Int) < F u 39 → A v r i = A u r i) ∧ (∀ (r i : Nat), r ∈ [40, 41, 42, 43, 45] → (i : Int) < F u 46 → A v r i = A u r i) ∧ (∀ (r i : Nat), r ∈ [53, 54, 55] → (i : Int) < F u 56 → A v r i = A u r i) ∧ (∀ i : Nat, (i : Int) < F u 58 → A v 57 i = A u 57 i)) ∧
  ((∀ (s i : Nat), s ≤ σ → (i : Int) < A u 60 s → A v 59 (1400 * s + i) = A u 59 (1400 * s + i)) ∧ (∀ (r s i : Nat), r ∈ [61, 62] → s ≤ σ → (i : Int) < A u 63 s → A v r (1400 * s + i) = A u r (1400 * s + i)) ∧ (∀ s, s < σ → A v 60 s = A u 60 s) ∧ (∀ s, s ≤ σ → A u 60 s ≤ A v 60 s ∧ A u 63 s ≤ A v 63 s ∧ A u 64 s ≤ A v 64 s)) ∧
  ((∀ i : Nat, (i : Int) < F u 75 → A v 74 i = A u 74 i) ∧ (∀ i : Nat, (i : Int) < F u 77 → A v 76 i = A u 76 i) ∧ (∀ (r i : Nat), r ∈ [79, 80, 81, 82] → (i : Int) < F u 83 → A v r i = A u r i)) ∧
  (F u 32 ≤ F v 32 ∧ F u 39 ≤ F v 39 ∧ F u 46 ≤ F v 46 ∧ F u 56 ≤ F v 56 ∧ F u 58 ≤ F v 58 ∧ F u 75 ≤ F v 75 ∧ F u 77 ≤ F v 77 ∧ F u 83 ≤ F v 83) ∧ (F v 72 = 0 → F u 72 = 0) ∧ (F v 66 = 0 → F u 66 = 0)
def DLT (bw : Nat → Nat) (x y : Int) (b : Nat) (p n q c f h p2 n2 q2 c2 f2 h2 : Int) : Prop :=
  p + y ≤ p2 ∧ n ≤ n2 ∧ n2 - n + x ≤ 3 * (p2 - p) ∧ q ≤ q2 ∧ 2 * (q2 - q) ≤ p2 - p ∧ c ≤ c2 ∧ 3 * (c2 - c) + y ≤ p2 - p ∧ f ≤ f2 ∧ f2 - f ≤ c2 - c ∧ h ≤ h2 ∧ 11 * (h2 - h) + 60 * (b : Int) ≤ 60 * ((bw p2.toNat : Int) - bw p.toNat)
section
variable {u0 u v w : MS} {TN SN σ : Nat} {bw : Nat → Nat} {p o n q c f h s wt g k j l d : Int}
theorem bw_le (t : TKW u0 TN SN bw) {i : Nat} : ∀ m, i + m ≤ TN → bw i + m ≤ bw (i + m) := by
  intro m
  induction m with
  | zero => intro _; exact Nat.le_refl _
  | succ m ih =>
    intro hm
    have h1 := ih (by omega)
    have h2 := (t.2.2.2.1 (i + m) (by omega)).1
    have h3 : i + (m + 1) = i + m + 1 := by omega
    rw [h3]
    omega
theorem bw_mono (t : TKW u0 TN SN bw) {i m : Nat} (h1 : i ≤ m) (h2 : m ≤ TN) : bw i + (m - i) ≤ bw m := by
  have := bw_le t (i := i) (m - i) (by omega)
  rwa [show i + (m - i) = m from by omega] at this
theorem bw_top (t : TKW u0 TN SN bw) {i : Nat} (h : i ≤ TN) : bw i ≤ 4000 := by
  have := bw_mono t h (Nat.le_refl TN)
  have := t.2.2.2.2
  omega
theorem KPR_rf : KPR σ u u := ⟨FR.rf, ⟨fun _ _ _ _ => rfl, fun _ _ _ _ => rfl, fun _ _ _ _ => rfl, fun _ _ _ _ => rfl, fun _ _ => rfl⟩, ⟨fun _ _ _ _ => rfl, fun _ _ _ _ _ _ => rfl, fun _ _ => rfl, fun _ _ => ⟨Int.le_refl _, Int.le_refl _, Int.le_refl _⟩⟩, ⟨fun _ _ => rfl, fun _ _ => rfl, fun _ _ _ _ => rfl⟩, ⟨Int.le_refl _, Int.le_refl _, Int.le_refl _, Int.le_refl _, Int.le_refl _, Int.le_refl _, Int.le_refl _, Int.le_refl _⟩, id, id⟩
theorem KPR_tr (a : KPR σ u v) (b : KPR σ v w) : KPR σ u w := by
  obtain ⟨a0, ⟨a1, a2, a3, a4, a5⟩, ⟨a6, a7, a8, a9⟩, ⟨a10, a11, a12⟩, ⟨a13, a14, a15, a16, a17, a18, a19, a20⟩, a21, a22⟩ := a
  obtain ⟨b0, ⟨b1, b2, b3, b4, b5⟩, ⟨b6, b7, b8, b9⟩, ⟨b10, b11, b12⟩, ⟨b13, b14, b15, b16, b17, b18, b19, b20⟩, b21, b22⟩ := b
  refine ⟨FR.tr a0 b0, ⟨fun r i h1 h2 => (b1 r i h1 (by omega)).trans (a1 r i h1 h2), fun r i h1 h2 => (b2 r i h1 (by omega)).trans (a2 r i h1 h2), fun r i h1 h2 => (b3 r i h1 (by omega)).trans (a3 r i h1 h2), fun r i h1 h2 => (b4 r i h1 (by omega)).trans (a4 r i h1 h2), fun i h2 => (b5 i (by omega)).trans (a5 i h2)⟩, ⟨fun s i h1 h2 => (b6 s i h1 (by have := a9 s h1; omega)).trans (a6 s i h1 h2), fun r s i h0 h1 h2 => (b7 r s i h0 h1 (by have := a9 s h1; omega)).trans (a7 r s i h0 h1 h2), fun s h1 => (b8 s h1).trans (a8 s h1), fun s h1 => ?_⟩, ⟨fun i h2 => (b10 i (by omega)).trans (a10 i h2), fun i h2 => (b11 i (by omega)).trans (a11 i h2), fun r i h1 h2 => (b12 r i h1 (by omega)).trans (a12 r i h1 h2)⟩, ⟨by omega, by omega, by omega, by omega, by omega, by omega, by omega, by omega⟩, fun z => a21 (b21 z), fun z => a22 (b22 z)⟩
  have := a9 s h1
  have := b9 s h1
  omega
theorem KPR_dn (a : KPR (σ + 1) u v) : KPR σ u v := by
  obtain ⟨a0, a1, ⟨a6, a7, a8, a9⟩, a10⟩ := a
  exact ⟨a0, a1, ⟨fun s i h1 => a6 s i (by omega), fun r s i h0 h1 => a7 r s i h0 (by omega), fun s h1 => a8 s (by omega), fun s h1 => a9 s (by omega)⟩, a10⟩
theorem KPR_fr {is : List Nat} {js : List Nat} (a : FR is [] js [34] u v) (h1 : is ⊆ [67, 68, 69, 70, 71, 73, 84]) (h2 : js ⊆ [44, 78]) : KPR σ u v := by
  have f : ∀ k, k ∉ [67, 68, 69, 70, 71, 73, 84] → F v k = F u k := fun k hk => a.F (fun z => hk (h1 z))
  have g : ∀ k i, k ∉ [44, 78] → A v k i = A u k i := fun k i hk => a.A (fun z => hk (h2 z))
  refine ⟨FR.mo a (fun k z => ?_) (fun k z => z) (fun k z => ?_) (fun k z => z), ⟨fun r i hr _ => g r i ?_, fun r i hr _ => g r i ?_, fun r i hr _ => g r i ?_, fun r i hr _ => g r i ?_, fun i _ => g 57 i (by decide)⟩, ⟨fun s i _ _ => g 59 _ (by decide), fun r s i hr _ _ => g r _ ?_, fun s _ => g 60 s (by decide), fun s _ => ?_⟩, ⟨fun i _ => g 74 i (by decide), fun i _ => g 76 i (by decide), fun r i hr _ => g r i ?_⟩, ?_, ?_, ?_⟩
  · have hk := h1 z
    have : ∀ k, k ∈ [67, 68, 69, 70, 71, 73, 84] → k ∈ PfI := by decide
    exact this k hk
  · have hk := h2 z
    have : ∀ k, k ∈ [44, 78] → k ∈ PfA := by decide
    exact this k hk
  · have : ∀ r, r ∈ [23, 24, 25, 26, 27, 28, 29, 30, 31] → r ∉ [44, 78] := by decide
    exact this r hr
  · have : ∀ r, r ∈ [33, 35, 36, 37, 38] → r ∉ [44, 78] := by decide
    exact this r hr
  · have : ∀ r, r ∈ [40, 41, 42, 43, 45] → r ∉ [44, 78] := by decide
    exact this r hr
  · have : ∀ r, r ∈ [53, 54, 55] → r ∉ [44, 78] := by decide
    exact this r hr
  · have : ∀ r, r ∈ [61, 62] → r ∉ [44, 78] := by decide
    exact this r hr
  · rw [g 60 s (by decide), g 63 s (by decide), g 64 s (by decide)]
    exact ⟨Int.le_refl _, Int.le_refl _, Int.le_refl _⟩
  · have : ∀ r, r ∈ [79, 80, 81, 82] → r ∉ [44, 78] := by decide
    exact this r hr
  · rw [f 32 (by decide), f 39 (by decide), f 46 (by decide), f 56 (by decide), f 58 (by decide), f 75 (by decide), f 77 (by decide), f 83 (by decide)]
    exact ⟨Int.le_refl _, Int.le_refl _, Int.le_refl _, Int.le_refl _, Int.le_refl _, Int.le_refl _, Int.le_refl _, Int.le_refl _⟩
  · rw [f 72 (by decide)]; exact id
  · rw [f 66 (by decide)]; exact id
theorem SCP_fr {is ls as js : List Nat} {nm : Int} (h : SCP nm σ u) (a : FR is ls as js u v) (h1 : ∀ k, k ∈ as → k ∉ [59, 60, 62, 63, 64]) : SCP nm σ v := by
  intro s hs
  have g : ∀ k i, k ∈ [59, 60, 62, 63, 64] → A v k i = A u k i := fun k i hk => a.A (fun z => h1 k z hk)
  obtain ⟨q1, q2, q3, q4⟩ := h s hs
  rw [g 60 s (by decide), g 63 s (by decide), g 64 s (by decide), g 60 (s - 1) (by decide), g 63 (s - 1) (by decide)]
  exact ⟨q1, fun i hi => by rw [g 59 _ (by decide)]; exact ⟨(q2 i hi).1, (q2 i hi).2.1, fun j hj => by rw [g 59 _ (by decide)]; exact (q2 i hi).2.2 j hj⟩, q3, fun i hi => by rw [g 62 _ (by decide)]; exact q4 i hi⟩
end
end
